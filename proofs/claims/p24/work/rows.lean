section
-- ===== PART A: goes FIRST, ahead of the names: the tables' words, and 'selects' of the private methods out of them =====
/-- a private method of a class that the tables say can be made, by its rows of tables_1 -/
def lw_okq (q : MethodName × Nat) : Prop := (q.1.cls ≠ "java/lang/invoke/MethodHandle" ∧ q.1.cls ≠ "java/lang/invoke/VarHandle") ∧ Cond.instantiable q.1.cls q.2 ∈ tables_1 ∧ Cond.privateMethod q.1 ∈ tables_1 ∧ Cond.instanceMethod q.1 ∈ tables_1
theorem lw_p0 : lw_okq (⟨"SealedGroups$History", "rowAt", "(I)LSealedGroups$Store;"⟩, 3) := ⟨⟨by decide +kernel, by decide +kernel⟩, List.mem_of_getElem? (i := 193) (by decide +kernel), List.mem_of_getElem? (i := 269) (by decide +kernel), List.mem_of_getElem? (i := 270) (by decide +kernel)⟩
theorem lw_p1 : lw_okq (⟨"SealedGroups$Restarter", "look", "(LSealedGroups$Journal;)V"⟩, 6) := ⟨⟨by decide +kernel, by decide +kernel⟩, List.mem_of_getElem? (i := 168) (by decide +kernel), List.mem_of_getElem? (i := 326) (by decide +kernel), List.mem_of_getElem? (i := 327) (by decide +kernel)⟩
theorem lw_p2 : lw_okq (⟨"SealedGroups$Restarter", "lookAt", "(LSealedGroups$Journal;I)V"⟩, 6) := ⟨⟨by decide +kernel, by decide +kernel⟩, List.mem_of_getElem? (i := 168) (by decide +kernel), List.mem_of_getElem? (i := 346) (by decide +kernel), List.mem_of_getElem? (i := 347) (by decide +kernel)⟩
theorem lw_p3 : lw_okq (⟨"SealedGroups$Restarter", "doAgain", "(LSealedGroups$Journal;LSealedGroups$Pages;)V"⟩, 6) := ⟨⟨by decide +kernel, by decide +kernel⟩, List.mem_of_getElem? (i := 168) (by decide +kernel), List.mem_of_getElem? (i := 350) (by decide +kernel), List.mem_of_getElem? (i := 351) (by decide +kernel)⟩
theorem lw_p4 : lw_okq (⟨"SealedGroups$Restarter", "leastStart", "()I"⟩, 6) := ⟨⟨by decide +kernel, by decide +kernel⟩, List.mem_of_getElem? (i := 168) (by decide +kernel), List.mem_of_getElem? (i := 354) (by decide +kernel), List.mem_of_getElem? (i := 355) (by decide +kernel)⟩
theorem lw_p5 : lw_okq (⟨"SealedGroups$Restarter", "isAfterStart", "(II)Z"⟩, 6) := ⟨⟨by decide +kernel, by decide +kernel⟩, List.mem_of_getElem? (i := 168) (by decide +kernel), List.mem_of_getElem? (i := 358) (by decide +kernel), List.mem_of_getElem? (i := 359) (by decide +kernel)⟩
theorem lw_p6 : lw_okq (⟨"SealedGroups$Restarter", "takeLosersBack", "(LSealedGroups$Store;)V"⟩, 6) := ⟨⟨by decide +kernel, by decide +kernel⟩, List.mem_of_getElem? (i := 168) (by decide +kernel), List.mem_of_getElem? (i := 370) (by decide +kernel), List.mem_of_getElem? (i := 371) (by decide +kernel)⟩
theorem lw_p7 : lw_okq (⟨"SealedGroups$Restarter", "noteTakenBack", "(I)V"⟩, 6) := ⟨⟨by decide +kernel, by decide +kernel⟩, List.mem_of_getElem? (i := 168) (by decide +kernel), List.mem_of_getElem? (i := 374) (by decide +kernel), List.mem_of_getElem? (i := 375) (by decide +kernel)⟩
theorem lw_p8 : lw_okq (⟨"SealedGroups$Restarter", "isTakenBack", "(I)Z"⟩, 6) := ⟨⟨by decide +kernel, by decide +kernel⟩, List.mem_of_getElem? (i := 168) (by decide +kernel), List.mem_of_getElem? (i := 391) (by decide +kernel), List.mem_of_getElem? (i := 392) (by decide +kernel)⟩
theorem lw_p9 : lw_okq (⟨"SealedGroups$Store", "errorOfEnding", "(II)I"⟩, 5) := ⟨⟨by decide +kernel, by decide +kernel⟩, List.mem_of_getElem? (i := 21) (by decide +kernel), List.mem_of_getElem? (i := 520) (by decide +kernel), List.mem_of_getElem? (i := 521) (by decide +kernel)⟩
def lw_privs_1 : List (MethodName × Nat) := [(⟨"SealedGroups$History", "rowAt", "(I)LSealedGroups$Store;"⟩, 3), (⟨"SealedGroups$Restarter", "look", "(LSealedGroups$Journal;)V"⟩, 6), (⟨"SealedGroups$Restarter", "lookAt", "(LSealedGroups$Journal;I)V"⟩, 6), (⟨"SealedGroups$Restarter", "doAgain", "(LSealedGroups$Journal;LSealedGroups$Pages;)V"⟩, 6), (⟨"SealedGroups$Restarter", "leastStart", "()I"⟩, 6), (⟨"SealedGroups$Restarter", "isAfterStart", "(II)Z"⟩, 6), (⟨"SealedGroups$Restarter", "takeLosersBack", "(LSealedGroups$Store;)V"⟩, 6), (⟨"SealedGroups$Restarter", "noteTakenBack", "(I)V"⟩, 6), (⟨"SealedGroups$Restarter", "isTakenBack", "(I)Z"⟩, 6), (⟨"SealedGroups$Store", "errorOfEnding", "(II)I"⟩, 5)]
theorem lw_r1 : ∀ q ∈ lw_privs_1, lw_okq q := List.forall_mem_cons.mpr ⟨lw_p0, List.forall_mem_cons.mpr ⟨lw_p1, List.forall_mem_cons.mpr ⟨lw_p2, List.forall_mem_cons.mpr ⟨lw_p3, List.forall_mem_cons.mpr ⟨lw_p4, List.forall_mem_cons.mpr ⟨lw_p5, List.forall_mem_cons.mpr ⟨lw_p6, List.forall_mem_cons.mpr ⟨lw_p7, List.forall_mem_cons.mpr ⟨lw_p8, List.forall_mem_cons.mpr ⟨lw_p9, fun _ h => absurd h List.not_mem_nil⟩⟩⟩⟩⟩⟩⟩⟩⟩⟩
def lw_privs : List (MethodName × Nat) := lw_privs_1
def lw_tbl : List Cond := k2_sels lw_privs ++ tables_1
theorem lw_privs_ok : ∀ q ∈ lw_privs, lw_okq q := lw_r1
end
section
/-! ===== BEGIN words of one list among another's, by their places ===== -/
theorem goodIn_r {big : List Cond} (ws : List Cond) (ps : List Nat) (hp : ws = ps.filterMap (fun i => big[i]?)) (h : ws.all goodWord = true) : GoodIn big ws := by
  intro w hw
  have h1 := List.all_eq_true.mp h w hw
  rw [hp] at hw
  obtain ⟨i, -, hi⟩ := List.mem_filterMap.mp hw
  have hm : w ∈ big := by first | exact List.mem_of_getElem? hi | exact List.getElem?_mem hi
  exact ⟨hm, good_of_word h1⟩
theorem goodIn_app {big a b : List Cond} (ha : GoodIn big a) (hb : GoodIn big b) : GoodIn big (a ++ b) := fun w h => (List.mem_append.mp h).elim (ha w) (hb w)
theorem goodIn_ca {big a b : List Cond} {c : Cond} (ha : GoodIn big (c :: a)) (hb : GoodIn big b) : GoodIn big (c :: (a ++ b)) := fun w h => (List.mem_cons.mp h).elim (fun e => ha w (List.mem_cons.mpr (Or.inl e))) (fun h => (List.mem_append.mp h).elim (fun h => ha w (List.mem_cons.mpr (Or.inr h))) (hb w))
theorem goodIn_sub {big ws : List Cond} (hm : ∀ w ∈ ws, w ∈ big) (h : ws.all goodWord = true) : GoodIn big ws := fun w hw => ⟨hm w hw, good_of_word (List.all_eq_true.mp h w hw)⟩
/-! ===== END ===== -/

/-! ===== BEGIN printed: names, fields, word lists, decode rows ===== -/
def RX0 : String := "SealedGroups$Groups"
def TX0 : u_T := fun k => match k with
  | 0 => ("SealedGroups$Groups", "begins", "[I", true)
  | 1 => ("SealedGroups$Groups", "writes", "[I", true)
  | 2 => ("SealedGroups$Groups", "held", "[I", true)
  | _ => ("SealedGroups$Groups", "open", "I", false)
def tyX0 : Nat → FieldType := fun k => match k with
  | 0 => .array .int
  | 1 => .array .int
  | 2 => .array .int
  | _ => .int
abbrev wsX00 : List Cond := u_ws RX0 TX0 4
theorem nmX0 : ∀ a, a < 4 → ∀ b, b < 4 → a ≠ b → (TX0 a).2.1 ≠ (TX0 b).2.1 := by decide +kernel
theorem tyX0_ok : ∀ k, k < 4 → parseFieldDescriptor (TX0 k).2.2.1 = some (tyX0 k) := by decide +kernel
abbrev cX0_init : ByteArray := prog_2_method_1_code
def yX0_init : MethodName := ⟨RX0, "<init>", "()V"⟩
abbrev cX0_copyFrom : ByteArray := prog_2_method_2_code
def yX0_copyFrom : MethodName := ⟨RX0, "copyFrom", "(LSealedGroups$Groups;)V"⟩
abbrev cX0_isOpen : ByteArray := prog_2_method_3_code
def yX0_isOpen : MethodName := ⟨RX0, "isOpen", "(I)Z"⟩
abbrev cX0_enter : ByteArray := prog_2_method_4_code
def yX0_enter : MethodName := ⟨RX0, "enter", "(II)V"⟩
abbrev cX0_hold : ByteArray := prog_2_method_5_code
def yX0_hold : MethodName := ⟨RX0, "hold", "(II)V"⟩
abbrev cX0_leave : ByteArray := prog_2_method_6_code
def yX0_leave : MethodName := ⟨RX0, "leave", "(I)V"⟩
abbrev cX0_holderOf : ByteArray := prog_2_method_7_code
def yX0_holderOf : MethodName := ⟨RX0, "holderOf", "(I)I"⟩
abbrev cX0_beginOf : ByteArray := prog_2_method_8_code
def yX0_beginOf : MethodName := ⟨RX0, "beginOf", "(I)I"⟩
abbrev cX0_writesOf : ByteArray := prog_2_method_9_code
def yX0_writesOf : MethodName := ⟨RX0, "writesOf", "(I)I"⟩
abbrev cX0_heldBy : ByteArray := prog_2_method_10_code
def yX0_heldBy : MethodName := ⟨RX0, "heldBy", "(I)I"⟩
abbrev cX0_tell : ByteArray := prog_2_method_11_code
def yX0_tell : MethodName := ⟨RX0, "tell", "(II)I"⟩
def RX1 : String := "SealedGroups$History"
def TX1 : u_T := fun k => match k with
  | 0 => ("SealedGroups$History", "rows", "[LSealedGroups$Store;", true)
  | 1 => ("SealedGroups$History", "oldest", "I", false)
  | _ => ("SealedGroups$History", "size", "I", false)
def tyX1 : Nat → FieldType := fun k => match k with
  | 0 => .array (.object "SealedGroups$Store")
  | 1 => .int
  | _ => .int
abbrev wsX10 : List Cond := u_ws RX1 TX1 3
theorem nmX1 : ∀ a, a < 3 → ∀ b, b < 3 → a ≠ b → (TX1 a).2.1 ≠ (TX1 b).2.1 := by decide +kernel
theorem tyX1_ok : ∀ k, k < 3 → parseFieldDescriptor (TX1 k).2.2.1 = some (tyX1 k) := by decide +kernel
abbrev cX1_init : ByteArray := prog_3_method_1_code
def yX1_init : MethodName := ⟨RX1, "<init>", "()V"⟩
abbrev cX1_rowAt : ByteArray := prog_3_method_2_code
def yX1_rowAt : MethodName := ⟨RX1, "rowAt", "(I)LSealedGroups$Store;"⟩
abbrev cX1_prepare : ByteArray := prog_3_method_3_code
def yX1_prepare : MethodName := ⟨RX1, "prepare", "(LSealedGroups$Store;)V"⟩
abbrev cX1_keepUnlessError : ByteArray := prog_3_method_4_code
def yX1_keepUnlessError : MethodName := ⟨RX1, "keepUnlessError", "(I)I"⟩
def RX2 : String := "SealedGroups$Journal"
def TX2 : u_T := fun k => match k with
  | 0 => ("SealedGroups$Journal", "kinds", "[I", true)
  | 1 => ("SealedGroups$Journal", "owners", "[I", true)
  | 2 => ("SealedGroups$Journal", "pageNumbers", "[I", true)
  | 3 => ("SealedGroups$Journal", "olds", "[I", true)
  | 4 => ("SealedGroups$Journal", "news", "[I", true)
  | 5 => ("SealedGroups$Journal", "targets", "[I", true)
  | 6 => ("SealedGroups$Journal", "checkpointStarts", "[I", true)
  | 7 => ("SealedGroups$Journal", "first", "I", false)
  | 8 => ("SealedGroups$Journal", "size", "I", false)
  | 9 => ("SealedGroups$Journal", "forced", "I", false)
  | 10 => ("SealedGroups$Journal", "latestCheckpoint", "I", false)
  | _ => ("SealedGroups$Journal", "dropLimit", "I", false)
def tyX2 : Nat → FieldType := fun k => match k with
  | 0 => .array .int
  | 1 => .array .int
  | 2 => .array .int
  | 3 => .array .int
  | 4 => .array .int
  | 5 => .array .int
  | 6 => .array .int
  | 7 => .int
  | 8 => .int
  | 9 => .int
  | 10 => .int
  | _ => .int
abbrev wsX20 : List Cond := u_ws RX2 TX2 12
theorem nmX2 : ∀ a, a < 12 → ∀ b, b < 12 → a ≠ b → (TX2 a).2.1 ≠ (TX2 b).2.1 := by decide +kernel
theorem tyX2_ok : ∀ k, k < 12 → parseFieldDescriptor (TX2 k).2.2.1 = some (tyX2 k) := by decide +kernel
abbrev cX2_init : ByteArray := prog_4_method_1_code
def yX2_init : MethodName := ⟨RX2, "<init>", "()V"⟩
abbrev cX2_copyFrom : ByteArray := prog_4_method_2_code
def yX2_copyFrom : MethodName := ⟨RX2, "copyFrom", "(LSealedGroups$Journal;)V"⟩
abbrev cX2_isFull : ByteArray := prog_4_method_3_code
def yX2_isFull : MethodName := ⟨RX2, "isFull", "()Z"⟩
abbrev cX2_last : ByteArray := prog_4_method_4_code
def yX2_last : MethodName := ⟨RX2, "last", "()I"⟩
abbrev cX2_has : ByteArray := prog_4_method_5_code
def yX2_has : MethodName := ⟨RX2, "has", "(I)Z"⟩
abbrev cX2_at : ByteArray := prog_4_method_6_code
def yX2_at : MethodName := ⟨RX2, "at", "([II)I"⟩
abbrev cX2_append : ByteArray := prog_4_method_7_code
def yX2_append : MethodName := ⟨RX2, "append", "(IIIIII)I"⟩
abbrev cX2_forceUpTo : ByteArray := prog_4_method_8_code
def yX2_forceUpTo : MethodName := ⟨RX2, "forceUpTo", "(I)I"⟩
abbrev cX2_appendCheckpoint : ByteArray := prog_4_method_9_code
def yX2_appendCheckpoint : MethodName := ⟨RX2, "appendCheckpoint", "(LSealedGroups$Groups;LSealedGroups$Pages;)I"⟩
abbrev cX2_droppable : ByteArray := prog_4_method_10_code
def yX2_droppable : MethodName := ⟨RX2, "droppable", "()I"⟩
abbrev cX2_dropFirst : ByteArray := prog_4_method_11_code
def yX2_dropFirst : MethodName := ⟨RX2, "dropFirst", "()I"⟩
abbrev cX2_loseRecords : ByteArray := prog_4_method_12_code
def yX2_loseRecords : MethodName := ⟨RX2, "loseRecords", "(ZI)I"⟩
abbrev cX2_settledValueOf : ByteArray := prog_4_method_13_code
def yX2_settledValueOf : MethodName := ⟨RX2, "settledValueOf", "(I)I"⟩
abbrev cX2_tell : ByteArray := prog_4_method_14_code
def yX2_tell : MethodName := ⟨RX2, "tell", "(II)I"⟩
abbrev cX2_tellNumber : ByteArray := prog_4_method_15_code
def yX2_tellNumber : MethodName := ⟨RX2, "tellNumber", "(I)I"⟩
def RX3 : String := "SealedGroups$OrderText"
def TX3 : u_T := fun k => match k with
  | 0 => ("SealedGroups$OrderText", "signs", "[C", true)
  | 1 => ("SealedGroups$OrderText", "length", "I", false)
  | 2 => ("SealedGroups$OrderText", "next", "I", false)
  | 3 => ("SealedGroups$OrderText", "letter", "I", false)
  | 4 => ("SealedGroups$OrderText", "number", "I", false)
  | 5 => ("SealedGroups$OrderText", "page", "I", false)
  | 6 => ("SealedGroups$OrderText", "value", "I", false)
  | _ => ("SealedGroups$OrderText", "brokenAt", "I", false)
def tyX3 : Nat → FieldType := fun k => match k with
  | 0 => .array .char
  | 1 => .int
  | 2 => .int
  | 3 => .int
  | 4 => .int
  | 5 => .int
  | 6 => .int
  | _ => .int
abbrev wsX30 : List Cond := u_ws RX3 TX3 8
theorem nmX3 : ∀ a, a < 8 → ∀ b, b < 8 → a ≠ b → (TX3 a).2.1 ≠ (TX3 b).2.1 := by decide +kernel
theorem tyX3_ok : ∀ k, k < 8 → parseFieldDescriptor (TX3 k).2.2.1 = some (tyX3 k) := by decide +kernel
abbrev cX3_init : ByteArray := prog_5_method_1_code
def yX3_init : MethodName := ⟨RX3, "<init>", "()V"⟩
def RX4 : String := "SealedGroups$Pages"
def TX4 : u_T := fun k => match k with
  | 0 => ("SealedGroups$Pages", "diskValues", "[I", true)
  | 1 => ("SealedGroups$Pages", "diskMarks", "[I", true)
  | 2 => ("SealedGroups$Pages", "values", "[I", true)
  | 3 => ("SealedGroups$Pages", "marks", "[I", true)
  | 4 => ("SealedGroups$Pages", "starts", "[I", true)
  | 5 => ("SealedGroups$Pages", "cached", "I", false)
  | _ => ("SealedGroups$Pages", "dirty", "I", false)
def tyX4 : Nat → FieldType := fun k => match k with
  | 0 => .array .int
  | 1 => .array .int
  | 2 => .array .int
  | 3 => .array .int
  | 4 => .array .int
  | 5 => .int
  | _ => .int
abbrev wsX40 : List Cond := u_ws RX4 TX4 7
theorem nmX4 : ∀ a, a < 7 → ∀ b, b < 7 → a ≠ b → (TX4 a).2.1 ≠ (TX4 b).2.1 := by decide +kernel
theorem tyX4_ok : ∀ k, k < 7 → parseFieldDescriptor (TX4 k).2.2.1 = some (tyX4 k) := by decide +kernel
abbrev cX4_init : ByteArray := prog_6_method_1_code
def yX4_init : MethodName := ⟨RX4, "<init>", "()V"⟩
abbrev cX4_copyFrom : ByteArray := prog_6_method_2_code
def yX4_copyFrom : MethodName := ⟨RX4, "copyFrom", "(LSealedGroups$Pages;)V"⟩
abbrev cX4_valueOf : ByteArray := prog_6_method_3_code
def yX4_valueOf : MethodName := ⟨RX4, "valueOf", "(I)I"⟩
abbrev cX4_markOf : ByteArray := prog_6_method_4_code
def yX4_markOf : MethodName := ⟨RX4, "markOf", "(I)I"⟩
abbrev cX4_startOf : ByteArray := prog_6_method_5_code
def yX4_startOf : MethodName := ⟨RX4, "startOf", "(I)I"⟩
abbrev cX4_put : ByteArray := prog_6_method_6_code
def yX4_put : MethodName := ⟨RX4, "put", "(III)V"⟩
abbrev cX4_toDisk : ByteArray := prog_6_method_7_code
def yX4_toDisk : MethodName := ⟨RX4, "toDisk", "(I)V"⟩
abbrev cX4_emptyCache : ByteArray := prog_6_method_8_code
def yX4_emptyCache : MethodName := ⟨RX4, "emptyCache", "()V"⟩
abbrev cX4_highestDiskMark : ByteArray := prog_6_method_9_code
def yX4_highestDiskMark : MethodName := ⟨RX4, "highestDiskMark", "()I"⟩
abbrev cX4_tell : ByteArray := prog_6_method_10_code
def yX4_tell : MethodName := ⟨RX4, "tell", "(II)I"⟩
def RX5 : String := "SealedGroups$Restarter"
def TX5 : u_T := fun k => match k with
  | 0 => ("SealedGroups$Restarter", "starts", "[I", true)
  | 1 => ("SealedGroups$Restarter", "takenBack", "[I", true)
  | 2 => ("SealedGroups$Restarter", "lookedFrom", "I", false)
  | 3 => ("SealedGroups$Restarter", "losers", "I", false)
  | 4 => ("SealedGroups$Restarter", "doneAgain", "I", false)
  | _ => ("SealedGroups$Restarter", "writesTakenBack", "I", false)
def tyX5 : Nat → FieldType := fun k => match k with
  | 0 => .array .int
  | 1 => .array .int
  | 2 => .int
  | 3 => .int
  | 4 => .int
  | _ => .int
abbrev wsX50 : List Cond := u_ws RX5 TX5 6
theorem nmX5 : ∀ a, a < 6 → ∀ b, b < 6 → a ≠ b → (TX5 a).2.1 ≠ (TX5 b).2.1 := by decide +kernel
theorem tyX5_ok : ∀ k, k < 6 → parseFieldDescriptor (TX5 k).2.2.1 = some (tyX5 k) := by decide +kernel
abbrev cX5_init : ByteArray := prog_7_method_1_code
def yX5_init : MethodName := ⟨RX5, "<init>", "()V"⟩
abbrev cX5_run : ByteArray := prog_7_method_2_code
def yX5_run : MethodName := ⟨RX5, "run", "(LSealedGroups$Store;)I"⟩
abbrev cX5_tell : ByteArray := prog_7_method_3_code
def yX5_tell : MethodName := ⟨RX5, "tell", "(I)I"⟩
abbrev cX5_look : ByteArray := prog_7_method_4_code
def yX5_look : MethodName := ⟨RX5, "look", "(LSealedGroups$Journal;)V"⟩
abbrev cX5_lookAt : ByteArray := prog_7_method_5_code
def yX5_lookAt : MethodName := ⟨RX5, "lookAt", "(LSealedGroups$Journal;I)V"⟩
abbrev cX5_doAgain : ByteArray := prog_7_method_6_code
def yX5_doAgain : MethodName := ⟨RX5, "doAgain", "(LSealedGroups$Journal;LSealedGroups$Pages;)V"⟩
abbrev cX5_isAfterStart : ByteArray := prog_7_method_7_code
def yX5_isAfterStart : MethodName := ⟨RX5, "isAfterStart", "(II)Z"⟩
abbrev cX5_leastStart : ByteArray := prog_7_method_8_code
def yX5_leastStart : MethodName := ⟨RX5, "leastStart", "()I"⟩
abbrev cX5_takeLosersBack : ByteArray := prog_7_method_9_code
def yX5_takeLosersBack : MethodName := ⟨RX5, "takeLosersBack", "(LSealedGroups$Store;)V"⟩
abbrev cX5_noteTakenBack : ByteArray := prog_7_method_10_code
def yX5_noteTakenBack : MethodName := ⟨RX5, "noteTakenBack", "(I)V"⟩
abbrev cX5_isTakenBack : ByteArray := prog_7_method_11_code
def yX5_isTakenBack : MethodName := ⟨RX5, "isTakenBack", "(I)Z"⟩
def RX6 : String := "SealedGroups$Store"
def TX6 : u_T := fun k => match k with
  | 0 => ("SealedGroups$Store", "pages", "LSealedGroups$Pages;", true)
  | 1 => ("SealedGroups$Store", "groups", "LSealedGroups$Groups;", true)
  | 2 => ("SealedGroups$Store", "journal", "LSealedGroups$Journal;", true)
  | 3 => ("SealedGroups$Store", "stopped", "Z", false)
  | _ => ("SealedGroups$Store", "doneAgain", "I", false)
def tyX6 : Nat → FieldType := fun k => match k with
  | 0 => .object "SealedGroups$Pages"
  | 1 => .object "SealedGroups$Groups"
  | 2 => .object "SealedGroups$Journal"
  | 3 => .boolean
  | _ => .int
abbrev wsX60 : List Cond := u_ws RX6 TX6 5
theorem nmX6 : ∀ a, a < 5 → ∀ b, b < 5 → a ≠ b → (TX6 a).2.1 ≠ (TX6 b).2.1 := by decide +kernel
theorem tyX6_ok : ∀ k, k < 5 → parseFieldDescriptor (TX6 k).2.2.1 = some (tyX6 k) := by decide +kernel
abbrev cX6_init : ByteArray := prog_8_method_1_code
def yX6_init : MethodName := ⟨RX6, "<init>", "()V"⟩
abbrev cX6_copyFrom : ByteArray := prog_8_method_2_code
def yX6_copyFrom : MethodName := ⟨RX6, "copyFrom", "(LSealedGroups$Store;)V"⟩
abbrev cX6_beginGroup : ByteArray := prog_8_method_3_code
def yX6_beginGroup : MethodName := ⟨RX6, "beginGroup", "(I)I"⟩
abbrev cX6_writePage : ByteArray := prog_8_method_4_code
def yX6_writePage : MethodName := ⟨RX6, "writePage", "(III)I"⟩
abbrev cX6_errorOfEnding : ByteArray := prog_8_method_5_code
def yX6_errorOfEnding : MethodName := ⟨RX6, "errorOfEnding", "(II)I"⟩
abbrev cX6_settleGroup : ByteArray := prog_8_method_6_code
def yX6_settleGroup : MethodName := ⟨RX6, "settleGroup", "(I)I"⟩
abbrev cX6_takeGroupBack : ByteArray := prog_8_method_7_code
def yX6_takeGroupBack : MethodName := ⟨RX6, "takeGroupBack", "(I)I"⟩
abbrev cX6_takeWriteBack : ByteArray := prog_8_method_8_code
def yX6_takeWriteBack : MethodName := ⟨RX6, "takeWriteBack", "(I)V"⟩
abbrev cX6_endGroup : ByteArray := prog_8_method_9_code
def yX6_endGroup : MethodName := ⟨RX6, "endGroup", "(I)V"⟩
abbrev cX6_writePageOut : ByteArray := prog_8_method_10_code
def yX6_writePageOut : MethodName := ⟨RX6, "writePageOut", "(I)I"⟩
abbrev cX6_dropPageOut : ByteArray := prog_8_method_11_code
def yX6_dropPageOut : MethodName := ⟨RX6, "dropPageOut", "(I)I"⟩
abbrev cX6_makeCheckpoint : ByteArray := prog_8_method_12_code
def yX6_makeCheckpoint : MethodName := ⟨RX6, "makeCheckpoint", "()I"⟩
abbrev cX6_dropOldRecords : ByteArray := prog_8_method_13_code
def yX6_dropOldRecords : MethodName := ⟨RX6, "dropOldRecords", "()I"⟩
abbrev cX6_forceAll : ByteArray := prog_8_method_14_code
def yX6_forceAll : MethodName := ⟨RX6, "forceAll", "()I"⟩
abbrev cX6_stopStore : ByteArray := prog_8_method_15_code
def yX6_stopStore : MethodName := ⟨RX6, "stopStore", "(I)I"⟩
def RX7 : String := "SealedGroups"
def TX7 : u_T := fun k => match k with
  | 0 => ("SealedGroups", "now", "LSealedGroups$Store;", true)
  | 1 => ("SealedGroups", "trial", "LSealedGroups$Store;", true)
  | 2 => ("SealedGroups", "restarter", "LSealedGroups$Restarter;", true)
  | 3 => ("SealedGroups", "history", "LSealedGroups$History;", true)
  | 4 => ("SealedGroups", "text", "LSealedGroups$OrderText;", true)
  | 5 => ("SealedGroups", "faultPosition", "I", false)
  | 6 => ("SealedGroups", "faultReason", "I", false)
  | _ => ("SealedGroups", "ordersDone", "I", false)
def tyX7 : Nat → FieldType := fun k => match k with
  | 0 => .object "SealedGroups$Store"
  | 1 => .object "SealedGroups$Store"
  | 2 => .object "SealedGroups$Restarter"
  | 3 => .object "SealedGroups$History"
  | 4 => .object "SealedGroups$OrderText"
  | 5 => .int
  | 6 => .int
  | _ => .int
abbrev wsX70 : List Cond := u_ws RX7 TX7 8
theorem nmX7 : ∀ a, a < 8 → ∀ b, b < 8 → a ≠ b → (TX7 a).2.1 ≠ (TX7 b).2.1 := by decide +kernel
theorem tyX7_ok : ∀ k, k < 8 → parseFieldDescriptor (TX7 k).2.2.1 = some (tyX7 k) := by decide +kernel
abbrev cX7_init : ByteArray := prog_1_method_1_code
def yX7_init : MethodName := ⟨RX7, "<init>", "()V"⟩
abbrev cX7_begin : ByteArray := prog_1_method_2_code
def yX7_begin : MethodName := ⟨RX7, "begin", "(I)I"⟩
abbrev cX7_write : ByteArray := prog_1_method_3_code
def yX7_write : MethodName := ⟨RX7, "write", "(III)I"⟩
abbrev cX7_settle : ByteArray := prog_1_method_4_code
def yX7_settle : MethodName := ⟨RX7, "settle", "(I)I"⟩
abbrev cX7_takeBack : ByteArray := prog_1_method_5_code
def yX7_takeBack : MethodName := ⟨RX7, "takeBack", "(I)I"⟩
abbrev cX7_writeOut : ByteArray := prog_1_method_6_code
def yX7_writeOut : MethodName := ⟨RX7, "writeOut", "(I)I"⟩
abbrev cX7_dropOut : ByteArray := prog_1_method_7_code
def yX7_dropOut : MethodName := ⟨RX7, "dropOut", "(I)I"⟩
abbrev cX7_checkpoint : ByteArray := prog_1_method_8_code
def yX7_checkpoint : MethodName := ⟨RX7, "checkpoint", "()I"⟩
abbrev cX7_dropRecords : ByteArray := prog_1_method_9_code
def yX7_dropRecords : MethodName := ⟨RX7, "dropRecords", "()I"⟩
abbrev cX7_force : ByteArray := prog_1_method_10_code
def yX7_force : MethodName := ⟨RX7, "force", "()I"⟩
abbrev cX7_stop : ByteArray := prog_1_method_11_code
def yX7_stop : MethodName := ⟨RX7, "stop", "(I)I"⟩
abbrev cX7_restart : ByteArray := prog_1_method_12_code
def yX7_restart : MethodName := ⟨RX7, "restart", "()I"⟩
abbrev cX7_pageOf : ByteArray := prog_1_method_13_code
def yX7_pageOf : MethodName := ⟨RX7, "pageOf", "(II)I"⟩
abbrev cX7_recordOf : ByteArray := prog_1_method_14_code
def yX7_recordOf : MethodName := ⟨RX7, "recordOf", "(II)I"⟩
abbrev cX7_groupOf : ByteArray := prog_1_method_15_code
def yX7_groupOf : MethodName := ⟨RX7, "groupOf", "(II)I"⟩
abbrev cX7_would : ByteArray := prog_1_method_16_code
def yX7_would : MethodName := ⟨RX7, "would", "(II)I"⟩
abbrev cX7_count : ByteArray := prog_1_method_17_code
def yX7_count : MethodName := ⟨RX7, "count", "(I)I"⟩
def RX8 : String := "SealedGroupsModel"
def TX8 : u_T := fun k => match k with
  | _ => ("", "", "", false)
def tyX8 : Nat → FieldType := fun k => match k with
  | _ => .int
abbrev wsX80 : List Cond := u_ws RX8 TX8 0
theorem nmX8 : ∀ a, a < 0 → ∀ b, b < 0 → a ≠ b → (TX8 a).2.1 ≠ (TX8 b).2.1 := by decide +kernel
theorem tyX8_ok : ∀ k, k < 0 → parseFieldDescriptor (TX8 k).2.2.1 = some (tyX8 k) := by decide +kernel
def RJ6 : String := "java/lang/Integer"
def TJ6 : u_T := fun k => match k with
  | _ => ("", "", "", false)
def tyJ6 : Nat → FieldType := fun k => match k with
  | _ => .int
abbrev wsJ60 : List Cond := u_ws RJ6 TJ6 0
theorem nmJ6 : ∀ a, a < 0 → ∀ b, b < 0 → a ≠ b → (TJ6 a).2.1 ≠ (TJ6 b).2.1 := by decide +kernel
theorem tyJ6_ok : ∀ k, k < 0 → parseFieldDescriptor (TJ6 k).2.2.1 = some (tyJ6 k) := by decide +kernel
abbrev cJ6_bitCount_0f7a4 : ByteArray := prog_11_method_49_code
def yJ6_bitCount_0f7a4 : MethodName := ⟨RJ6, "bitCount", "(I)I"⟩
def RJ9 : String := "java/lang/Math"
def TJ9 : u_T := fun k => match k with
  | _ => ("", "", "", false)
def tyJ9 : Nat → FieldType := fun k => match k with
  | _ => .int
abbrev wsJ90 : List Cond := u_ws RJ9 TJ9 0
theorem nmJ9 : ∀ a, a < 0 → ∀ b, b < 0 → a ≠ b → (TJ9 a).2.1 ≠ (TJ9 b).2.1 := by decide +kernel
theorem tyJ9_ok : ∀ k, k < 0 → parseFieldDescriptor (TJ9 k).2.2.1 = some (tyJ9 k) := by decide +kernel
abbrev cJ9_floorMod_7cf53 : ByteArray := prog_12_method_50_code
def yJ9_floorMod_7cf53 : MethodName := ⟨RJ9, "floorMod", "(II)I"⟩
abbrev cJ9_max_7cf53 : ByteArray := prog_12_method_65_code
def yJ9_max_7cf53 : MethodName := ⟨RJ9, "max", "(II)I"⟩
abbrev cJ9_min_7cf53 : ByteArray := prog_12_method_69_code
def yJ9_min_7cf53 : MethodName := ⟨RJ9, "min", "(II)I"⟩
def RJ10 : String := "java/lang/System"
def TJ10 : u_T := fun k => match k with
  | _ => ("", "", "", false)
def tyJ10 : Nat → FieldType := fun k => match k with
  | _ => .int
abbrev wsJ100 : List Cond := u_ws RJ10 TJ10 0
theorem nmJ10 : ∀ a, a < 0 → ∀ b, b < 0 → a ≠ b → (TJ10 a).2.1 ≠ (TJ10 b).2.1 := by decide +kernel
theorem tyJ10_ok : ∀ k, k < 0 → parseFieldDescriptor (TJ10 k).2.2.1 = some (tyJ10 k) := by decide +kernel
def RL : String := "SealedGroupsLaw"
abbrev cL_cell : ByteArray := method_2_code
def yL_cell : MethodName := ⟨RL, "cell", "([II)I"⟩
abbrev cL_low : ByteArray := method_3_code
def yL_low : MethodName := ⟨RL, "low", "(II)I"⟩
abbrev cL_of : ByteArray := method_4_code
def yL_of : MethodName := ⟨RL, "of", "([J[III)I"⟩
abbrev cL_last : ByteArray := method_5_code
def yL_last : MethodName := ⟨RL, "last", "([I)I"⟩
abbrev cL_add : ByteArray := method_6_code
def yL_add : MethodName := ⟨RL, "add", "([J[IIIIIII)I"⟩
abbrev cL_value : ByteArray := method_7_code
def yL_value : MethodName := ⟨RL, "value", "([II)I"⟩
abbrev cL_mark : ByteArray := method_8_code
def yL_mark : MethodName := ⟨RL, "mark", "([II)I"⟩
abbrev cL_come : ByteArray := method_9_code
def yL_come : MethodName := ⟨RL, "come", "([IIII)V"⟩
abbrev cL_force : ByteArray := method_10_code
def yL_force : MethodName := ⟨RL, "force", "([II)I"⟩
abbrev cL_holder : ByteArray := method_11_code
def yL_holder : MethodName := ⟨RL, "holder", "([II)I"⟩
abbrev cL_dirty : ByteArray := method_12_code
def yL_dirty : MethodName := ⟨RL, "dirty", "([I)I"⟩
abbrev cL_open : ByteArray := method_13_code
def yL_open : MethodName := ⟨RL, "open", "([I)I"⟩
abbrev cL_back : ByteArray := method_14_code
def yL_back : MethodName := ⟨RL, "back", "([I[I[JI)I"⟩
abbrev cL_latest : ByteArray := method_15_code
def yL_latest : MethodName := ⟨RL, "latest", "([I[J)I"⟩
abbrev cL_drop : ByteArray := method_16_code
def yL_drop : MethodName := ⟨RL, "drop", "([I[J[I)I"⟩
abbrev cL_stop : ByteArray := method_17_code
def yL_stop : MethodName := ⟨RL, "stop", "([I[I[I[JI)I"⟩
abbrev cL_start : ByteArray := method_18_code
def yL_start : MethodName := ⟨RL, "start", "([I[I[J[I[I)I"⟩
abbrev cL_acts : ByteArray := method_19_code
def yL_acts : MethodName := ⟨RL, "acts", "(LSealedGroups;[I[I[I[J[II)Z"⟩
abbrev cL_isRecord : ByteArray := method_20_code
def yL_isRecord : MethodName := ⟨RL, "isRecord", "(LSealedGroups;[I[JI)Z"⟩
abbrev cL_arePages : ByteArray := method_21_code
def yL_arePages : MethodName := ⟨RL, "arePages", "(LSealedGroups;[I[I)Z"⟩
abbrev cL_isSo : ByteArray := method_22_code
def yL_isSo : MethodName := ⟨RL, "isSo", "(LSealedGroups;[I[I[I[J[II)Z"⟩
abbrev cL_law : ByteArray := code
def yL_law : MethodName := ⟨RL, "law", "([I)Z"⟩
abbrev vwCl : List vw_C := [(RX0, TX0, 4), (RX1, TX1, 3), (RX2, TX2, 12), (RX3, TX3, 8), (RX4, TX4, 7), (RX5, TX5, 6), (RX6, TX6, 5), (RX7, TX7, 8)]
def wsL_law : List Cond := lw_tbl.filter goodWord
theorem wsL_law_good : GoodIn lw_tbl wsL_law := fun w h => ⟨(List.mem_filter.mp h).1, good_of_word (List.mem_filter.mp h).2⟩
theorem wsL_law_in : ∀ w ∈ wsL_law, w ∈ lw_tbl := fun w h => (wsL_law_good w h).1
theorem wm {w : Cond} (h : w ∈ lw_tbl) (g : goodWord w = true) : w ∈ wsL_law := List.mem_filter.mpr ⟨h, g⟩
theorem inX0 : ∀ w ∈ wsX00, w ∈ wsL_law := by decide +kernel
theorem inX1 : ∀ w ∈ wsX10, w ∈ wsL_law := by decide +kernel
theorem inX2 : ∀ w ∈ wsX20, w ∈ wsL_law := by decide +kernel
theorem inX3 : ∀ w ∈ wsX30, w ∈ wsL_law := by decide +kernel
theorem inX4 : ∀ w ∈ wsX40, w ∈ wsL_law := by decide +kernel
theorem inX5 : ∀ w ∈ wsX50, w ∈ wsL_law := by decide +kernel
theorem inX6 : ∀ w ∈ wsX60, w ∈ wsL_law := by decide +kernel
theorem inX7 : ∀ w ∈ wsX70, w ∈ wsL_law := by decide +kernel
end
section
theorem wt_1 {w : Cond} (h : w ∈ tables_1_1) : w ∈ lw_tbl := List.mem_append_right _ (List.mem_append_left _ h)
theorem wt_2 {w : Cond} (h : w ∈ tables_1_2) : w ∈ lw_tbl := List.mem_append_right _ (List.mem_append_right _ (List.mem_append_left _ h))
theorem wt_3 {w : Cond} (h : w ∈ tables_1_3) : w ∈ lw_tbl := List.mem_append_right _ (List.mem_append_right _ (List.mem_append_right _ h))
theorem wpl_1 {q : MethodName × Nat} (h : q ∈ lw_privs_1) : q ∈ lw_privs := h
theorem wp_1 {w : Cond} (h : w ∈ k2_sels lw_privs_1) : w ∈ lw_tbl := by
  obtain ⟨q, hq, rfl⟩ := List.mem_map.mp h
  exact List.mem_append_left _ (List.mem_map.mpr ⟨q, wpl_1 hq, rfl⟩)
theorem wm_0 : Cond.classLink RL 52 RX7 ∈ wsL_law := wm (wt_1 (List.mem_of_getElem? (i := 12) (by decide +kernel))) rfl
theorem wm_1 : Cond.instantiable RX7 8 ∈ wsL_law := wm (wt_1 (List.mem_of_getElem? (i := 13) (by decide +kernel))) rfl
theorem wm_2 : Cond.initialized RX7 ∈ wsL_law := wm (wt_1 (List.mem_of_getElem? (i := 1) (by decide +kernel))) rfl
theorem wm_3 : Cond.arrayClass .int ∈ wsL_law := wm (wt_1 (List.mem_of_getElem? (i := 60) (by decide +kernel))) rfl
theorem wm_4 : Cond.arrayClass .long ∈ wsL_law := wm (wt_3 (List.mem_of_getElem? (i := 209) (by decide +kernel))) rfl
theorem wm_5 : Cond.constant RL 50 (-1000002) ∈ wsL_law := wm (wt_2 (List.mem_of_getElem? (i := 238) (by decide +kernel))) rfl
theorem wm_6 : Cond.constant RL 45 (10000000) ∈ wsL_law := wm (wt_2 (List.mem_of_getElem? (i := 237) (by decide +kernel))) rfl
theorem wm_7 : Cond.constant RL 115 (-1000001) ∈ wsL_law := wm (wt_3 (List.mem_of_getElem? (i := 197) (by decide +kernel))) rfl
theorem wm_8 : Cond.methodLink RL 133 yX7_init ∈ wsL_law := wm (wt_1 (List.mem_of_getElem? (i := 14) (by decide +kernel))) rfl
theorem wm_9 : Cond.instanceMethod yX7_init ∈ wsL_law := wm (wt_1 (List.mem_of_getElem? (i := 15) (by decide +kernel))) rfl
theorem wm_10 : Cond.code yX7_init cX7_init 1 none ∈ wsL_law := wm (wt_1 (List.mem_of_getElem? (i := 16) rfl)) rfl
theorem wm_11 : Cond.methodLink RX7 1 objectInit ∈ wsL_law := wm (wt_1 (List.mem_of_getElem? (i := 17) (by decide +kernel))) rfl
theorem wm_12 : Cond.instanceMethod objectInit ∈ wsL_law := wm (wt_1 (List.mem_of_getElem? (i := 18) (by decide +kernel))) rfl
theorem wm_13 : Cond.code objectInit ⟨#[0xb1]⟩ 1 none ∈ wsL_law := wm (wt_1 (List.mem_of_getElem? (i := 19) rfl)) rfl
theorem wm_14 : Cond.classLink RX7 7 RX6 ∈ wsL_law := wm (wt_1 (List.mem_of_getElem? (i := 20) (by decide +kernel))) rfl
theorem wm_15 : Cond.instantiable RX6 5 ∈ wsL_law := wm (wt_1 (List.mem_of_getElem? (i := 21) (by decide +kernel))) rfl
theorem wm_16 : Cond.initialized RX6 ∈ wsL_law := wm (wt_1 (List.mem_of_getElem? (i := 2) (by decide +kernel))) rfl
theorem wm_17 : Cond.fieldLink RX7 10 "SealedGroups" "now" "LSealedGroups$Store;" ∈ wsL_law := wm (wt_1 (List.mem_of_getElem? (i := 238) (by decide +kernel))) rfl
theorem wm_18 : Cond.fieldLink RX7 16 "SealedGroups" "trial" "LSealedGroups$Store;" ∈ wsL_law := wm (wt_1 (List.mem_of_getElem? (i := 239) (by decide +kernel))) rfl
theorem wm_19 : Cond.classLink RX7 19 RX5 ∈ wsL_law := wm (wt_1 (List.mem_of_getElem? (i := 167) (by decide +kernel))) rfl
theorem wm_20 : Cond.instantiable RX5 6 ∈ wsL_law := wm (wt_1 (List.mem_of_getElem? (i := 168) (by decide +kernel))) rfl
theorem wm_21 : Cond.initialized RX5 ∈ wsL_law := wm (wt_1 (List.mem_of_getElem? (i := 6) (by decide +kernel))) rfl
theorem wm_22 : Cond.fieldLink RX7 22 "SealedGroups" "restarter" "LSealedGroups$Restarter;" ∈ wsL_law := wm (wt_2 (List.mem_of_getElem? (i := 0) (by decide +kernel))) rfl
theorem wm_23 : Cond.classLink RX7 26 RX1 ∈ wsL_law := wm (wt_1 (List.mem_of_getElem? (i := 192) (by decide +kernel))) rfl
theorem wm_24 : Cond.instantiable RX1 3 ∈ wsL_law := wm (wt_1 (List.mem_of_getElem? (i := 193) (by decide +kernel))) rfl
theorem wm_25 : Cond.initialized RX1 ∈ wsL_law := wm (wt_1 (List.mem_of_getElem? (i := 7) (by decide +kernel))) rfl
theorem wm_26 : Cond.fieldLink RX7 29 "SealedGroups" "history" "LSealedGroups$History;" ∈ wsL_law := wm (wt_2 (List.mem_of_getElem? (i := 1) (by decide +kernel))) rfl
theorem wm_27 : Cond.classLink RX7 33 RX3 ∈ wsL_law := wm (wt_1 (List.mem_of_getElem? (i := 212) (by decide +kernel))) rfl
theorem wm_28 : Cond.instantiable RX3 8 ∈ wsL_law := wm (wt_1 (List.mem_of_getElem? (i := 213) (by decide +kernel))) rfl
theorem wm_29 : Cond.initialized RX3 ∈ wsL_law := wm (wt_1 (List.mem_of_getElem? (i := 8) (by decide +kernel))) rfl
theorem wm_30 : Cond.fieldLink RX7 36 "SealedGroups" "text" "LSealedGroups$OrderText;" ∈ wsL_law := wm (wt_2 (List.mem_of_getElem? (i := 2) (by decide +kernel))) rfl
theorem wm_31 : Cond.instanceMethod yX6_init ∈ wsL_law := wm (wt_1 (List.mem_of_getElem? (i := 23) (by decide +kernel))) rfl
theorem wm_32 : Cond.code yX6_init cX6_init 1 none ∈ wsL_law := wm (wt_1 (List.mem_of_getElem? (i := 24) rfl)) rfl
theorem wm_33 : Cond.methodLink RX6 3 objectInit ∈ wsL_law := wm (wt_1 (List.mem_of_getElem? (i := 25) (by decide +kernel))) rfl
theorem wm_34 : Cond.classLink RX6 9 RX4 ∈ wsL_law := wm (wt_1 (List.mem_of_getElem? (i := 26) (by decide +kernel))) rfl
theorem wm_35 : Cond.instantiable RX4 7 ∈ wsL_law := wm (wt_1 (List.mem_of_getElem? (i := 27) (by decide +kernel))) rfl
theorem wm_36 : Cond.initialized RX4 ∈ wsL_law := wm (wt_1 (List.mem_of_getElem? (i := 3) (by decide +kernel))) rfl
theorem wm_37 : Cond.fieldLink RX6 12 "SealedGroups$Store" "pages" "LSealedGroups$Pages;" ∈ wsL_law := wm (wt_1 (List.mem_of_getElem? (i := 142) (by decide +kernel))) rfl
theorem wm_38 : Cond.classLink RX6 18 RX0 ∈ wsL_law := wm (wt_1 (List.mem_of_getElem? (i := 61) (by decide +kernel))) rfl
theorem wm_39 : Cond.instantiable RX0 4 ∈ wsL_law := wm (wt_1 (List.mem_of_getElem? (i := 62) (by decide +kernel))) rfl
theorem wm_40 : Cond.initialized RX0 ∈ wsL_law := wm (wt_1 (List.mem_of_getElem? (i := 4) (by decide +kernel))) rfl
theorem wm_41 : Cond.fieldLink RX6 21 "SealedGroups$Store" "groups" "LSealedGroups$Groups;" ∈ wsL_law := wm (wt_1 (List.mem_of_getElem? (i := 145) (by decide +kernel))) rfl
theorem wm_42 : Cond.classLink RX6 25 RX2 ∈ wsL_law := wm (wt_1 (List.mem_of_getElem? (i := 84) (by decide +kernel))) rfl
theorem wm_43 : Cond.instantiable RX2 12 ∈ wsL_law := wm (wt_1 (List.mem_of_getElem? (i := 85) (by decide +kernel))) rfl
theorem wm_44 : Cond.initialized RX2 ∈ wsL_law := wm (wt_1 (List.mem_of_getElem? (i := 5) (by decide +kernel))) rfl
theorem wm_45 : Cond.fieldLink RX6 28 "SealedGroups$Store" "journal" "LSealedGroups$Journal;" ∈ wsL_law := wm (wt_1 (List.mem_of_getElem? (i := 147) (by decide +kernel))) rfl
theorem wm_46 : Cond.instanceMethod yX4_init ∈ wsL_law := wm (wt_1 (List.mem_of_getElem? (i := 29) (by decide +kernel))) rfl
theorem wm_47 : Cond.code yX4_init cX4_init 1 none ∈ wsL_law := wm (wt_1 (List.mem_of_getElem? (i := 30) rfl)) rfl
theorem wm_48 : Cond.methodLink RX4 3 objectInit ∈ wsL_law := wm (wt_1 (List.mem_of_getElem? (i := 31) (by decide +kernel))) rfl
theorem wm_49 : Cond.fieldLink RX4 9 "SealedGroups$Pages" "diskValues" "[I" ∈ wsL_law := wm (wt_1 (List.mem_of_getElem? (i := 32) (by decide +kernel))) rfl
theorem wm_50 : Cond.fieldLink RX4 15 "SealedGroups$Pages" "diskMarks" "[I" ∈ wsL_law := wm (wt_1 (List.mem_of_getElem? (i := 33) (by decide +kernel))) rfl
theorem wm_51 : Cond.fieldLink RX4 18 "SealedGroups$Pages" "values" "[I" ∈ wsL_law := wm (wt_1 (List.mem_of_getElem? (i := 34) (by decide +kernel))) rfl
theorem wm_52 : Cond.fieldLink RX4 21 "SealedGroups$Pages" "marks" "[I" ∈ wsL_law := wm (wt_1 (List.mem_of_getElem? (i := 35) (by decide +kernel))) rfl
theorem wm_53 : Cond.fieldLink RX4 24 "SealedGroups$Pages" "starts" "[I" ∈ wsL_law := wm (wt_1 (List.mem_of_getElem? (i := 36) (by decide +kernel))) rfl
theorem wm_54 : Cond.instanceMethod yX0_init ∈ wsL_law := wm (wt_1 (List.mem_of_getElem? (i := 64) (by decide +kernel))) rfl
theorem wm_55 : Cond.code yX0_init cX0_init 1 none ∈ wsL_law := wm (wt_1 (List.mem_of_getElem? (i := 65) rfl)) rfl
theorem wm_56 : Cond.methodLink RX0 3 objectInit ∈ wsL_law := wm (wt_1 (List.mem_of_getElem? (i := 66) (by decide +kernel))) rfl
theorem wm_57 : Cond.fieldLink RX0 9 "SealedGroups$Groups" "begins" "[I" ∈ wsL_law := wm (wt_1 (List.mem_of_getElem? (i := 67) (by decide +kernel))) rfl
theorem wm_58 : Cond.fieldLink RX0 15 "SealedGroups$Groups" "writes" "[I" ∈ wsL_law := wm (wt_1 (List.mem_of_getElem? (i := 69) (by decide +kernel))) rfl
theorem wm_59 : Cond.fieldLink RX0 18 "SealedGroups$Groups" "held" "[I" ∈ wsL_law := wm (wt_1 (List.mem_of_getElem? (i := 70) (by decide +kernel))) rfl
theorem wm_60 : Cond.instanceMethod yX2_init ∈ wsL_law := wm (wt_1 (List.mem_of_getElem? (i := 87) (by decide +kernel))) rfl
theorem wm_61 : Cond.code yX2_init cX2_init 1 none ∈ wsL_law := wm (wt_1 (List.mem_of_getElem? (i := 88) rfl)) rfl
theorem wm_62 : Cond.methodLink RX2 3 objectInit ∈ wsL_law := wm (wt_1 (List.mem_of_getElem? (i := 89) (by decide +kernel))) rfl
theorem wm_63 : Cond.fieldLink RX2 9 "SealedGroups$Journal" "kinds" "[I" ∈ wsL_law := wm (wt_1 (List.mem_of_getElem? (i := 90) (by decide +kernel))) rfl
theorem wm_64 : Cond.fieldLink RX2 15 "SealedGroups$Journal" "owners" "[I" ∈ wsL_law := wm (wt_1 (List.mem_of_getElem? (i := 93) (by decide +kernel))) rfl
theorem wm_65 : Cond.fieldLink RX2 18 "SealedGroups$Journal" "pageNumbers" "[I" ∈ wsL_law := wm (wt_1 (List.mem_of_getElem? (i := 96) (by decide +kernel))) rfl
theorem wm_66 : Cond.fieldLink RX2 21 "SealedGroups$Journal" "olds" "[I" ∈ wsL_law := wm (wt_1 (List.mem_of_getElem? (i := 99) (by decide +kernel))) rfl
theorem wm_67 : Cond.fieldLink RX2 24 "SealedGroups$Journal" "news" "[I" ∈ wsL_law := wm (wt_1 (List.mem_of_getElem? (i := 102) (by decide +kernel))) rfl
theorem wm_68 : Cond.fieldLink RX2 27 "SealedGroups$Journal" "targets" "[I" ∈ wsL_law := wm (wt_1 (List.mem_of_getElem? (i := 104) (by decide +kernel))) rfl
theorem wm_69 : Cond.fieldLink RX2 30 "SealedGroups$Journal" "checkpointStarts" "[I" ∈ wsL_law := wm (wt_1 (List.mem_of_getElem? (i := 106) (by decide +kernel))) rfl
theorem wm_70 : Cond.fieldLink RX2 33 "SealedGroups$Journal" "first" "I" ∈ wsL_law := wm (wt_1 (List.mem_of_getElem? (i := 108) (by decide +kernel))) rfl
theorem wm_71 : Cond.instanceMethod yX5_init ∈ wsL_law := wm (wt_1 (List.mem_of_getElem? (i := 170) (by decide +kernel))) rfl
theorem wm_72 : Cond.code yX5_init cX5_init 1 none ∈ wsL_law := wm (wt_1 (List.mem_of_getElem? (i := 171) rfl)) rfl
theorem wm_73 : Cond.methodLink RX5 3 objectInit ∈ wsL_law := wm (wt_1 (List.mem_of_getElem? (i := 172) (by decide +kernel))) rfl
theorem wm_74 : Cond.fieldLink RX5 9 "SealedGroups$Restarter" "starts" "[I" ∈ wsL_law := wm (wt_1 (List.mem_of_getElem? (i := 173) (by decide +kernel))) rfl
theorem wm_75 : Cond.fieldLink RX5 15 "SealedGroups$Restarter" "takenBack" "[I" ∈ wsL_law := wm (wt_1 (List.mem_of_getElem? (i := 174) (by decide +kernel))) rfl
theorem wm_76 : Cond.methodLink RX7 28 yX1_init ∈ wsL_law := wm (wt_1 (List.mem_of_getElem? (i := 194) (by decide +kernel))) rfl
theorem wm_77 : Cond.instanceMethod yX1_init ∈ wsL_law := wm (wt_1 (List.mem_of_getElem? (i := 195) (by decide +kernel))) rfl
theorem wm_78 : Cond.code yX1_init cX1_init 2 none ∈ wsL_law := wm (wt_1 (List.mem_of_getElem? (i := 196) rfl)) rfl
theorem wm_79 : Cond.methodLink RX1 3 objectInit ∈ wsL_law := wm (wt_1 (List.mem_of_getElem? (i := 197) (by decide +kernel))) rfl
theorem wm_80 : Cond.classLink RX1 9 RX6 ∈ wsL_law := wm (wt_1 (List.mem_of_getElem? (i := 198) (by decide +kernel))) rfl
theorem wm_81 : Cond.fieldLink RX1 11 "SealedGroups$History" "rows" "[LSealedGroups$Store;" ∈ wsL_law := wm (wt_1 (List.mem_of_getElem? (i := 201) (by decide +kernel))) rfl
theorem wm_82 : Cond.instanceMethod yX3_init ∈ wsL_law := wm (wt_1 (List.mem_of_getElem? (i := 215) (by decide +kernel))) rfl
theorem wm_83 : Cond.code yX3_init cX3_init 1 none ∈ wsL_law := wm (wt_1 (List.mem_of_getElem? (i := 216) rfl)) rfl
theorem wm_84 : Cond.methodLink RX3 3 objectInit ∈ wsL_law := wm (wt_1 (List.mem_of_getElem? (i := 217) (by decide +kernel))) rfl
theorem wm_85 : Cond.arrayClass .char ∈ wsL_law := wm (wt_1 (List.mem_of_getElem? (i := 237) (by decide +kernel))) rfl
theorem wm_86 : Cond.fieldLink RX3 9 "SealedGroups$OrderText" "signs" "[C" ∈ wsL_law := wm (wt_1 (List.mem_of_getElem? (i := 218) (by decide +kernel))) rfl
theorem wm_87 : Cond.methodLink RL 134 yL_isSo ∈ wsL_law := wm (wt_3 (List.mem_of_getElem? (i := 190) (by decide +kernel))) rfl
theorem wm_88 : Cond.static yL_isSo ∈ wsL_law := wm (wt_3 (List.mem_of_getElem? (i := 191) (by decide +kernel))) rfl
theorem wm_89 : Cond.initialized RL ∈ wsL_law := wm (wt_1 (List.mem_of_getElem? (i := 0) (by decide +kernel))) rfl
theorem wm_90 : Cond.code yL_isSo cL_isSo 10 (some .boolean) ∈ wsL_law := wm (wt_3 (List.mem_of_getElem? (i := 192) rfl)) rfl
theorem wm_91 : Cond.constant RL 111 (-1000004) ∈ wsL_law := wm (wt_3 (List.mem_of_getElem? (i := 196) (by decide +kernel))) rfl
theorem wm_92 : Cond.methodLink RL 122 yL_arePages ∈ wsL_law := wm (wt_3 (List.mem_of_getElem? (i := 193) (by decide +kernel))) rfl
theorem wm_93 : Cond.static yL_arePages ∈ wsL_law := wm (wt_3 (List.mem_of_getElem? (i := 194) (by decide +kernel))) rfl
theorem wm_94 : Cond.code yL_arePages cL_arePages 7 (some .boolean) ∈ wsL_law := wm (wt_3 (List.mem_of_getElem? (i := 195) rfl)) rfl
theorem wm_95 : Cond.methodLink RL 15 yL_mark ∈ wsL_law := wm (wt_3 (List.mem_of_getElem? (i := 157) (by decide +kernel))) rfl
theorem wm_96 : Cond.static yL_mark ∈ wsL_law := wm (wt_3 (List.mem_of_getElem? (i := 158) (by decide +kernel))) rfl
theorem wm_97 : Cond.code yL_mark cL_mark 2 (some .int) ∈ wsL_law := wm (wt_3 (List.mem_of_getElem? (i := 159) rfl)) rfl
theorem wm_98 : Cond.methodLink RL 95 yL_holder ∈ wsL_law := wm (wt_3 (List.mem_of_getElem? (i := 175) (by decide +kernel))) rfl
theorem wm_99 : Cond.static yL_holder ∈ wsL_law := wm (wt_3 (List.mem_of_getElem? (i := 176) (by decide +kernel))) rfl
theorem wm_100 : Cond.code yL_holder cL_holder 4 (some .int) ∈ wsL_law := wm (wt_3 (List.mem_of_getElem? (i := 177) rfl)) rfl
theorem wm_101 : Cond.methodLink RL 116 yX7_pageOf ∈ wsL_law := wm (wt_2 (List.mem_of_getElem? (i := 168) (by decide +kernel))) rfl
theorem wm_102 : Cond.instanceMethod yX7_pageOf ∈ wsL_law := wm (wt_2 (List.mem_of_getElem? (i := 169) (by decide +kernel))) rfl
theorem wm_103 : Cond.selects RX7 yX7_pageOf yX7_pageOf ∈ wsL_law := wm (wt_2 (List.mem_of_getElem? (i := 170) (by decide +kernel))) rfl
theorem wm_104 : Cond.code yX7_pageOf cX7_pageOf 3 (some .int) ∈ wsL_law := wm (wt_2 (List.mem_of_getElem? (i := 171) rfl)) rfl
theorem wm_105 : Cond.constant RX7 84 (-1000001) ∈ wsL_law := wm (wt_2 (List.mem_of_getElem? (i := 172) (by decide +kernel))) rfl
theorem wm_106 : Cond.methodLink RX7 89 yX0_holderOf ∈ wsL_law := wm (wt_2 (List.mem_of_getElem? (i := 173) (by decide +kernel))) rfl
theorem wm_107 : Cond.instanceMethod yX0_holderOf ∈ wsL_law := wm (wt_2 (List.mem_of_getElem? (i := 174) (by decide +kernel))) rfl
theorem wm_108 : Cond.selects RX0 yX0_holderOf yX0_holderOf ∈ wsL_law := wm (wt_2 (List.mem_of_getElem? (i := 175) (by decide +kernel))) rfl
theorem wm_109 : Cond.code yX0_holderOf cX0_holderOf 3 (some .int) ∈ wsL_law := wm (wt_2 (List.mem_of_getElem? (i := 176) rfl)) rfl
theorem wm_110 : Cond.fieldLink RX0 27 "SealedGroups$Groups" "open" "I" ∈ wsL_law := wm (wt_1 (List.mem_of_getElem? (i := 71) (by decide +kernel))) rfl
theorem wm_111 : Cond.constant RX0 31 (-1000004) ∈ wsL_law := wm (wt_2 (List.mem_of_getElem? (i := 177) (by decide +kernel))) rfl
theorem wm_112 : Cond.methodLink RX7 98 yX2_settledValueOf ∈ wsL_law := wm (wt_2 (List.mem_of_getElem? (i := 178) (by decide +kernel))) rfl
theorem wm_113 : Cond.instanceMethod yX2_settledValueOf ∈ wsL_law := wm (wt_2 (List.mem_of_getElem? (i := 179) (by decide +kernel))) rfl
theorem wm_114 : Cond.selects RX2 yX2_settledValueOf yX2_settledValueOf ∈ wsL_law := wm (wt_2 (List.mem_of_getElem? (i := 180) (by decide +kernel))) rfl
theorem wm_115 : Cond.code yX2_settledValueOf cX2_settledValueOf 5 (some .int) ∈ wsL_law := wm (wt_2 (List.mem_of_getElem? (i := 181) rfl)) rfl
theorem wm_116 : Cond.fieldLink RX2 43 "SealedGroups$Journal" "size" "I" ∈ wsL_law := wm (wt_1 (List.mem_of_getElem? (i := 110) (by decide +kernel))) rfl
theorem wm_117 : Cond.methodLink RX2 79 Lib.Math.min.name ∈ wsL_law := wm (wt_2 (List.mem_of_getElem? (i := 182) (by decide +kernel))) rfl
theorem wm_118 : Cond.static Lib.Math.min.name ∈ wsL_law := wm (wt_2 (List.mem_of_getElem? (i := 183) (by decide +kernel))) rfl
theorem wm_119 : Cond.initialized "java/lang/Math" ∈ wsL_law := wm (wt_1 (List.mem_of_getElem? (i := 9) (by decide +kernel))) rfl
theorem wm_120 : Cond.code Lib.Math.min.name Lib.Math.min.code 2 (some .int) ∈ wsL_law := wm (wt_2 (List.mem_of_getElem? (i := 184) rfl)) rfl
theorem wm_121 : Cond.constant RX2 55 (-1000004) ∈ wsL_law := wm (wt_2 (List.mem_of_getElem? (i := 93) (by decide +kernel))) rfl
theorem wm_122 : Cond.methodLink RX7 107 yX4_tell ∈ wsL_law := wm (wt_2 (List.mem_of_getElem? (i := 185) (by decide +kernel))) rfl
theorem wm_123 : Cond.instanceMethod yX4_tell ∈ wsL_law := wm (wt_2 (List.mem_of_getElem? (i := 186) (by decide +kernel))) rfl
theorem wm_124 : Cond.selects RX4 yX4_tell yX4_tell ∈ wsL_law := wm (wt_2 (List.mem_of_getElem? (i := 187) (by decide +kernel))) rfl
theorem wm_125 : Cond.code yX4_tell cX4_tell 3 (some .int) ∈ wsL_law := wm (wt_2 (List.mem_of_getElem? (i := 188) rfl)) rfl
theorem wm_126 : Cond.constant RX4 47 (-1000001) ∈ wsL_law := wm (wt_2 (List.mem_of_getElem? (i := 189) (by decide +kernel))) rfl
theorem wm_127 : Cond.fieldLink RX4 33 "SealedGroups$Pages" "cached" "I" ∈ wsL_law := wm (wt_1 (List.mem_of_getElem? (i := 38) (by decide +kernel))) rfl
theorem wm_128 : Cond.fieldLink RX4 37 "SealedGroups$Pages" "dirty" "I" ∈ wsL_law := wm (wt_1 (List.mem_of_getElem? (i := 41) (by decide +kernel))) rfl
theorem wm_129 : Cond.methodLink RX4 48 yX4_valueOf ∈ wsL_law := wm (wt_2 (List.mem_of_getElem? (i := 190) (by decide +kernel))) rfl
theorem wm_130 : Cond.instanceMethod yX4_valueOf ∈ wsL_law := wm (wt_2 (List.mem_of_getElem? (i := 160) (by decide +kernel))) rfl
theorem wm_131 : Cond.selects RX4 yX4_valueOf yX4_valueOf ∈ wsL_law := wm (wt_2 (List.mem_of_getElem? (i := 161) (by decide +kernel))) rfl
theorem wm_132 : Cond.code yX4_valueOf cX4_valueOf 2 (some .int) ∈ wsL_law := wm (wt_2 (List.mem_of_getElem? (i := 162) rfl)) rfl
theorem wm_133 : Cond.methodLink RX4 52 yX4_markOf ∈ wsL_law := wm (wt_2 (List.mem_of_getElem? (i := 191) (by decide +kernel))) rfl
theorem wm_134 : Cond.instanceMethod yX4_markOf ∈ wsL_law := wm (wt_2 (List.mem_of_getElem? (i := 122) (by decide +kernel))) rfl
theorem wm_135 : Cond.selects RX4 yX4_markOf yX4_markOf ∈ wsL_law := wm (wt_2 (List.mem_of_getElem? (i := 123) (by decide +kernel))) rfl
theorem wm_136 : Cond.code yX4_markOf cX4_markOf 2 (some .int) ∈ wsL_law := wm (wt_2 (List.mem_of_getElem? (i := 124) rfl)) rfl
theorem wm_137 : Cond.methodLink RX4 55 yX4_startOf ∈ wsL_law := wm (wt_2 (List.mem_of_getElem? (i := 192) (by decide +kernel))) rfl
theorem wm_138 : Cond.instanceMethod yX4_startOf ∈ wsL_law := wm (wt_2 (List.mem_of_getElem? (i := 193) (by decide +kernel))) rfl
theorem wm_139 : Cond.selects RX4 yX4_startOf yX4_startOf ∈ wsL_law := wm (wt_2 (List.mem_of_getElem? (i := 194) (by decide +kernel))) rfl
theorem wm_140 : Cond.code yX4_startOf cX4_startOf 2 (some .int) ∈ wsL_law := wm (wt_2 (List.mem_of_getElem? (i := 195) rfl)) rfl
theorem wm_141 : Cond.constant RX4 40 (-1000004) ∈ wsL_law := wm (wt_2 (List.mem_of_getElem? (i := 196) (by decide +kernel))) rfl
theorem wm_142 : Cond.methodLink RL 27 yL_value ∈ wsL_law := wm (wt_3 (List.mem_of_getElem? (i := 169) (by decide +kernel))) rfl
theorem wm_143 : Cond.static yL_value ∈ wsL_law := wm (wt_3 (List.mem_of_getElem? (i := 170) (by decide +kernel))) rfl
theorem wm_144 : Cond.code yL_value cL_value 2 (some .int) ∈ wsL_law := wm (wt_3 (List.mem_of_getElem? (i := 171) rfl)) rfl
theorem wm_145 : Cond.methodLink RL 119 yX7_groupOf ∈ wsL_law := wm (wt_2 (List.mem_of_getElem? (i := 197) (by decide +kernel))) rfl
theorem wm_146 : Cond.instanceMethod yX7_groupOf ∈ wsL_law := wm (wt_2 (List.mem_of_getElem? (i := 198) (by decide +kernel))) rfl
theorem wm_147 : Cond.selects RX7 yX7_groupOf yX7_groupOf ∈ wsL_law := wm (wt_2 (List.mem_of_getElem? (i := 199) (by decide +kernel))) rfl
theorem wm_148 : Cond.code yX7_groupOf cX7_groupOf 3 (some .int) ∈ wsL_law := wm (wt_2 (List.mem_of_getElem? (i := 200) rfl)) rfl
theorem wm_149 : Cond.methodLink RX7 114 yX0_tell ∈ wsL_law := wm (wt_2 (List.mem_of_getElem? (i := 201) (by decide +kernel))) rfl
theorem wm_150 : Cond.instanceMethod yX0_tell ∈ wsL_law := wm (wt_2 (List.mem_of_getElem? (i := 202) (by decide +kernel))) rfl
theorem wm_151 : Cond.selects RX0 yX0_tell yX0_tell ∈ wsL_law := wm (wt_2 (List.mem_of_getElem? (i := 203) (by decide +kernel))) rfl
theorem wm_152 : Cond.code yX0_tell cX0_tell 3 (some .int) ∈ wsL_law := wm (wt_2 (List.mem_of_getElem? (i := 204) rfl)) rfl
theorem wm_153 : Cond.methodLink RX0 32 yX0_isOpen ∈ wsL_law := wm (wt_2 (List.mem_of_getElem? (i := 205) (by decide +kernel))) rfl
theorem wm_154 : Cond.instanceMethod yX0_isOpen ∈ wsL_law := wm (wt_2 (List.mem_of_getElem? (i := 206) (by decide +kernel))) rfl
theorem wm_155 : Cond.selects RX0 yX0_isOpen yX0_isOpen ∈ wsL_law := wm (wt_2 (List.mem_of_getElem? (i := 207) (by decide +kernel))) rfl
theorem wm_156 : Cond.code yX0_isOpen cX0_isOpen 2 (some .boolean) ∈ wsL_law := wm (wt_2 (List.mem_of_getElem? (i := 208) rfl)) rfl
theorem wm_157 : Cond.methodLink RX0 36 yX0_beginOf ∈ wsL_law := wm (wt_2 (List.mem_of_getElem? (i := 209) (by decide +kernel))) rfl
theorem wm_158 : Cond.instanceMethod yX0_beginOf ∈ wsL_law := wm (wt_2 (List.mem_of_getElem? (i := 210) (by decide +kernel))) rfl
theorem wm_159 : Cond.selects RX0 yX0_beginOf yX0_beginOf ∈ wsL_law := wm (wt_2 (List.mem_of_getElem? (i := 211) (by decide +kernel))) rfl
theorem wm_160 : Cond.code yX0_beginOf cX0_beginOf 2 (some .int) ∈ wsL_law := wm (wt_2 (List.mem_of_getElem? (i := 212) rfl)) rfl
theorem wm_161 : Cond.methodLink RX0 40 yX0_writesOf ∈ wsL_law := wm (wt_2 (List.mem_of_getElem? (i := 213) (by decide +kernel))) rfl
theorem wm_162 : Cond.instanceMethod yX0_writesOf ∈ wsL_law := wm (wt_2 (List.mem_of_getElem? (i := 214) (by decide +kernel))) rfl
theorem wm_163 : Cond.selects RX0 yX0_writesOf yX0_writesOf ∈ wsL_law := wm (wt_2 (List.mem_of_getElem? (i := 215) (by decide +kernel))) rfl
theorem wm_164 : Cond.code yX0_writesOf cX0_writesOf 2 (some .int) ∈ wsL_law := wm (wt_2 (List.mem_of_getElem? (i := 216) rfl)) rfl
theorem wm_165 : Cond.methodLink RX0 43 yX0_heldBy ∈ wsL_law := wm (wt_2 (List.mem_of_getElem? (i := 217) (by decide +kernel))) rfl
theorem wm_166 : Cond.instanceMethod yX0_heldBy ∈ wsL_law := wm (wt_2 (List.mem_of_getElem? (i := 218) (by decide +kernel))) rfl
theorem wm_167 : Cond.selects RX0 yX0_heldBy yX0_heldBy ∈ wsL_law := wm (wt_2 (List.mem_of_getElem? (i := 219) (by decide +kernel))) rfl
theorem wm_168 : Cond.code yX0_heldBy cX0_heldBy 2 (some .int) ∈ wsL_law := wm (wt_2 (List.mem_of_getElem? (i := 220) rfl)) rfl
theorem wm_169 : Cond.methodLink RL 9 yL_last ∈ wsL_law := wm (wt_3 (List.mem_of_getElem? (i := 151) (by decide +kernel))) rfl
theorem wm_170 : Cond.static yL_last ∈ wsL_law := wm (wt_3 (List.mem_of_getElem? (i := 152) (by decide +kernel))) rfl
theorem wm_171 : Cond.code yL_last cL_last 1 (some .int) ∈ wsL_law := wm (wt_3 (List.mem_of_getElem? (i := 153) rfl)) rfl
theorem wm_172 : Cond.methodLink RL 126 yL_isRecord ∈ wsL_law := wm (wt_3 (List.mem_of_getElem? (i := 198) (by decide +kernel))) rfl
theorem wm_173 : Cond.static yL_isRecord ∈ wsL_law := wm (wt_3 (List.mem_of_getElem? (i := 199) (by decide +kernel))) rfl
theorem wm_174 : Cond.code yL_isRecord cL_isRecord 7 (some .boolean) ∈ wsL_law := wm (wt_3 (List.mem_of_getElem? (i := 200) rfl)) rfl
theorem wm_175 : Cond.methodLink RL 19 yL_of ∈ wsL_law := wm (wt_3 (List.mem_of_getElem? (i := 154) (by decide +kernel))) rfl
theorem wm_176 : Cond.static yL_of ∈ wsL_law := wm (wt_3 (List.mem_of_getElem? (i := 155) (by decide +kernel))) rfl
theorem wm_177 : Cond.code yL_of cL_of 6 (some .int) ∈ wsL_law := wm (wt_3 (List.mem_of_getElem? (i := 156) rfl)) rfl
theorem wm_178 : Cond.methodLink RL 112 yX7_recordOf ∈ wsL_law := wm (wt_3 (List.mem_of_getElem? (i := 201) (by decide +kernel))) rfl
theorem wm_179 : Cond.instanceMethod yX7_recordOf ∈ wsL_law := wm (wt_3 (List.mem_of_getElem? (i := 202) (by decide +kernel))) rfl
theorem wm_180 : Cond.selects RX7 yX7_recordOf yX7_recordOf ∈ wsL_law := wm (wt_3 (List.mem_of_getElem? (i := 203) (by decide +kernel))) rfl
theorem wm_181 : Cond.code yX7_recordOf cX7_recordOf 3 (some .int) ∈ wsL_law := wm (wt_3 (List.mem_of_getElem? (i := 204) rfl)) rfl
theorem wm_182 : Cond.methodLink RX7 113 yX2_tell ∈ wsL_law := wm (wt_3 (List.mem_of_getElem? (i := 205) (by decide +kernel))) rfl
theorem wm_183 : Cond.instanceMethod yX2_tell ∈ wsL_law := wm (wt_3 (List.mem_of_getElem? (i := 206) (by decide +kernel))) rfl
theorem wm_184 : Cond.selects RX2 yX2_tell yX2_tell ∈ wsL_law := wm (wt_3 (List.mem_of_getElem? (i := 207) (by decide +kernel))) rfl
theorem wm_185 : Cond.code yX2_tell cX2_tell 5 (some .int) ∈ wsL_law := wm (wt_3 (List.mem_of_getElem? (i := 208) rfl)) rfl
theorem wm_186 : Cond.fieldLink RX2 46 "SealedGroups$Journal" "forced" "I" ∈ wsL_law := wm (wt_1 (List.mem_of_getElem? (i := 112) (by decide +kernel))) rfl
theorem wm_187 : Cond.methodLink RX2 96 yX2_has ∈ wsL_law := wm (wt_3 (List.mem_of_getElem? (i := 124) (by decide +kernel))) rfl
theorem wm_188 : Cond.instanceMethod yX2_has ∈ wsL_law := wm (wt_3 (List.mem_of_getElem? (i := 125) (by decide +kernel))) rfl
theorem wm_189 : Cond.selects RX2 yX2_has yX2_has ∈ wsL_law := wm (wt_3 (List.mem_of_getElem? (i := 126) (by decide +kernel))) rfl
theorem wm_190 : Cond.code yX2_has cX2_has 2 (some .boolean) ∈ wsL_law := wm (wt_3 (List.mem_of_getElem? (i := 127) rfl)) rfl
theorem wm_191 : Cond.methodLink RX2 100 yX2_at ∈ wsL_law := wm (wt_3 (List.mem_of_getElem? (i := 128) (by decide +kernel))) rfl
theorem wm_192 : Cond.instanceMethod yX2_at ∈ wsL_law := wm (wt_2 (List.mem_of_getElem? (i := 90) (by decide +kernel))) rfl
theorem wm_193 : Cond.selects RX2 yX2_at yX2_at ∈ wsL_law := wm (wt_2 (List.mem_of_getElem? (i := 91) (by decide +kernel))) rfl
theorem wm_194 : Cond.code yX2_at cX2_at 4 (some .int) ∈ wsL_law := wm (wt_2 (List.mem_of_getElem? (i := 92) rfl)) rfl
theorem wm_195 : Cond.methodLink RL 130 yX7_count ∈ wsL_law := wm (wt_2 (List.mem_of_getElem? (i := 221) (by decide +kernel))) rfl
theorem wm_196 : Cond.instanceMethod yX7_count ∈ wsL_law := wm (wt_2 (List.mem_of_getElem? (i := 222) (by decide +kernel))) rfl
theorem wm_197 : Cond.selects RX7 yX7_count yX7_count ∈ wsL_law := wm (wt_2 (List.mem_of_getElem? (i := 223) (by decide +kernel))) rfl
theorem wm_198 : Cond.code yX7_count cX7_count 2 (some .int) ∈ wsL_law := wm (wt_2 (List.mem_of_getElem? (i := 224) rfl)) rfl
theorem wm_199 : Cond.methodLink RX7 147 yX2_tellNumber ∈ wsL_law := wm (wt_2 (List.mem_of_getElem? (i := 225) (by decide +kernel))) rfl
theorem wm_200 : Cond.instanceMethod yX2_tellNumber ∈ wsL_law := wm (wt_2 (List.mem_of_getElem? (i := 96) (by decide +kernel))) rfl
theorem wm_201 : Cond.selects RX2 yX2_tellNumber yX2_tellNumber ∈ wsL_law := wm (wt_2 (List.mem_of_getElem? (i := 97) (by decide +kernel))) rfl
theorem wm_202 : Cond.code yX2_tellNumber cX2_tellNumber 2 (some .int) ∈ wsL_law := wm (wt_2 (List.mem_of_getElem? (i := 98) rfl)) rfl
theorem wm_203 : Cond.methodLink RX2 56 Lib.Math.max.name ∈ wsL_law := wm (wt_2 (List.mem_of_getElem? (i := 69) (by decide +kernel))) rfl
theorem wm_204 : Cond.static Lib.Math.max.name ∈ wsL_law := wm (wt_2 (List.mem_of_getElem? (i := 70) (by decide +kernel))) rfl
theorem wm_205 : Cond.code Lib.Math.max.name Lib.Math.max.code 2 (some .int) ∈ wsL_law := wm (wt_2 (List.mem_of_getElem? (i := 71) rfl)) rfl
theorem wm_206 : Cond.fieldLink RX2 49 "SealedGroups$Journal" "latestCheckpoint" "I" ∈ wsL_law := wm (wt_1 (List.mem_of_getElem? (i := 113) (by decide +kernel))) rfl
theorem wm_207 : Cond.constant RX2 104 (-1000001) ∈ wsL_law := wm (wt_2 (List.mem_of_getElem? (i := 103) (by decide +kernel))) rfl
theorem wm_208 : Cond.methodLink RX2 93 yX2_last ∈ wsL_law := wm (wt_2 (List.mem_of_getElem? (i := 99) (by decide +kernel))) rfl
theorem wm_209 : Cond.instanceMethod yX2_last ∈ wsL_law := wm (wt_2 (List.mem_of_getElem? (i := 100) (by decide +kernel))) rfl
theorem wm_210 : Cond.selects RX2 yX2_last yX2_last ∈ wsL_law := wm (wt_2 (List.mem_of_getElem? (i := 101) (by decide +kernel))) rfl
theorem wm_211 : Cond.code yX2_last cX2_last 1 (some .int) ∈ wsL_law := wm (wt_2 (List.mem_of_getElem? (i := 102) rfl)) rfl
theorem wm_212 : Cond.methodLink RX2 89 yX2_droppable ∈ wsL_law := wm (wt_2 (List.mem_of_getElem? (i := 65) (by decide +kernel))) rfl
theorem wm_213 : Cond.instanceMethod yX2_droppable ∈ wsL_law := wm (wt_2 (List.mem_of_getElem? (i := 66) (by decide +kernel))) rfl
theorem wm_214 : Cond.selects RX2 yX2_droppable yX2_droppable ∈ wsL_law := wm (wt_2 (List.mem_of_getElem? (i := 67) (by decide +kernel))) rfl
theorem wm_215 : Cond.code yX2_droppable cX2_droppable 1 (some .int) ∈ wsL_law := wm (wt_2 (List.mem_of_getElem? (i := 68) rfl)) rfl
theorem wm_216 : Cond.fieldLink RX2 52 "SealedGroups$Journal" "dropLimit" "I" ∈ wsL_law := wm (wt_1 (List.mem_of_getElem? (i := 116) (by decide +kernel))) rfl
theorem wm_217 : Cond.methodLink RL 101 yL_open ∈ wsL_law := wm (wt_3 (List.mem_of_getElem? (i := 181) (by decide +kernel))) rfl
theorem wm_218 : Cond.static yL_open ∈ wsL_law := wm (wt_3 (List.mem_of_getElem? (i := 182) (by decide +kernel))) rfl
theorem wm_219 : Cond.code yL_open cL_open 1 (some .int) ∈ wsL_law := wm (wt_3 (List.mem_of_getElem? (i := 183) rfl)) rfl
theorem wm_220 : Cond.methodLink RL 98 yL_dirty ∈ wsL_law := wm (wt_3 (List.mem_of_getElem? (i := 178) (by decide +kernel))) rfl
theorem wm_221 : Cond.static yL_dirty ∈ wsL_law := wm (wt_3 (List.mem_of_getElem? (i := 179) (by decide +kernel))) rfl
theorem wm_222 : Cond.code yL_dirty cL_dirty 3 (some .int) ∈ wsL_law := wm (wt_3 (List.mem_of_getElem? (i := 180) rfl)) rfl
theorem wm_223 : Cond.methodLink RL 34 yL_latest ∈ wsL_law := wm (wt_3 (List.mem_of_getElem? (i := 148) (by decide +kernel))) rfl
theorem wm_224 : Cond.static yL_latest ∈ wsL_law := wm (wt_3 (List.mem_of_getElem? (i := 149) (by decide +kernel))) rfl
theorem wm_225 : Cond.code yL_latest cL_latest 4 (some .int) ∈ wsL_law := wm (wt_3 (List.mem_of_getElem? (i := 150) rfl)) rfl
theorem wm_226 : Cond.methodLink RL 104 yL_drop ∈ wsL_law := wm (wt_3 (List.mem_of_getElem? (i := 184) (by decide +kernel))) rfl
theorem wm_227 : Cond.static yL_drop ∈ wsL_law := wm (wt_3 (List.mem_of_getElem? (i := 185) (by decide +kernel))) rfl
theorem wm_228 : Cond.code yL_drop cL_drop 8 (some .int) ∈ wsL_law := wm (wt_3 (List.mem_of_getElem? (i := 186) rfl)) rfl
theorem wm_229 : Cond.methodLink RL 92 yX7_restart ∈ wsL_law := wm (wt_2 (List.mem_of_getElem? (i := 76) (by decide +kernel))) rfl
theorem wm_230 : Cond.instanceMethod yX7_restart ∈ wsL_law := wm (wt_2 (List.mem_of_getElem? (i := 77) (by decide +kernel))) rfl
theorem wm_231 : Cond.selects RX7 yX7_restart yX7_restart ∈ wsL_law := wm (wt_2 (List.mem_of_getElem? (i := 78) (by decide +kernel))) rfl
theorem wm_232 : Cond.code yX7_restart cX7_restart 1 (some .int) ∈ wsL_law := wm (wt_2 (List.mem_of_getElem? (i := 79) rfl)) rfl
theorem wm_233 : Cond.methodLink RX7 40 yX1_prepare ∈ wsL_law := wm (wt_2 (List.mem_of_getElem? (i := 24) (by decide +kernel))) rfl
theorem wm_234 : Cond.instanceMethod yX1_prepare ∈ wsL_law := wm (wt_2 (List.mem_of_getElem? (i := 25) (by decide +kernel))) rfl
theorem wm_235 : Cond.selects RX1 yX1_prepare yX1_prepare ∈ wsL_law := wm (wt_2 (List.mem_of_getElem? (i := 26) (by decide +kernel))) rfl
theorem wm_236 : Cond.code yX1_prepare cX1_prepare 3 none ∈ wsL_law := wm (wt_2 (List.mem_of_getElem? (i := 27) rfl)) rfl
theorem wm_237 : Cond.fieldLink RX1 28 "SealedGroups$History" "size" "I" ∈ wsL_law := wm (wt_1 (List.mem_of_getElem? (i := 203) (by decide +kernel))) rfl
theorem wm_238 : Cond.methodLink RX1 31 yX1_rowAt ∈ wsL_law := wm (wt_2 (List.mem_of_getElem? (i := 28) (by decide +kernel))) rfl
theorem wm_239 : Cond.instanceMethod yX1_rowAt ∈ wsL_law := wm (wt_2 (List.mem_of_getElem? (i := 30) (by decide +kernel))) rfl
theorem wm_240 : Cond.selects RX1 yX1_rowAt yX1_rowAt ∈ wsL_law := wm (wp_1 (List.mem_of_getElem? (i := 0) (by decide +kernel))) rfl
theorem wm_241 : Cond.code yX1_rowAt cX1_rowAt 3 (some (.object "SealedGroups$Store")) ∈ wsL_law := wm (wt_2 (List.mem_of_getElem? (i := 31) rfl)) rfl
theorem wm_242 : Cond.fieldLink RX1 18 "SealedGroups$History" "oldest" "I" ∈ wsL_law := wm (wt_1 (List.mem_of_getElem? (i := 202) (by decide +kernel))) rfl
theorem wm_243 : Cond.methodLink RX1 22 yJ9_floorMod_7cf53 ∈ wsL_law := wm (wt_2 (List.mem_of_getElem? (i := 32) (by decide +kernel))) rfl
theorem wm_244 : Cond.static yJ9_floorMod_7cf53 ∈ wsL_law := wm (wt_2 (List.mem_of_getElem? (i := 33) (by decide +kernel))) rfl
theorem wm_246 : Cond.code yJ9_floorMod_7cf53 cJ9_floorMod_7cf53 3 (some .int) ∈ wsL_law := wm (wt_2 (List.mem_of_getElem? (i := 34) rfl)) rfl
theorem wm_247 : Cond.methodLink RX1 35 yX6_copyFrom ∈ wsL_law := wm (wt_2 (List.mem_of_getElem? (i := 35) (by decide +kernel))) rfl
theorem wm_248 : Cond.instanceMethod yX6_copyFrom ∈ wsL_law := wm (wt_2 (List.mem_of_getElem? (i := 36) (by decide +kernel))) rfl
theorem wm_249 : Cond.selects RX6 yX6_copyFrom yX6_copyFrom ∈ wsL_law := wm (wt_2 (List.mem_of_getElem? (i := 37) (by decide +kernel))) rfl
theorem wm_250 : Cond.code yX6_copyFrom cX6_copyFrom 2 none ∈ wsL_law := wm (wt_2 (List.mem_of_getElem? (i := 38) rfl)) rfl
theorem wm_251 : Cond.fieldLink RX6 42 "SealedGroups$Store" "stopped" "Z" ∈ wsL_law := wm (wt_1 (List.mem_of_getElem? (i := 151) (by decide +kernel))) rfl
theorem wm_252 : Cond.fieldLink RX6 46 "SealedGroups$Store" "doneAgain" "I" ∈ wsL_law := wm (wt_1 (List.mem_of_getElem? (i := 153) (by decide +kernel))) rfl
theorem wm_253 : Cond.methodLink RX6 32 yX4_copyFrom ∈ wsL_law := wm (wt_2 (List.mem_of_getElem? (i := 39) (by decide +kernel))) rfl
theorem wm_254 : Cond.instanceMethod yX4_copyFrom ∈ wsL_law := wm (wt_2 (List.mem_of_getElem? (i := 40) (by decide +kernel))) rfl
theorem wm_255 : Cond.selects RX4 yX4_copyFrom yX4_copyFrom ∈ wsL_law := wm (wt_2 (List.mem_of_getElem? (i := 41) (by decide +kernel))) rfl
theorem wm_256 : Cond.code yX4_copyFrom cX4_copyFrom 2 none ∈ wsL_law := wm (wt_2 (List.mem_of_getElem? (i := 42) rfl)) rfl
theorem wm_257 : Cond.methodLink RX4 27 arraycopyName ∈ wsL_law := wm (wt_2 (List.mem_of_getElem? (i := 43) (by decide +kernel))) rfl
theorem wm_258 : Cond.native arraycopyName ∈ wsL_law := wm (wt_2 (List.mem_of_getElem? (i := 45) (by decide +kernel))) rfl
theorem wm_259 : Cond.static arraycopyName ∈ wsL_law := wm (wt_2 (List.mem_of_getElem? (i := 44) (by decide +kernel))) rfl
theorem wm_260 : Cond.initialized "java/lang/System" ∈ wsL_law := wm (wt_1 (List.mem_of_getElem? (i := 10) (by decide +kernel))) rfl
theorem wm_261 : Cond.methodLink RX6 36 yX0_copyFrom ∈ wsL_law := wm (wt_2 (List.mem_of_getElem? (i := 46) (by decide +kernel))) rfl
theorem wm_262 : Cond.instanceMethod yX0_copyFrom ∈ wsL_law := wm (wt_2 (List.mem_of_getElem? (i := 47) (by decide +kernel))) rfl
theorem wm_263 : Cond.selects RX0 yX0_copyFrom yX0_copyFrom ∈ wsL_law := wm (wt_2 (List.mem_of_getElem? (i := 48) (by decide +kernel))) rfl
theorem wm_264 : Cond.code yX0_copyFrom cX0_copyFrom 2 none ∈ wsL_law := wm (wt_2 (List.mem_of_getElem? (i := 49) rfl)) rfl
theorem wm_265 : Cond.methodLink RX0 21 arraycopyName ∈ wsL_law := wm (wt_2 (List.mem_of_getElem? (i := 50) (by decide +kernel))) rfl
theorem wm_266 : Cond.methodLink RX6 39 yX2_copyFrom ∈ wsL_law := wm (wt_2 (List.mem_of_getElem? (i := 51) (by decide +kernel))) rfl
theorem wm_267 : Cond.instanceMethod yX2_copyFrom ∈ wsL_law := wm (wt_2 (List.mem_of_getElem? (i := 52) (by decide +kernel))) rfl
theorem wm_268 : Cond.selects RX2 yX2_copyFrom yX2_copyFrom ∈ wsL_law := wm (wt_2 (List.mem_of_getElem? (i := 53) (by decide +kernel))) rfl
theorem wm_269 : Cond.code yX2_copyFrom cX2_copyFrom 2 none ∈ wsL_law := wm (wt_2 (List.mem_of_getElem? (i := 54) rfl)) rfl
theorem wm_270 : Cond.methodLink RX2 37 arraycopyName ∈ wsL_law := wm (wt_2 (List.mem_of_getElem? (i := 55) (by decide +kernel))) rfl
theorem wm_271 : Cond.methodLink RX7 80 yX5_run ∈ wsL_law := wm (wt_2 (List.mem_of_getElem? (i := 80) (by decide +kernel))) rfl
theorem wm_272 : Cond.instanceMethod yX5_run ∈ wsL_law := wm (wt_2 (List.mem_of_getElem? (i := 81) (by decide +kernel))) rfl
theorem wm_273 : Cond.selects RX5 yX5_run yX5_run ∈ wsL_law := wm (wt_2 (List.mem_of_getElem? (i := 82) (by decide +kernel))) rfl
theorem wm_274 : Cond.code yX5_run cX5_run 2 (some .int) ∈ wsL_law := wm (wt_2 (List.mem_of_getElem? (i := 83) rfl)) rfl
theorem wm_275 : Cond.constant RX5 24 (-1000002) ∈ wsL_law := wm (wt_2 (List.mem_of_getElem? (i := 84) (by decide +kernel))) rfl
theorem wm_276 : Cond.fieldLink RX5 59 "SealedGroups$Restarter" "doneAgain" "I" ∈ wsL_law := wm (wt_1 (List.mem_of_getElem? (i := 177) (by decide +kernel))) rfl
theorem wm_277 : Cond.methodLink RX5 29 yX5_look ∈ wsL_law := wm (wt_2 (List.mem_of_getElem? (i := 85) (by decide +kernel))) rfl
theorem wm_278 : Cond.instanceMethod yX5_look ∈ wsL_law := wm (wt_2 (List.mem_of_getElem? (i := 87) (by decide +kernel))) rfl
theorem wm_279 : Cond.selects RX5 yX5_look yX5_look ∈ wsL_law := wm (wp_1 (List.mem_of_getElem? (i := 1) (by decide +kernel))) rfl
theorem wm_280 : Cond.code yX5_look cX5_look 6 none ∈ wsL_law := wm (wt_2 (List.mem_of_getElem? (i := 88) rfl)) rfl
theorem wm_281 : Cond.methodLink RX5 80 Lib.Math.max.name ∈ wsL_law := wm (wt_2 (List.mem_of_getElem? (i := 94) (by decide +kernel))) rfl
theorem wm_282 : Cond.fieldLink RX5 63 "SealedGroups$Restarter" "losers" "I" ∈ wsL_law := wm (wt_1 (List.mem_of_getElem? (i := 176) (by decide +kernel))) rfl
theorem wm_283 : Cond.fieldLink RX5 66 "SealedGroups$Restarter" "lookedFrom" "I" ∈ wsL_law := wm (wt_1 (List.mem_of_getElem? (i := 175) (by decide +kernel))) rfl
theorem wm_284 : Cond.methodLink RX5 76 yX2_at ∈ wsL_law := wm (wt_2 (List.mem_of_getElem? (i := 89) (by decide +kernel))) rfl
theorem wm_285 : Cond.methodLink RX5 86 yX2_tellNumber ∈ wsL_law := wm (wt_2 (List.mem_of_getElem? (i := 95) (by decide +kernel))) rfl
theorem wm_286 : Cond.methodLink RX5 45 yX2_last ∈ wsL_law := wm (wt_2 (List.mem_of_getElem? (i := 104) (by decide +kernel))) rfl
theorem wm_287 : Cond.methodLink RX5 95 yX5_lookAt ∈ wsL_law := wm (wt_2 (List.mem_of_getElem? (i := 105) (by decide +kernel))) rfl
theorem wm_288 : Cond.instanceMethod yX5_lookAt ∈ wsL_law := wm (wt_2 (List.mem_of_getElem? (i := 107) (by decide +kernel))) rfl
theorem wm_289 : Cond.selects RX5 yX5_lookAt yX5_lookAt ∈ wsL_law := wm (wp_1 (List.mem_of_getElem? (i := 2) (by decide +kernel))) rfl
theorem wm_290 : Cond.code yX5_lookAt cX5_lookAt 6 none ∈ wsL_law := wm (wt_2 (List.mem_of_getElem? (i := 108) rfl)) rfl
theorem wm_291 : Cond.methodLink RX5 37 yX5_doAgain ∈ wsL_law := wm (wt_2 (List.mem_of_getElem? (i := 109) (by decide +kernel))) rfl
theorem wm_292 : Cond.instanceMethod yX5_doAgain ∈ wsL_law := wm (wt_2 (List.mem_of_getElem? (i := 111) (by decide +kernel))) rfl
theorem wm_293 : Cond.selects RX5 yX5_doAgain yX5_doAgain ∈ wsL_law := wm (wp_1 (List.mem_of_getElem? (i := 3) (by decide +kernel))) rfl
theorem wm_294 : Cond.code yX5_doAgain cX5_doAgain 9 none ∈ wsL_law := wm (wt_2 (List.mem_of_getElem? (i := 112) rfl)) rfl
theorem wm_295 : Cond.methodLink RX5 108 yX5_leastStart ∈ wsL_law := wm (wt_2 (List.mem_of_getElem? (i := 113) (by decide +kernel))) rfl
theorem wm_296 : Cond.instanceMethod yX5_leastStart ∈ wsL_law := wm (wt_2 (List.mem_of_getElem? (i := 115) (by decide +kernel))) rfl
theorem wm_297 : Cond.selects RX5 yX5_leastStart yX5_leastStart ∈ wsL_law := wm (wp_1 (List.mem_of_getElem? (i := 4) (by decide +kernel))) rfl
theorem wm_298 : Cond.code yX5_leastStart cX5_leastStart 3 (some .int) ∈ wsL_law := wm (wt_2 (List.mem_of_getElem? (i := 116) rfl)) rfl
theorem wm_299 : Cond.methodLink RX5 111 yX5_isAfterStart ∈ wsL_law := wm (wt_2 (List.mem_of_getElem? (i := 117) (by decide +kernel))) rfl
theorem wm_300 : Cond.instanceMethod yX5_isAfterStart ∈ wsL_law := wm (wt_2 (List.mem_of_getElem? (i := 119) (by decide +kernel))) rfl
theorem wm_301 : Cond.selects RX5 yX5_isAfterStart yX5_isAfterStart ∈ wsL_law := wm (wp_1 (List.mem_of_getElem? (i := 5) (by decide +kernel))) rfl
theorem wm_302 : Cond.code yX5_isAfterStart cX5_isAfterStart 3 (some .boolean) ∈ wsL_law := wm (wt_2 (List.mem_of_getElem? (i := 120) rfl)) rfl
theorem wm_303 : Cond.methodLink RX5 115 yX4_markOf ∈ wsL_law := wm (wt_2 (List.mem_of_getElem? (i := 121) (by decide +kernel))) rfl
theorem wm_304 : Cond.methodLink RX5 123 yX4_put ∈ wsL_law := wm (wt_2 (List.mem_of_getElem? (i := 125) (by decide +kernel))) rfl
theorem wm_305 : Cond.instanceMethod yX4_put ∈ wsL_law := wm (wt_2 (List.mem_of_getElem? (i := 126) (by decide +kernel))) rfl
theorem wm_306 : Cond.selects RX4 yX4_put yX4_put ∈ wsL_law := wm (wt_2 (List.mem_of_getElem? (i := 127) (by decide +kernel))) rfl
theorem wm_307 : Cond.code yX4_put cX4_put 5 none ∈ wsL_law := wm (wt_2 (List.mem_of_getElem? (i := 128) rfl)) rfl
theorem wm_308 : Cond.methodLink RX5 41 yX5_takeLosersBack ∈ wsL_law := wm (wt_2 (List.mem_of_getElem? (i := 129) (by decide +kernel))) rfl
theorem wm_309 : Cond.instanceMethod yX5_takeLosersBack ∈ wsL_law := wm (wt_2 (List.mem_of_getElem? (i := 131) (by decide +kernel))) rfl
theorem wm_310 : Cond.selects RX5 yX5_takeLosersBack yX5_takeLosersBack ∈ wsL_law := wm (wp_1 (List.mem_of_getElem? (i := 6) (by decide +kernel))) rfl
theorem wm_311 : Cond.code yX5_takeLosersBack cX5_takeLosersBack 8 none ∈ wsL_law := wm (wt_2 (List.mem_of_getElem? (i := 132) rfl)) rfl
theorem wm_312 : Cond.fieldLink RX5 60 "SealedGroups$Restarter" "writesTakenBack" "I" ∈ wsL_law := wm (wt_1 (List.mem_of_getElem? (i := 178) (by decide +kernel))) rfl
theorem wm_313 : Cond.methodLink RX5 130 yX5_noteTakenBack ∈ wsL_law := wm (wt_2 (List.mem_of_getElem? (i := 133) (by decide +kernel))) rfl
theorem wm_314 : Cond.instanceMethod yX5_noteTakenBack ∈ wsL_law := wm (wt_2 (List.mem_of_getElem? (i := 135) (by decide +kernel))) rfl
theorem wm_315 : Cond.selects RX5 yX5_noteTakenBack yX5_noteTakenBack ∈ wsL_law := wm (wp_1 (List.mem_of_getElem? (i := 7) (by decide +kernel))) rfl
theorem wm_316 : Cond.code yX5_noteTakenBack cX5_noteTakenBack 2 none ∈ wsL_law := wm (wt_2 (List.mem_of_getElem? (i := 136) rfl)) rfl
theorem wm_317 : Cond.methodLink RX5 134 yX6_endGroup ∈ wsL_law := wm (wt_2 (List.mem_of_getElem? (i := 137) (by decide +kernel))) rfl
theorem wm_318 : Cond.instanceMethod yX6_endGroup ∈ wsL_law := wm (wt_2 (List.mem_of_getElem? (i := 138) (by decide +kernel))) rfl
theorem wm_319 : Cond.selects RX6 yX6_endGroup yX6_endGroup ∈ wsL_law := wm (wt_2 (List.mem_of_getElem? (i := 139) (by decide +kernel))) rfl
theorem wm_320 : Cond.code yX6_endGroup cX6_endGroup 2 none ∈ wsL_law := wm (wt_2 (List.mem_of_getElem? (i := 140) rfl)) rfl
theorem wm_321 : Cond.constant RX6 61 (-1000004) ∈ wsL_law := wm (wt_2 (List.mem_of_getElem? (i := 141) (by decide +kernel))) rfl
theorem wm_322 : Cond.methodLink RX6 62 yX2_append ∈ wsL_law := wm (wt_2 (List.mem_of_getElem? (i := 142) (by decide +kernel))) rfl
theorem wm_323 : Cond.instanceMethod yX2_append ∈ wsL_law := wm (wt_2 (List.mem_of_getElem? (i := 143) (by decide +kernel))) rfl
theorem wm_324 : Cond.selects RX2 yX2_append yX2_append ∈ wsL_law := wm (wt_2 (List.mem_of_getElem? (i := 144) (by decide +kernel))) rfl
theorem wm_325 : Cond.code yX2_append cX2_append 7 (some .int) ∈ wsL_law := wm (wt_2 (List.mem_of_getElem? (i := 145) rfl)) rfl
theorem wm_326 : Cond.methodLink RX6 94 yX0_leave ∈ wsL_law := wm (wt_2 (List.mem_of_getElem? (i := 146) (by decide +kernel))) rfl
theorem wm_327 : Cond.instanceMethod yX0_leave ∈ wsL_law := wm (wt_2 (List.mem_of_getElem? (i := 147) (by decide +kernel))) rfl
theorem wm_328 : Cond.selects RX0 yX0_leave yX0_leave ∈ wsL_law := wm (wt_2 (List.mem_of_getElem? (i := 148) (by decide +kernel))) rfl
theorem wm_329 : Cond.code yX0_leave cX0_leave 2 none ∈ wsL_law := wm (wt_2 (List.mem_of_getElem? (i := 149) rfl)) rfl
theorem wm_330 : Cond.methodLink RX5 137 yX5_isTakenBack ∈ wsL_law := wm (wt_2 (List.mem_of_getElem? (i := 150) (by decide +kernel))) rfl
theorem wm_331 : Cond.instanceMethod yX5_isTakenBack ∈ wsL_law := wm (wt_2 (List.mem_of_getElem? (i := 152) (by decide +kernel))) rfl
theorem wm_332 : Cond.selects RX5 yX5_isTakenBack yX5_isTakenBack ∈ wsL_law := wm (wp_1 (List.mem_of_getElem? (i := 8) (by decide +kernel))) rfl
theorem wm_333 : Cond.code yX5_isTakenBack cX5_isTakenBack 2 (some .boolean) ∈ wsL_law := wm (wt_2 (List.mem_of_getElem? (i := 153) rfl)) rfl
theorem wm_334 : Cond.methodLink RX5 141 yX6_takeWriteBack ∈ wsL_law := wm (wt_2 (List.mem_of_getElem? (i := 154) (by decide +kernel))) rfl
theorem wm_335 : Cond.instanceMethod yX6_takeWriteBack ∈ wsL_law := wm (wt_2 (List.mem_of_getElem? (i := 155) (by decide +kernel))) rfl
theorem wm_336 : Cond.selects RX6 yX6_takeWriteBack yX6_takeWriteBack ∈ wsL_law := wm (wt_2 (List.mem_of_getElem? (i := 156) (by decide +kernel))) rfl
theorem wm_337 : Cond.code yX6_takeWriteBack cX6_takeWriteBack 6 none ∈ wsL_law := wm (wt_2 (List.mem_of_getElem? (i := 157) rfl)) rfl
theorem wm_338 : Cond.methodLink RX6 120 yX2_at ∈ wsL_law := wm (wt_2 (List.mem_of_getElem? (i := 158) (by decide +kernel))) rfl
theorem wm_339 : Cond.methodLink RX6 74 yX4_valueOf ∈ wsL_law := wm (wt_2 (List.mem_of_getElem? (i := 159) (by decide +kernel))) rfl
theorem wm_340 : Cond.methodLink RX6 77 yX4_put ∈ wsL_law := wm (wt_2 (List.mem_of_getElem? (i := 163) (by decide +kernel))) rfl
theorem wm_341 : Cond.methodLink RX5 51 yX2_forceUpTo ∈ wsL_law := wm (wt_2 (List.mem_of_getElem? (i := 164) (by decide +kernel))) rfl
theorem wm_342 : Cond.instanceMethod yX2_forceUpTo ∈ wsL_law := wm (wt_2 (List.mem_of_getElem? (i := 165) (by decide +kernel))) rfl
theorem wm_343 : Cond.selects RX2 yX2_forceUpTo yX2_forceUpTo ∈ wsL_law := wm (wt_2 (List.mem_of_getElem? (i := 166) (by decide +kernel))) rfl
theorem wm_344 : Cond.code yX2_forceUpTo cX2_forceUpTo 3 (some .int) ∈ wsL_law := wm (wt_2 (List.mem_of_getElem? (i := 167) rfl)) rfl
theorem wm_345 : Cond.methodLink RX7 48 yX1_keepUnlessError ∈ wsL_law := wm (wt_2 (List.mem_of_getElem? (i := 72) (by decide +kernel))) rfl
theorem wm_346 : Cond.instanceMethod yX1_keepUnlessError ∈ wsL_law := wm (wt_2 (List.mem_of_getElem? (i := 73) (by decide +kernel))) rfl
theorem wm_347 : Cond.selects RX1 yX1_keepUnlessError yX1_keepUnlessError ∈ wsL_law := wm (wt_2 (List.mem_of_getElem? (i := 74) (by decide +kernel))) rfl
theorem wm_348 : Cond.code yX1_keepUnlessError cX1_keepUnlessError 2 (some .int) ∈ wsL_law := wm (wt_2 (List.mem_of_getElem? (i := 75) rfl)) rfl
theorem wm_349 : Cond.methodLink RL 77 yX7_dropRecords ∈ wsL_law := wm (wt_2 (List.mem_of_getElem? (i := 20) (by decide +kernel))) rfl
theorem wm_350 : Cond.instanceMethod yX7_dropRecords ∈ wsL_law := wm (wt_2 (List.mem_of_getElem? (i := 21) (by decide +kernel))) rfl
theorem wm_351 : Cond.selects RX7 yX7_dropRecords yX7_dropRecords ∈ wsL_law := wm (wt_2 (List.mem_of_getElem? (i := 22) (by decide +kernel))) rfl
theorem wm_352 : Cond.code yX7_dropRecords cX7_dropRecords 1 (some .int) ∈ wsL_law := wm (wt_2 (List.mem_of_getElem? (i := 23) rfl)) rfl
theorem wm_353 : Cond.methodLink RX7 71 yX6_dropOldRecords ∈ wsL_law := wm (wt_2 (List.mem_of_getElem? (i := 56) (by decide +kernel))) rfl
theorem wm_354 : Cond.instanceMethod yX6_dropOldRecords ∈ wsL_law := wm (wt_2 (List.mem_of_getElem? (i := 57) (by decide +kernel))) rfl
theorem wm_355 : Cond.selects RX6 yX6_dropOldRecords yX6_dropOldRecords ∈ wsL_law := wm (wt_2 (List.mem_of_getElem? (i := 58) (by decide +kernel))) rfl
theorem wm_356 : Cond.code yX6_dropOldRecords cX6_dropOldRecords 1 (some .int) ∈ wsL_law := wm (wt_2 (List.mem_of_getElem? (i := 59) rfl)) rfl
theorem wm_357 : Cond.constant RX6 55 (-1000002) ∈ wsL_law := wm (wt_2 (List.mem_of_getElem? (i := 60) (by decide +kernel))) rfl
theorem wm_358 : Cond.methodLink RX6 158 yX2_dropFirst ∈ wsL_law := wm (wt_2 (List.mem_of_getElem? (i := 61) (by decide +kernel))) rfl
theorem wm_359 : Cond.instanceMethod yX2_dropFirst ∈ wsL_law := wm (wt_2 (List.mem_of_getElem? (i := 62) (by decide +kernel))) rfl
theorem wm_360 : Cond.selects RX2 yX2_dropFirst yX2_dropFirst ∈ wsL_law := wm (wt_2 (List.mem_of_getElem? (i := 63) (by decide +kernel))) rfl
theorem wm_361 : Cond.code yX2_dropFirst cX2_dropFirst 3 (some .int) ∈ wsL_law := wm (wt_2 (List.mem_of_getElem? (i := 64) rfl)) rfl
theorem wm_362 : Cond.methodLink RL 138 yL_cell ∈ wsL_law := wm (wt_2 (List.mem_of_getElem? (i := 226) (by decide +kernel))) rfl
theorem wm_363 : Cond.static yL_cell ∈ wsL_law := wm (wt_2 (List.mem_of_getElem? (i := 227) (by decide +kernel))) rfl
theorem wm_364 : Cond.code yL_cell cL_cell 2 (some .int) ∈ wsL_law := wm (wt_2 (List.mem_of_getElem? (i := 228) rfl)) rfl
theorem wm_365 : Cond.constant RL 7 (40503) ∈ wsL_law := wm (wt_2 (List.mem_of_getElem? (i := 229) (by decide +kernel))) rfl
theorem wm_366 : Cond.methodLink RL 46 yL_low ∈ wsL_law := wm (wt_2 (List.mem_of_getElem? (i := 230) (by decide +kernel))) rfl
theorem wm_367 : Cond.static yL_low ∈ wsL_law := wm (wt_2 (List.mem_of_getElem? (i := 231) (by decide +kernel))) rfl
theorem wm_368 : Cond.code yL_low cL_low 2 (some .int) ∈ wsL_law := wm (wt_2 (List.mem_of_getElem? (i := 232) rfl)) rfl
theorem wm_369 : Cond.constant RL 8 (2147483647) ∈ wsL_law := wm (wt_2 (List.mem_of_getElem? (i := 233) (by decide +kernel))) rfl
theorem wm_370 : Cond.methodLink RL 141 yL_acts ∈ wsL_law := wm (wt_2 (List.mem_of_getElem? (i := 234) (by decide +kernel))) rfl
theorem wm_371 : Cond.static yL_acts ∈ wsL_law := wm (wt_2 (List.mem_of_getElem? (i := 235) (by decide +kernel))) rfl
theorem wm_372 : Cond.code yL_acts cL_acts 17 (some .boolean) ∈ wsL_law := wm (wt_2 (List.mem_of_getElem? (i := 236) rfl)) rfl
theorem wm_373 : Cond.methodLink RL 51 yX7_begin ∈ wsL_law := wm (wt_2 (List.mem_of_getElem? (i := 239) (by decide +kernel))) rfl
theorem wm_374 : Cond.instanceMethod yX7_begin ∈ wsL_law := wm (wt_3 (List.mem_of_getElem? (i := 0) (by decide +kernel))) rfl
theorem wm_375 : Cond.selects RX7 yX7_begin yX7_begin ∈ wsL_law := wm (wt_3 (List.mem_of_getElem? (i := 1) (by decide +kernel))) rfl
theorem wm_376 : Cond.code yX7_begin cX7_begin 2 (some .int) ∈ wsL_law := wm (wt_3 (List.mem_of_getElem? (i := 2) rfl)) rfl
theorem wm_377 : Cond.methodLink RX7 44 yX6_beginGroup ∈ wsL_law := wm (wt_3 (List.mem_of_getElem? (i := 3) (by decide +kernel))) rfl
theorem wm_378 : Cond.instanceMethod yX6_beginGroup ∈ wsL_law := wm (wt_3 (List.mem_of_getElem? (i := 4) (by decide +kernel))) rfl
theorem wm_379 : Cond.selects RX6 yX6_beginGroup yX6_beginGroup ∈ wsL_law := wm (wt_3 (List.mem_of_getElem? (i := 5) (by decide +kernel))) rfl
theorem wm_380 : Cond.code yX6_beginGroup cX6_beginGroup 3 (some .int) ∈ wsL_law := wm (wt_3 (List.mem_of_getElem? (i := 6) rfl)) rfl
theorem wm_381 : Cond.constant RX6 50 (-1000001) ∈ wsL_law := wm (wt_3 (List.mem_of_getElem? (i := 7) (by decide +kernel))) rfl
theorem wm_382 : Cond.constant RX6 60 (-1000003) ∈ wsL_law := wm (wt_3 (List.mem_of_getElem? (i := 13) (by decide +kernel))) rfl
theorem wm_383 : Cond.methodLink RX6 51 yX0_isOpen ∈ wsL_law := wm (wt_3 (List.mem_of_getElem? (i := 8) (by decide +kernel))) rfl
theorem wm_384 : Cond.methodLink RX6 56 yX2_isFull ∈ wsL_law := wm (wt_3 (List.mem_of_getElem? (i := 9) (by decide +kernel))) rfl
theorem wm_385 : Cond.instanceMethod yX2_isFull ∈ wsL_law := wm (wt_3 (List.mem_of_getElem? (i := 10) (by decide +kernel))) rfl
theorem wm_386 : Cond.selects RX2 yX2_isFull yX2_isFull ∈ wsL_law := wm (wt_3 (List.mem_of_getElem? (i := 11) (by decide +kernel))) rfl
theorem wm_387 : Cond.code yX2_isFull cX2_isFull 1 (some .boolean) ∈ wsL_law := wm (wt_3 (List.mem_of_getElem? (i := 12) rfl)) rfl
theorem wm_388 : Cond.methodLink RX6 66 yX0_enter ∈ wsL_law := wm (wt_3 (List.mem_of_getElem? (i := 14) (by decide +kernel))) rfl
theorem wm_389 : Cond.instanceMethod yX0_enter ∈ wsL_law := wm (wt_3 (List.mem_of_getElem? (i := 15) (by decide +kernel))) rfl
theorem wm_390 : Cond.selects RX0 yX0_enter yX0_enter ∈ wsL_law := wm (wt_3 (List.mem_of_getElem? (i := 16) (by decide +kernel))) rfl
theorem wm_391 : Cond.code yX0_enter cX0_enter 3 none ∈ wsL_law := wm (wt_3 (List.mem_of_getElem? (i := 17) rfl)) rfl
theorem wm_392 : Cond.methodLink RL 57 yX7_write ∈ wsL_law := wm (wt_3 (List.mem_of_getElem? (i := 18) (by decide +kernel))) rfl
theorem wm_393 : Cond.instanceMethod yX7_write ∈ wsL_law := wm (wt_3 (List.mem_of_getElem? (i := 19) (by decide +kernel))) rfl
theorem wm_394 : Cond.selects RX7 yX7_write yX7_write ∈ wsL_law := wm (wt_3 (List.mem_of_getElem? (i := 20) (by decide +kernel))) rfl
theorem wm_395 : Cond.code yX7_write cX7_write 4 (some .int) ∈ wsL_law := wm (wt_3 (List.mem_of_getElem? (i := 21) rfl)) rfl
theorem wm_396 : Cond.methodLink RX7 51 yX6_writePage ∈ wsL_law := wm (wt_3 (List.mem_of_getElem? (i := 22) (by decide +kernel))) rfl
theorem wm_397 : Cond.instanceMethod yX6_writePage ∈ wsL_law := wm (wt_3 (List.mem_of_getElem? (i := 23) (by decide +kernel))) rfl
theorem wm_398 : Cond.selects RX6 yX6_writePage yX6_writePage ∈ wsL_law := wm (wt_3 (List.mem_of_getElem? (i := 24) (by decide +kernel))) rfl
theorem wm_399 : Cond.code yX6_writePage cX6_writePage 7 (some .int) ∈ wsL_law := wm (wt_3 (List.mem_of_getElem? (i := 25) rfl)) rfl
theorem wm_400 : Cond.methodLink RX6 70 yX0_holderOf ∈ wsL_law := wm (wt_3 (List.mem_of_getElem? (i := 26) (by decide +kernel))) rfl
theorem wm_401 : Cond.methodLink RX6 81 yX0_hold ∈ wsL_law := wm (wt_3 (List.mem_of_getElem? (i := 27) (by decide +kernel))) rfl
theorem wm_402 : Cond.instanceMethod yX0_hold ∈ wsL_law := wm (wt_3 (List.mem_of_getElem? (i := 28) (by decide +kernel))) rfl
theorem wm_403 : Cond.selects RX0 yX0_hold yX0_hold ∈ wsL_law := wm (wt_3 (List.mem_of_getElem? (i := 29) (by decide +kernel))) rfl
theorem wm_404 : Cond.code yX0_hold cX0_hold 3 none ∈ wsL_law := wm (wt_3 (List.mem_of_getElem? (i := 30) rfl)) rfl
theorem wm_405 : Cond.methodLink RL 61 yX7_settle ∈ wsL_law := wm (wt_3 (List.mem_of_getElem? (i := 31) (by decide +kernel))) rfl
theorem wm_406 : Cond.instanceMethod yX7_settle ∈ wsL_law := wm (wt_3 (List.mem_of_getElem? (i := 32) (by decide +kernel))) rfl
theorem wm_407 : Cond.selects RX7 yX7_settle yX7_settle ∈ wsL_law := wm (wt_3 (List.mem_of_getElem? (i := 33) (by decide +kernel))) rfl
theorem wm_408 : Cond.code yX7_settle cX7_settle 2 (some .int) ∈ wsL_law := wm (wt_3 (List.mem_of_getElem? (i := 34) rfl)) rfl
theorem wm_409 : Cond.methodLink RX7 55 yX6_settleGroup ∈ wsL_law := wm (wt_3 (List.mem_of_getElem? (i := 35) (by decide +kernel))) rfl
theorem wm_410 : Cond.instanceMethod yX6_settleGroup ∈ wsL_law := wm (wt_3 (List.mem_of_getElem? (i := 36) (by decide +kernel))) rfl
theorem wm_411 : Cond.selects RX6 yX6_settleGroup yX6_settleGroup ∈ wsL_law := wm (wt_3 (List.mem_of_getElem? (i := 37) (by decide +kernel))) rfl
theorem wm_412 : Cond.code yX6_settleGroup cX6_settleGroup 3 (some .int) ∈ wsL_law := wm (wt_3 (List.mem_of_getElem? (i := 38) rfl)) rfl
theorem wm_413 : Cond.methodLink RX6 87 yX6_errorOfEnding ∈ wsL_law := wm (wt_3 (List.mem_of_getElem? (i := 39) (by decide +kernel))) rfl
theorem wm_414 : Cond.instanceMethod yX6_errorOfEnding ∈ wsL_law := wm (wt_3 (List.mem_of_getElem? (i := 41) (by decide +kernel))) rfl
theorem wm_415 : Cond.selects RX6 yX6_errorOfEnding yX6_errorOfEnding ∈ wsL_law := wm (wp_1 (List.mem_of_getElem? (i := 9) (by decide +kernel))) rfl
theorem wm_416 : Cond.code yX6_errorOfEnding cX6_errorOfEnding 3 (some .int) ∈ wsL_law := wm (wt_3 (List.mem_of_getElem? (i := 42) rfl)) rfl
theorem wm_417 : Cond.methodLink RX6 91 yX2_forceUpTo ∈ wsL_law := wm (wt_3 (List.mem_of_getElem? (i := 43) (by decide +kernel))) rfl
theorem wm_418 : Cond.methodLink RX6 98 yX0_heldBy ∈ wsL_law := wm (wt_3 (List.mem_of_getElem? (i := 44) (by decide +kernel))) rfl
theorem wm_419 : Cond.methodLink RX6 101 yJ6_bitCount_0f7a4 ∈ wsL_law := wm (wt_3 (List.mem_of_getElem? (i := 45) (by decide +kernel))) rfl
theorem wm_420 : Cond.static yJ6_bitCount_0f7a4 ∈ wsL_law := wm (wt_3 (List.mem_of_getElem? (i := 46) (by decide +kernel))) rfl
theorem wm_421 : Cond.initialized RJ6 ∈ wsL_law := wm (wt_1 (List.mem_of_getElem? (i := 11) (by decide +kernel))) rfl
theorem wm_422 : Cond.code yJ6_bitCount_0f7a4 cJ6_bitCount_0f7a4 1 (some .int) ∈ wsL_law := wm (wt_3 (List.mem_of_getElem? (i := 47) rfl)) rfl
theorem wm_423 : Cond.constant RJ6 265 (1431655765) ∈ wsL_law := wm (wt_3 (List.mem_of_getElem? (i := 48) (by decide +kernel))) rfl
theorem wm_424 : Cond.constant RJ6 266 (858993459) ∈ wsL_law := wm (wt_3 (List.mem_of_getElem? (i := 49) (by decide +kernel))) rfl
theorem wm_425 : Cond.constant RJ6 267 (252645135) ∈ wsL_law := wm (wt_3 (List.mem_of_getElem? (i := 50) (by decide +kernel))) rfl
theorem wm_426 : Cond.methodLink RL 64 yX7_takeBack ∈ wsL_law := wm (wt_3 (List.mem_of_getElem? (i := 51) (by decide +kernel))) rfl
theorem wm_427 : Cond.instanceMethod yX7_takeBack ∈ wsL_law := wm (wt_3 (List.mem_of_getElem? (i := 52) (by decide +kernel))) rfl
theorem wm_428 : Cond.selects RX7 yX7_takeBack yX7_takeBack ∈ wsL_law := wm (wt_3 (List.mem_of_getElem? (i := 53) (by decide +kernel))) rfl
theorem wm_429 : Cond.code yX7_takeBack cX7_takeBack 2 (some .int) ∈ wsL_law := wm (wt_3 (List.mem_of_getElem? (i := 54) rfl)) rfl
theorem wm_430 : Cond.methodLink RX7 58 yX6_takeGroupBack ∈ wsL_law := wm (wt_3 (List.mem_of_getElem? (i := 55) (by decide +kernel))) rfl
theorem wm_431 : Cond.instanceMethod yX6_takeGroupBack ∈ wsL_law := wm (wt_3 (List.mem_of_getElem? (i := 56) (by decide +kernel))) rfl
theorem wm_432 : Cond.selects RX6 yX6_takeGroupBack yX6_takeGroupBack ∈ wsL_law := wm (wt_3 (List.mem_of_getElem? (i := 57) (by decide +kernel))) rfl
theorem wm_433 : Cond.code yX6_takeGroupBack cX6_takeGroupBack 7 (some .int) ∈ wsL_law := wm (wt_3 (List.mem_of_getElem? (i := 58) rfl)) rfl
theorem wm_434 : Cond.methodLink RX6 106 yX0_writesOf ∈ wsL_law := wm (wt_3 (List.mem_of_getElem? (i := 59) (by decide +kernel))) rfl
theorem wm_435 : Cond.methodLink RX6 109 yX0_beginOf ∈ wsL_law := wm (wt_3 (List.mem_of_getElem? (i := 60) (by decide +kernel))) rfl
theorem wm_436 : Cond.methodLink RX6 112 yX2_last ∈ wsL_law := wm (wt_3 (List.mem_of_getElem? (i := 61) (by decide +kernel))) rfl
theorem wm_437 : Cond.methodLink RX6 127 yX6_takeWriteBack ∈ wsL_law := wm (wt_3 (List.mem_of_getElem? (i := 62) (by decide +kernel))) rfl
theorem wm_438 : Cond.methodLink RX6 130 yX6_endGroup ∈ wsL_law := wm (wt_3 (List.mem_of_getElem? (i := 63) (by decide +kernel))) rfl
theorem wm_439 : Cond.methodLink RL 67 yX7_writeOut ∈ wsL_law := wm (wt_3 (List.mem_of_getElem? (i := 64) (by decide +kernel))) rfl
theorem wm_440 : Cond.instanceMethod yX7_writeOut ∈ wsL_law := wm (wt_3 (List.mem_of_getElem? (i := 65) (by decide +kernel))) rfl
theorem wm_441 : Cond.selects RX7 yX7_writeOut yX7_writeOut ∈ wsL_law := wm (wt_3 (List.mem_of_getElem? (i := 66) (by decide +kernel))) rfl
theorem wm_442 : Cond.code yX7_writeOut cX7_writeOut 2 (some .int) ∈ wsL_law := wm (wt_3 (List.mem_of_getElem? (i := 67) rfl)) rfl
theorem wm_443 : Cond.methodLink RX7 61 yX6_writePageOut ∈ wsL_law := wm (wt_3 (List.mem_of_getElem? (i := 68) (by decide +kernel))) rfl
theorem wm_444 : Cond.instanceMethod yX6_writePageOut ∈ wsL_law := wm (wt_3 (List.mem_of_getElem? (i := 69) (by decide +kernel))) rfl
theorem wm_445 : Cond.selects RX6 yX6_writePageOut yX6_writePageOut ∈ wsL_law := wm (wt_3 (List.mem_of_getElem? (i := 70) (by decide +kernel))) rfl
theorem wm_446 : Cond.code yX6_writePageOut cX6_writePageOut 3 (some .int) ∈ wsL_law := wm (wt_3 (List.mem_of_getElem? (i := 71) rfl)) rfl
theorem wm_447 : Cond.methodLink RX6 142 yX4_markOf ∈ wsL_law := wm (wt_3 (List.mem_of_getElem? (i := 72) (by decide +kernel))) rfl
theorem wm_448 : Cond.methodLink RX6 145 yX4_toDisk ∈ wsL_law := wm (wt_3 (List.mem_of_getElem? (i := 73) (by decide +kernel))) rfl
theorem wm_449 : Cond.instanceMethod yX4_toDisk ∈ wsL_law := wm (wt_3 (List.mem_of_getElem? (i := 74) (by decide +kernel))) rfl
theorem wm_450 : Cond.selects RX4 yX4_toDisk yX4_toDisk ∈ wsL_law := wm (wt_3 (List.mem_of_getElem? (i := 75) (by decide +kernel))) rfl
theorem wm_451 : Cond.code yX4_toDisk cX4_toDisk 2 none ∈ wsL_law := wm (wt_3 (List.mem_of_getElem? (i := 76) rfl)) rfl
theorem wm_452 : Cond.methodLink RL 70 yX7_dropOut ∈ wsL_law := wm (wt_3 (List.mem_of_getElem? (i := 77) (by decide +kernel))) rfl
theorem wm_453 : Cond.instanceMethod yX7_dropOut ∈ wsL_law := wm (wt_3 (List.mem_of_getElem? (i := 78) (by decide +kernel))) rfl
theorem wm_454 : Cond.selects RX7 yX7_dropOut yX7_dropOut ∈ wsL_law := wm (wt_3 (List.mem_of_getElem? (i := 79) (by decide +kernel))) rfl
theorem wm_455 : Cond.code yX7_dropOut cX7_dropOut 2 (some .int) ∈ wsL_law := wm (wt_3 (List.mem_of_getElem? (i := 80) rfl)) rfl
theorem wm_456 : Cond.methodLink RX7 64 yX6_dropPageOut ∈ wsL_law := wm (wt_3 (List.mem_of_getElem? (i := 81) (by decide +kernel))) rfl
theorem wm_457 : Cond.instanceMethod yX6_dropPageOut ∈ wsL_law := wm (wt_3 (List.mem_of_getElem? (i := 82) (by decide +kernel))) rfl
theorem wm_458 : Cond.selects RX6 yX6_dropPageOut yX6_dropPageOut ∈ wsL_law := wm (wt_3 (List.mem_of_getElem? (i := 83) (by decide +kernel))) rfl
theorem wm_459 : Cond.code yX6_dropPageOut cX6_dropPageOut 3 (some .int) ∈ wsL_law := wm (wt_3 (List.mem_of_getElem? (i := 84) rfl)) rfl
theorem wm_460 : Cond.methodLink RL 73 yX7_checkpoint ∈ wsL_law := wm (wt_3 (List.mem_of_getElem? (i := 85) (by decide +kernel))) rfl
theorem wm_461 : Cond.instanceMethod yX7_checkpoint ∈ wsL_law := wm (wt_3 (List.mem_of_getElem? (i := 86) (by decide +kernel))) rfl
theorem wm_462 : Cond.selects RX7 yX7_checkpoint yX7_checkpoint ∈ wsL_law := wm (wt_3 (List.mem_of_getElem? (i := 87) (by decide +kernel))) rfl
theorem wm_463 : Cond.code yX7_checkpoint cX7_checkpoint 1 (some .int) ∈ wsL_law := wm (wt_3 (List.mem_of_getElem? (i := 88) rfl)) rfl
theorem wm_464 : Cond.methodLink RX7 67 yX6_makeCheckpoint ∈ wsL_law := wm (wt_3 (List.mem_of_getElem? (i := 89) (by decide +kernel))) rfl
theorem wm_465 : Cond.instanceMethod yX6_makeCheckpoint ∈ wsL_law := wm (wt_3 (List.mem_of_getElem? (i := 90) (by decide +kernel))) rfl
theorem wm_466 : Cond.selects RX6 yX6_makeCheckpoint yX6_makeCheckpoint ∈ wsL_law := wm (wt_3 (List.mem_of_getElem? (i := 91) (by decide +kernel))) rfl
theorem wm_467 : Cond.code yX6_makeCheckpoint cX6_makeCheckpoint 1 (some .int) ∈ wsL_law := wm (wt_3 (List.mem_of_getElem? (i := 92) rfl)) rfl
theorem wm_468 : Cond.methodLink RX6 151 yX2_appendCheckpoint ∈ wsL_law := wm (wt_3 (List.mem_of_getElem? (i := 93) (by decide +kernel))) rfl
theorem wm_469 : Cond.instanceMethod yX2_appendCheckpoint ∈ wsL_law := wm (wt_3 (List.mem_of_getElem? (i := 94) (by decide +kernel))) rfl
theorem wm_470 : Cond.selects RX2 yX2_appendCheckpoint yX2_appendCheckpoint ∈ wsL_law := wm (wt_3 (List.mem_of_getElem? (i := 95) (by decide +kernel))) rfl
theorem wm_471 : Cond.code yX2_appendCheckpoint cX2_appendCheckpoint 6 (some .int) ∈ wsL_law := wm (wt_3 (List.mem_of_getElem? (i := 96) rfl)) rfl
theorem wm_472 : Cond.methodLink RX2 72 yX2_append ∈ wsL_law := wm (wt_3 (List.mem_of_getElem? (i := 97) (by decide +kernel))) rfl
theorem wm_473 : Cond.methodLink RX2 85 yX2_forceUpTo ∈ wsL_law := wm (wt_3 (List.mem_of_getElem? (i := 98) (by decide +kernel))) rfl
theorem wm_474 : Cond.methodLink RL 80 yX7_force ∈ wsL_law := wm (wt_3 (List.mem_of_getElem? (i := 99) (by decide +kernel))) rfl
theorem wm_475 : Cond.instanceMethod yX7_force ∈ wsL_law := wm (wt_3 (List.mem_of_getElem? (i := 100) (by decide +kernel))) rfl
theorem wm_476 : Cond.selects RX7 yX7_force yX7_force ∈ wsL_law := wm (wt_3 (List.mem_of_getElem? (i := 101) (by decide +kernel))) rfl
theorem wm_477 : Cond.code yX7_force cX7_force 1 (some .int) ∈ wsL_law := wm (wt_3 (List.mem_of_getElem? (i := 102) rfl)) rfl
theorem wm_478 : Cond.methodLink RX7 74 yX6_forceAll ∈ wsL_law := wm (wt_3 (List.mem_of_getElem? (i := 103) (by decide +kernel))) rfl
theorem wm_479 : Cond.instanceMethod yX6_forceAll ∈ wsL_law := wm (wt_3 (List.mem_of_getElem? (i := 104) (by decide +kernel))) rfl
theorem wm_480 : Cond.selects RX6 yX6_forceAll yX6_forceAll ∈ wsL_law := wm (wt_3 (List.mem_of_getElem? (i := 105) (by decide +kernel))) rfl
theorem wm_481 : Cond.code yX6_forceAll cX6_forceAll 1 (some .int) ∈ wsL_law := wm (wt_3 (List.mem_of_getElem? (i := 106) rfl)) rfl
theorem wm_482 : Cond.methodLink RL 82 yX7_stop ∈ wsL_law := wm (wt_3 (List.mem_of_getElem? (i := 107) (by decide +kernel))) rfl
theorem wm_483 : Cond.instanceMethod yX7_stop ∈ wsL_law := wm (wt_3 (List.mem_of_getElem? (i := 108) (by decide +kernel))) rfl
theorem wm_484 : Cond.selects RX7 yX7_stop yX7_stop ∈ wsL_law := wm (wt_3 (List.mem_of_getElem? (i := 109) (by decide +kernel))) rfl
theorem wm_485 : Cond.code yX7_stop cX7_stop 2 (some .int) ∈ wsL_law := wm (wt_3 (List.mem_of_getElem? (i := 110) rfl)) rfl
theorem wm_486 : Cond.methodLink RX7 77 yX6_stopStore ∈ wsL_law := wm (wt_3 (List.mem_of_getElem? (i := 111) (by decide +kernel))) rfl
theorem wm_487 : Cond.instanceMethod yX6_stopStore ∈ wsL_law := wm (wt_3 (List.mem_of_getElem? (i := 112) (by decide +kernel))) rfl
theorem wm_488 : Cond.selects RX6 yX6_stopStore yX6_stopStore ∈ wsL_law := wm (wt_3 (List.mem_of_getElem? (i := 113) (by decide +kernel))) rfl
theorem wm_489 : Cond.code yX6_stopStore cX6_stopStore 3 (some .int) ∈ wsL_law := wm (wt_3 (List.mem_of_getElem? (i := 114) rfl)) rfl
theorem wm_490 : Cond.methodLink RX6 161 yX4_highestDiskMark ∈ wsL_law := wm (wt_3 (List.mem_of_getElem? (i := 115) (by decide +kernel))) rfl
theorem wm_491 : Cond.instanceMethod yX4_highestDiskMark ∈ wsL_law := wm (wt_3 (List.mem_of_getElem? (i := 116) (by decide +kernel))) rfl
theorem wm_492 : Cond.selects RX4 yX4_highestDiskMark yX4_highestDiskMark ∈ wsL_law := wm (wt_3 (List.mem_of_getElem? (i := 117) (by decide +kernel))) rfl
theorem wm_493 : Cond.code yX4_highestDiskMark cX4_highestDiskMark 3 (some .int) ∈ wsL_law := wm (wt_3 (List.mem_of_getElem? (i := 118) rfl)) rfl
theorem wm_494 : Cond.methodLink RX4 41 Lib.Math.max.name ∈ wsL_law := wm (wt_3 (List.mem_of_getElem? (i := 119) (by decide +kernel))) rfl
theorem wm_495 : Cond.methodLink RX6 164 yX2_loseRecords ∈ wsL_law := wm (wt_3 (List.mem_of_getElem? (i := 120) (by decide +kernel))) rfl
theorem wm_496 : Cond.instanceMethod yX2_loseRecords ∈ wsL_law := wm (wt_3 (List.mem_of_getElem? (i := 121) (by decide +kernel))) rfl
theorem wm_497 : Cond.selects RX2 yX2_loseRecords yX2_loseRecords ∈ wsL_law := wm (wt_3 (List.mem_of_getElem? (i := 122) (by decide +kernel))) rfl
theorem wm_498 : Cond.code yX2_loseRecords cX2_loseRecords 6 (some .int) ∈ wsL_law := wm (wt_3 (List.mem_of_getElem? (i := 123) rfl)) rfl
theorem wm_499 : Cond.methodLink RX6 168 yX4_emptyCache ∈ wsL_law := wm (wt_3 (List.mem_of_getElem? (i := 129) (by decide +kernel))) rfl
theorem wm_500 : Cond.instanceMethod yX4_emptyCache ∈ wsL_law := wm (wt_3 (List.mem_of_getElem? (i := 130) (by decide +kernel))) rfl
theorem wm_501 : Cond.selects RX4 yX4_emptyCache yX4_emptyCache ∈ wsL_law := wm (wt_3 (List.mem_of_getElem? (i := 131) (by decide +kernel))) rfl
theorem wm_502 : Cond.code yX4_emptyCache cX4_emptyCache 1 none ∈ wsL_law := wm (wt_3 (List.mem_of_getElem? (i := 132) rfl)) rfl
theorem wm_503 : Cond.methodLink RL 85 yX7_would ∈ wsL_law := wm (wt_3 (List.mem_of_getElem? (i := 133) (by decide +kernel))) rfl
theorem wm_504 : Cond.instanceMethod yX7_would ∈ wsL_law := wm (wt_3 (List.mem_of_getElem? (i := 134) (by decide +kernel))) rfl
theorem wm_505 : Cond.selects RX7 yX7_would yX7_would ∈ wsL_law := wm (wt_3 (List.mem_of_getElem? (i := 135) (by decide +kernel))) rfl
theorem wm_506 : Cond.code yX7_would cX7_would 5 (some .int) ∈ wsL_law := wm (wt_3 (List.mem_of_getElem? (i := 136) rfl)) rfl
theorem wm_507 : Cond.constant RX7 119 (-1000002) ∈ wsL_law := wm (wt_3 (List.mem_of_getElem? (i := 137) (by decide +kernel))) rfl
theorem wm_508 : Cond.methodLink RX7 120 yX6_copyFrom ∈ wsL_law := wm (wt_3 (List.mem_of_getElem? (i := 138) (by decide +kernel))) rfl
theorem wm_509 : Cond.methodLink RX7 123 yX4_valueOf ∈ wsL_law := wm (wt_3 (List.mem_of_getElem? (i := 139) (by decide +kernel))) rfl
theorem wm_510 : Cond.methodLink RX7 126 yX5_tell ∈ wsL_law := wm (wt_3 (List.mem_of_getElem? (i := 140) (by decide +kernel))) rfl
theorem wm_511 : Cond.instanceMethod yX5_tell ∈ wsL_law := wm (wt_3 (List.mem_of_getElem? (i := 141) (by decide +kernel))) rfl
theorem wm_512 : Cond.selects RX5 yX5_tell yX5_tell ∈ wsL_law := wm (wt_3 (List.mem_of_getElem? (i := 142) (by decide +kernel))) rfl
theorem wm_513 : Cond.code yX5_tell cX5_tell 2 (some .int) ∈ wsL_law := wm (wt_3 (List.mem_of_getElem? (i := 143) rfl)) rfl
theorem wm_514 : Cond.constant RX5 69 (-1000004) ∈ wsL_law := wm (wt_3 (List.mem_of_getElem? (i := 144) (by decide +kernel))) rfl
theorem wm_515 : Cond.methodLink RL 88 yL_start ∈ wsL_law := wm (wt_3 (List.mem_of_getElem? (i := 145) (by decide +kernel))) rfl
theorem wm_516 : Cond.static yL_start ∈ wsL_law := wm (wt_3 (List.mem_of_getElem? (i := 146) (by decide +kernel))) rfl
theorem wm_517 : Cond.code yL_start cL_start 11 (some .int) ∈ wsL_law := wm (wt_3 (List.mem_of_getElem? (i := 147) rfl)) rfl
theorem wm_518 : Cond.methodLink RL 30 yL_come ∈ wsL_law := wm (wt_3 (List.mem_of_getElem? (i := 160) (by decide +kernel))) rfl
theorem wm_519 : Cond.static yL_come ∈ wsL_law := wm (wt_3 (List.mem_of_getElem? (i := 161) (by decide +kernel))) rfl
theorem wm_520 : Cond.code yL_come cL_come 4 none ∈ wsL_law := wm (wt_3 (List.mem_of_getElem? (i := 162) rfl)) rfl
theorem wm_521 : Cond.methodLink RL 38 yL_back ∈ wsL_law := wm (wt_3 (List.mem_of_getElem? (i := 163) (by decide +kernel))) rfl
theorem wm_522 : Cond.static yL_back ∈ wsL_law := wm (wt_3 (List.mem_of_getElem? (i := 164) (by decide +kernel))) rfl
theorem wm_523 : Cond.code yL_back cL_back 11 (some .int) ∈ wsL_law := wm (wt_3 (List.mem_of_getElem? (i := 165) rfl)) rfl
theorem wm_524 : Cond.methodLink RL 23 yL_add ∈ wsL_law := wm (wt_3 (List.mem_of_getElem? (i := 166) (by decide +kernel))) rfl
theorem wm_525 : Cond.static yL_add ∈ wsL_law := wm (wt_3 (List.mem_of_getElem? (i := 167) (by decide +kernel))) rfl
theorem wm_526 : Cond.code yL_add cL_add 8 (some .int) ∈ wsL_law := wm (wt_3 (List.mem_of_getElem? (i := 168) rfl)) rfl
theorem wm_527 : Cond.methodLink RL 42 yL_force ∈ wsL_law := wm (wt_3 (List.mem_of_getElem? (i := 172) (by decide +kernel))) rfl
theorem wm_528 : Cond.static yL_force ∈ wsL_law := wm (wt_3 (List.mem_of_getElem? (i := 173) (by decide +kernel))) rfl
theorem wm_529 : Cond.code yL_force cL_force 3 (some .int) ∈ wsL_law := wm (wt_3 (List.mem_of_getElem? (i := 174) rfl)) rfl
theorem wm_530 : Cond.methodLink RL 108 yL_stop ∈ wsL_law := wm (wt_3 (List.mem_of_getElem? (i := 187) (by decide +kernel))) rfl
theorem wm_531 : Cond.static yL_stop ∈ wsL_law := wm (wt_3 (List.mem_of_getElem? (i := 188) (by decide +kernel))) rfl
theorem wm_532 : Cond.code yL_stop cL_stop 9 (some .int) ∈ wsL_law := wm (wt_3 (List.mem_of_getElem? (i := 189) rfl)) rfl
end
section
def nestF : List (String × Nat × String × String × String) := [("SealedGroups$Journal", 82, "SealedGroups$Pages", "starts", "[I"), ("SealedGroups$Store", 148, "SealedGroups$Pages", "cached", "I"), ("SealedGroups", 132, "SealedGroups$Pages", "cached", "I"), ("SealedGroups$Journal", 67, "SealedGroups$Pages", "dirty", "I"), ("SealedGroups$Store", 139, "SealedGroups$Pages", "dirty", "I"), ("SealedGroups", 135, "SealedGroups$Pages", "dirty", "I"), ("SealedGroups$Journal", 76, "SealedGroups$Groups", "begins", "[I"), ("SealedGroups$Journal", 62, "SealedGroups$Groups", "open", "I"), ("SealedGroups$Store", 171, "SealedGroups$Groups", "open", "I"), ("SealedGroups", 128, "SealedGroups$Groups", "open", "I"), ("SealedGroups$Restarter", 105, "SealedGroups$Journal", "kinds", "[I"), ("SealedGroups$Store", 124, "SealedGroups$Journal", "kinds", "[I"), ("SealedGroups$Restarter", 99, "SealedGroups$Journal", "owners", "[I"), ("SealedGroups$Store", 116, "SealedGroups$Journal", "owners", "[I"), ("SealedGroups$Restarter", 102, "SealedGroups$Journal", "pageNumbers", "[I"), ("SealedGroups$Store", 133, "SealedGroups$Journal", "pageNumbers", "[I"), ("SealedGroups$Restarter", 73, "SealedGroups$Journal", "olds", "[I"), ("SealedGroups$Store", 136, "SealedGroups$Journal", "olds", "[I"), ("SealedGroups$Restarter", 120, "SealedGroups$Journal", "news", "[I"), ("SealedGroups$Restarter", 127, "SealedGroups$Journal", "targets", "[I"), ("SealedGroups$Restarter", 89, "SealedGroups$Journal", "checkpointStarts", "[I"), ("SealedGroups$Restarter", 92, "SealedGroups$Journal", "first", "I"), ("SealedGroups$Store", 84, "SealedGroups$Journal", "size", "I"), ("SealedGroups$Restarter", 70, "SealedGroups$Journal", "latestCheckpoint", "I"), ("SealedGroups$Store", 155, "SealedGroups$Journal", "latestCheckpoint", "I"), ("SealedGroups$Restarter", 33, "SealedGroups$Store", "pages", "LSealedGroups$Pages;"), ("SealedGroups", 103, "SealedGroups$Store", "pages", "LSealedGroups$Pages;"), ("SealedGroups", 85, "SealedGroups$Store", "groups", "LSealedGroups$Groups;"), ("SealedGroups$Restarter", 25, "SealedGroups$Store", "journal", "LSealedGroups$Journal;"), ("SealedGroups", 94, "SealedGroups$Store", "journal", "LSealedGroups$Journal;"), ("SealedGroups$Restarter", 18, "SealedGroups$Store", "stopped", "Z"), ("SealedGroups", 115, "SealedGroups$Store", "stopped", "Z"), ("SealedGroups$Restarter", 55, "SealedGroups$Store", "doneAgain", "I"), ("SealedGroups", 138, "SealedGroups$Store", "doneAgain", "I"), ("SealedGroups", 141, "SealedGroups$History", "size", "I"), ("SealedGroups", 144, "SealedGroups$OrderText", "length", "I")]
def nestM : List (String × Nat × MethodName) := [("SealedGroups", 9, yX6_init), ("SealedGroups$Store", 11, yX4_init), ("SealedGroups$Store", 20, yX0_init), ("SealedGroups$Store", 27, yX2_init), ("SealedGroups", 21, yX5_init), ("SealedGroups$History", 17, yX6_init), ("SealedGroups", 35, yX3_init)]
abbrev nwF (q : String × Nat × String × String × String) : Cond := .fieldLinkNest q.1 q.2.1 q.2.2.1 q.2.2.2.1 q.2.2.2.2 "SealedGroups"
abbrev nwM (q : String × Nat × MethodName) : Cond := .methodLinkNest q.1 q.2.1 q.2.2 "SealedGroups"
/-- what the tables say of the class's private members, used among its nested classes -/
def NK (U : State) : Prop := (∀ q ∈ nestF, va_Nw (nwF q) U) ∧ ∀ q ∈ nestM, va_Nw (nwM q) U
theorem NK.warm {s U : State} (hW : s.WarmedH U.vm) (h : NK s) : NK U := ⟨fun q hq => va_Nw.warmF hW (h.1 q hq), fun q hq => va_Nw.warmM hW (h.2 q hq)⟩
theorem NK.same {u U : State} (e : u.vm = U.vm) (h : NK u) : NK U := ⟨fun q hq => va_Nw.same rfl e (h.1 q hq), fun q hq => va_Nw.same rfl e (h.2 q hq)⟩
theorem nestF_in : ∀ q ∈ nestF, nwF q ∈ lw_tbl := by
  intro q hq
  by_cases e0 : q = ("SealedGroups$Journal", 82, "SealedGroups$Pages", "starts", "[I")
  · subst e0; exact wt_1 (List.mem_of_getElem? (i := 37) (by decide +kernel))
  by_cases e1 : q = ("SealedGroups$Store", 148, "SealedGroups$Pages", "cached", "I")
  · subst e1; exact wt_1 (List.mem_of_getElem? (i := 39) (by decide +kernel))
  by_cases e2 : q = ("SealedGroups", 132, "SealedGroups$Pages", "cached", "I")
  · subst e2; exact wt_1 (List.mem_of_getElem? (i := 40) (by decide +kernel))
  by_cases e3 : q = ("SealedGroups$Journal", 67, "SealedGroups$Pages", "dirty", "I")
  · subst e3; exact wt_1 (List.mem_of_getElem? (i := 42) (by decide +kernel))
  by_cases e4 : q = ("SealedGroups$Store", 139, "SealedGroups$Pages", "dirty", "I")
  · subst e4; exact wt_1 (List.mem_of_getElem? (i := 43) (by decide +kernel))
  by_cases e5 : q = ("SealedGroups", 135, "SealedGroups$Pages", "dirty", "I")
  · subst e5; exact wt_1 (List.mem_of_getElem? (i := 44) (by decide +kernel))
  by_cases e6 : q = ("SealedGroups$Journal", 76, "SealedGroups$Groups", "begins", "[I")
  · subst e6; exact wt_1 (List.mem_of_getElem? (i := 68) (by decide +kernel))
  by_cases e7 : q = ("SealedGroups$Journal", 62, "SealedGroups$Groups", "open", "I")
  · subst e7; exact wt_1 (List.mem_of_getElem? (i := 72) (by decide +kernel))
  by_cases e8 : q = ("SealedGroups$Store", 171, "SealedGroups$Groups", "open", "I")
  · subst e8; exact wt_1 (List.mem_of_getElem? (i := 73) (by decide +kernel))
  by_cases e9 : q = ("SealedGroups", 128, "SealedGroups$Groups", "open", "I")
  · subst e9; exact wt_1 (List.mem_of_getElem? (i := 74) (by decide +kernel))
  by_cases e10 : q = ("SealedGroups$Restarter", 105, "SealedGroups$Journal", "kinds", "[I")
  · subst e10; exact wt_1 (List.mem_of_getElem? (i := 91) (by decide +kernel))
  by_cases e11 : q = ("SealedGroups$Store", 124, "SealedGroups$Journal", "kinds", "[I")
  · subst e11; exact wt_1 (List.mem_of_getElem? (i := 92) (by decide +kernel))
  by_cases e12 : q = ("SealedGroups$Restarter", 99, "SealedGroups$Journal", "owners", "[I")
  · subst e12; exact wt_1 (List.mem_of_getElem? (i := 94) (by decide +kernel))
  by_cases e13 : q = ("SealedGroups$Store", 116, "SealedGroups$Journal", "owners", "[I")
  · subst e13; exact wt_1 (List.mem_of_getElem? (i := 95) (by decide +kernel))
  by_cases e14 : q = ("SealedGroups$Restarter", 102, "SealedGroups$Journal", "pageNumbers", "[I")
  · subst e14; exact wt_1 (List.mem_of_getElem? (i := 97) (by decide +kernel))
  by_cases e15 : q = ("SealedGroups$Store", 133, "SealedGroups$Journal", "pageNumbers", "[I")
  · subst e15; exact wt_1 (List.mem_of_getElem? (i := 98) (by decide +kernel))
  by_cases e16 : q = ("SealedGroups$Restarter", 73, "SealedGroups$Journal", "olds", "[I")
  · subst e16; exact wt_1 (List.mem_of_getElem? (i := 100) (by decide +kernel))
  by_cases e17 : q = ("SealedGroups$Store", 136, "SealedGroups$Journal", "olds", "[I")
  · subst e17; exact wt_1 (List.mem_of_getElem? (i := 101) (by decide +kernel))
  by_cases e18 : q = ("SealedGroups$Restarter", 120, "SealedGroups$Journal", "news", "[I")
  · subst e18; exact wt_1 (List.mem_of_getElem? (i := 103) (by decide +kernel))
  by_cases e19 : q = ("SealedGroups$Restarter", 127, "SealedGroups$Journal", "targets", "[I")
  · subst e19; exact wt_1 (List.mem_of_getElem? (i := 105) (by decide +kernel))
  by_cases e20 : q = ("SealedGroups$Restarter", 89, "SealedGroups$Journal", "checkpointStarts", "[I")
  · subst e20; exact wt_1 (List.mem_of_getElem? (i := 107) (by decide +kernel))
  by_cases e21 : q = ("SealedGroups$Restarter", 92, "SealedGroups$Journal", "first", "I")
  · subst e21; exact wt_1 (List.mem_of_getElem? (i := 109) (by decide +kernel))
  by_cases e22 : q = ("SealedGroups$Store", 84, "SealedGroups$Journal", "size", "I")
  · subst e22; exact wt_1 (List.mem_of_getElem? (i := 111) (by decide +kernel))
  by_cases e23 : q = ("SealedGroups$Restarter", 70, "SealedGroups$Journal", "latestCheckpoint", "I")
  · subst e23; exact wt_1 (List.mem_of_getElem? (i := 114) (by decide +kernel))
  by_cases e24 : q = ("SealedGroups$Store", 155, "SealedGroups$Journal", "latestCheckpoint", "I")
  · subst e24; exact wt_1 (List.mem_of_getElem? (i := 115) (by decide +kernel))
  by_cases e25 : q = ("SealedGroups$Restarter", 33, "SealedGroups$Store", "pages", "LSealedGroups$Pages;")
  · subst e25; exact wt_1 (List.mem_of_getElem? (i := 143) (by decide +kernel))
  by_cases e26 : q = ("SealedGroups", 103, "SealedGroups$Store", "pages", "LSealedGroups$Pages;")
  · subst e26; exact wt_1 (List.mem_of_getElem? (i := 144) (by decide +kernel))
  by_cases e27 : q = ("SealedGroups", 85, "SealedGroups$Store", "groups", "LSealedGroups$Groups;")
  · subst e27; exact wt_1 (List.mem_of_getElem? (i := 146) (by decide +kernel))
  by_cases e28 : q = ("SealedGroups$Restarter", 25, "SealedGroups$Store", "journal", "LSealedGroups$Journal;")
  · subst e28; exact wt_1 (List.mem_of_getElem? (i := 148) (by decide +kernel))
  by_cases e29 : q = ("SealedGroups", 94, "SealedGroups$Store", "journal", "LSealedGroups$Journal;")
  · subst e29; exact wt_1 (List.mem_of_getElem? (i := 149) (by decide +kernel))
  by_cases e30 : q = ("SealedGroups$Restarter", 18, "SealedGroups$Store", "stopped", "Z")
  · subst e30; exact wt_1 (List.mem_of_getElem? (i := 150) (by decide +kernel))
  by_cases e31 : q = ("SealedGroups", 115, "SealedGroups$Store", "stopped", "Z")
  · subst e31; exact wt_1 (List.mem_of_getElem? (i := 152) (by decide +kernel))
  by_cases e32 : q = ("SealedGroups$Restarter", 55, "SealedGroups$Store", "doneAgain", "I")
  · subst e32; exact wt_1 (List.mem_of_getElem? (i := 154) (by decide +kernel))
  by_cases e33 : q = ("SealedGroups", 138, "SealedGroups$Store", "doneAgain", "I")
  · subst e33; exact wt_1 (List.mem_of_getElem? (i := 155) (by decide +kernel))
  by_cases e34 : q = ("SealedGroups", 141, "SealedGroups$History", "size", "I")
  · subst e34; exact wt_1 (List.mem_of_getElem? (i := 204) (by decide +kernel))
  by_cases e35 : q = ("SealedGroups", 144, "SealedGroups$OrderText", "length", "I")
  · subst e35; exact wt_1 (List.mem_of_getElem? (i := 219) (by decide +kernel))
  simp only [nestF, List.mem_cons, e0, e1, e2, e3, e4, e5, e6, e7, e8, e9, e10, e11, e12, e13, e14, e15, e16, e17, e18, e19, e20, e21, e22, e23, e24, e25, e26, e27, e28, e29, e30, e31, e32, e33, e34, e35, List.not_mem_nil, or_self] at hq
theorem nestM_in : ∀ q ∈ nestM, nwM q ∈ lw_tbl := by
  intro q hq
  by_cases e0 : q = ("SealedGroups", 9, yX6_init)
  · subst e0; exact wt_1 (List.mem_of_getElem? (i := 22) (by decide +kernel))
  by_cases e1 : q = ("SealedGroups$Store", 11, yX4_init)
  · subst e1; exact wt_1 (List.mem_of_getElem? (i := 28) (by decide +kernel))
  by_cases e2 : q = ("SealedGroups$Store", 20, yX0_init)
  · subst e2; exact wt_1 (List.mem_of_getElem? (i := 63) (by decide +kernel))
  by_cases e3 : q = ("SealedGroups$Store", 27, yX2_init)
  · subst e3; exact wt_1 (List.mem_of_getElem? (i := 86) (by decide +kernel))
  by_cases e4 : q = ("SealedGroups", 21, yX5_init)
  · subst e4; exact wt_1 (List.mem_of_getElem? (i := 169) (by decide +kernel))
  by_cases e5 : q = ("SealedGroups$History", 17, yX6_init)
  · subst e5; exact wt_1 (List.mem_of_getElem? (i := 200) (by decide +kernel))
  by_cases e6 : q = ("SealedGroups", 35, yX3_init)
  · subst e6; exact wt_1 (List.mem_of_getElem? (i := 214) (by decide +kernel))
  simp only [nestM, List.mem_cons, e0, e1, e2, e3, e4, e5, e6, List.not_mem_nil, or_self] at hq
theorem NK_of {A : Array Value} {U : State} (h : ∀ w ∈ lw_tbl, w.before A U = true) : NK U := ⟨fun q hq => va_Nw.of rfl (h _ (nestF_in q hq)), fun q hq => va_Nw.of rfl (h _ (nestM_in q hq))⟩
theorem nf_0 : ("SealedGroups$Journal", 82, "SealedGroups$Pages", "starts", "[I") ∈ nestF := List.mem_of_getElem? (i := 0) rfl
theorem nf_1 : ("SealedGroups$Store", 148, "SealedGroups$Pages", "cached", "I") ∈ nestF := List.mem_of_getElem? (i := 1) rfl
theorem nf_2 : ("SealedGroups", 132, "SealedGroups$Pages", "cached", "I") ∈ nestF := List.mem_of_getElem? (i := 2) rfl
theorem nf_3 : ("SealedGroups$Journal", 67, "SealedGroups$Pages", "dirty", "I") ∈ nestF := List.mem_of_getElem? (i := 3) rfl
theorem nf_4 : ("SealedGroups$Store", 139, "SealedGroups$Pages", "dirty", "I") ∈ nestF := List.mem_of_getElem? (i := 4) rfl
theorem nf_5 : ("SealedGroups", 135, "SealedGroups$Pages", "dirty", "I") ∈ nestF := List.mem_of_getElem? (i := 5) rfl
theorem nf_6 : ("SealedGroups$Journal", 76, "SealedGroups$Groups", "begins", "[I") ∈ nestF := List.mem_of_getElem? (i := 6) rfl
theorem nf_7 : ("SealedGroups$Journal", 62, "SealedGroups$Groups", "open", "I") ∈ nestF := List.mem_of_getElem? (i := 7) rfl
theorem nf_8 : ("SealedGroups$Store", 171, "SealedGroups$Groups", "open", "I") ∈ nestF := List.mem_of_getElem? (i := 8) rfl
theorem nf_9 : ("SealedGroups", 128, "SealedGroups$Groups", "open", "I") ∈ nestF := List.mem_of_getElem? (i := 9) rfl
theorem nf_10 : ("SealedGroups$Restarter", 105, "SealedGroups$Journal", "kinds", "[I") ∈ nestF := List.mem_of_getElem? (i := 10) rfl
theorem nf_11 : ("SealedGroups$Store", 124, "SealedGroups$Journal", "kinds", "[I") ∈ nestF := List.mem_of_getElem? (i := 11) rfl
theorem nf_12 : ("SealedGroups$Restarter", 99, "SealedGroups$Journal", "owners", "[I") ∈ nestF := List.mem_of_getElem? (i := 12) rfl
theorem nf_13 : ("SealedGroups$Store", 116, "SealedGroups$Journal", "owners", "[I") ∈ nestF := List.mem_of_getElem? (i := 13) rfl
theorem nf_14 : ("SealedGroups$Restarter", 102, "SealedGroups$Journal", "pageNumbers", "[I") ∈ nestF := List.mem_of_getElem? (i := 14) rfl
theorem nf_15 : ("SealedGroups$Store", 133, "SealedGroups$Journal", "pageNumbers", "[I") ∈ nestF := List.mem_of_getElem? (i := 15) rfl
theorem nf_16 : ("SealedGroups$Restarter", 73, "SealedGroups$Journal", "olds", "[I") ∈ nestF := List.mem_of_getElem? (i := 16) rfl
theorem nf_17 : ("SealedGroups$Store", 136, "SealedGroups$Journal", "olds", "[I") ∈ nestF := List.mem_of_getElem? (i := 17) rfl
theorem nf_18 : ("SealedGroups$Restarter", 120, "SealedGroups$Journal", "news", "[I") ∈ nestF := List.mem_of_getElem? (i := 18) rfl
theorem nf_19 : ("SealedGroups$Restarter", 127, "SealedGroups$Journal", "targets", "[I") ∈ nestF := List.mem_of_getElem? (i := 19) rfl
theorem nf_20 : ("SealedGroups$Restarter", 89, "SealedGroups$Journal", "checkpointStarts", "[I") ∈ nestF := List.mem_of_getElem? (i := 20) rfl
theorem nf_21 : ("SealedGroups$Restarter", 92, "SealedGroups$Journal", "first", "I") ∈ nestF := List.mem_of_getElem? (i := 21) rfl
theorem nf_22 : ("SealedGroups$Store", 84, "SealedGroups$Journal", "size", "I") ∈ nestF := List.mem_of_getElem? (i := 22) rfl
theorem nf_23 : ("SealedGroups$Restarter", 70, "SealedGroups$Journal", "latestCheckpoint", "I") ∈ nestF := List.mem_of_getElem? (i := 23) rfl
theorem nf_24 : ("SealedGroups$Store", 155, "SealedGroups$Journal", "latestCheckpoint", "I") ∈ nestF := List.mem_of_getElem? (i := 24) rfl
theorem nf_25 : ("SealedGroups$Restarter", 33, "SealedGroups$Store", "pages", "LSealedGroups$Pages;") ∈ nestF := List.mem_of_getElem? (i := 25) rfl
theorem nf_26 : ("SealedGroups", 103, "SealedGroups$Store", "pages", "LSealedGroups$Pages;") ∈ nestF := List.mem_of_getElem? (i := 26) rfl
theorem nf_27 : ("SealedGroups", 85, "SealedGroups$Store", "groups", "LSealedGroups$Groups;") ∈ nestF := List.mem_of_getElem? (i := 27) rfl
theorem nf_28 : ("SealedGroups$Restarter", 25, "SealedGroups$Store", "journal", "LSealedGroups$Journal;") ∈ nestF := List.mem_of_getElem? (i := 28) rfl
theorem nf_29 : ("SealedGroups", 94, "SealedGroups$Store", "journal", "LSealedGroups$Journal;") ∈ nestF := List.mem_of_getElem? (i := 29) rfl
theorem nf_30 : ("SealedGroups$Restarter", 18, "SealedGroups$Store", "stopped", "Z") ∈ nestF := List.mem_of_getElem? (i := 30) rfl
theorem nf_31 : ("SealedGroups", 115, "SealedGroups$Store", "stopped", "Z") ∈ nestF := List.mem_of_getElem? (i := 31) rfl
theorem nf_32 : ("SealedGroups$Restarter", 55, "SealedGroups$Store", "doneAgain", "I") ∈ nestF := List.mem_of_getElem? (i := 32) rfl
theorem nf_33 : ("SealedGroups", 138, "SealedGroups$Store", "doneAgain", "I") ∈ nestF := List.mem_of_getElem? (i := 33) rfl
theorem nf_34 : ("SealedGroups", 141, "SealedGroups$History", "size", "I") ∈ nestF := List.mem_of_getElem? (i := 34) rfl
theorem nf_35 : ("SealedGroups", 144, "SealedGroups$OrderText", "length", "I") ∈ nestF := List.mem_of_getElem? (i := 35) rfl
theorem nm_0 : ("SealedGroups", 9, yX6_init) ∈ nestM := List.mem_of_getElem? (i := 0) rfl
theorem nm_1 : ("SealedGroups$Store", 11, yX4_init) ∈ nestM := List.mem_of_getElem? (i := 1) rfl
theorem nm_2 : ("SealedGroups$Store", 20, yX0_init) ∈ nestM := List.mem_of_getElem? (i := 2) rfl
theorem nm_3 : ("SealedGroups$Store", 27, yX2_init) ∈ nestM := List.mem_of_getElem? (i := 3) rfl
theorem nm_4 : ("SealedGroups", 21, yX5_init) ∈ nestM := List.mem_of_getElem? (i := 4) rfl
theorem nm_5 : ("SealedGroups$History", 17, yX6_init) ∈ nestM := List.mem_of_getElem? (i := 5) rfl
theorem nm_6 : ("SealedGroups", 35, yX3_init) ∈ nestM := List.mem_of_getElem? (i := 6) rfl
end
section
/-! flat memory, layout of the cells, the world, and rows of the kit turned to it -/
abbrev Mem : Type := Nat → Nat → Nat → Int32
def sr (M : Mem) (g r : Nat) (f : Nat → Int32) : Mem := fun g' r' => if g' = g ∧ r' = r then f else M g' r'
def st (M : Mem) (g r i : Nat) (v : Int32) : Mem := sr M g r (upd (M g r) i v)
theorem sr_at {M : Mem} {g r : Nat} {f : Nat → Int32} : sr M g r f g r = f := by simp [sr]
theorem sr_ne {M : Mem} {g r g' r' : Nat} {f : Nat → Int32} (h : ¬ (g' = g ∧ r' = r)) : sr M g r f g' r' = M g' r' := by simp only [sr, if_neg h]
def sgr (g : Nat) : List (Nat × Nat) := (List.range 19).map (fun r => (g, r))
def idx0 : List (Nat × Nat) := (10, 27) :: ((((sgr 0 ++ sgr 1) ++ [(7, 20), (7, 21), (7, 22)]) ++ ((8, 23) :: ((((([(8, 24)] ++ sgr 2) ++ sgr 3) ++ sgr 4) ++ sgr 5) ++ sgr 6))) ++ [(9, 25), (9, 26)]) ++ [(11, 28), (11, 29), (11, 30), (11, 31), (11, 32)]
/-- rows that a call of the law makes for itself and leaves behind -/
def tmpl : List (Nat × Nat) := [(11, 33), (11, 34)]
def pos (x : Nat × Nat) : Nat := if x.1 = 10 then 0 else if x.1 = 0 then 1 + x.2 else if x.1 = 1 then 20 + x.2 else if x.1 = 7 then 19 + x.2 else if x.1 = 8 then 19 + x.2 else if x.1 < 7 then 6 + 19 * x.1 + x.2 else if x.1 = 9 then 114 + x.2 else 113 + x.2
theorem idx_len : idx0.length = 146 := by decide +kernel
theorem idx_all : ∀ i, i < 148 → (idx0 ++ tmpl)[i]?.map pos = some i := by decide +kernel
abbrev En : Type := va_G × (ClassId × ClassId × ClassId × ClassId × Nat) × (Nat → Nat → Nat)
abbrev tau (E : En) : Nat := E.2.1.2.2.2.2
def ix (E : En) : List (Nat × Nat) := idx0 ++ tmpl.take (tau E)
theorem ix_sub {E : En} {i : Nat} {x : Nat × Nat} (h : (ix E)[i]? = some x) : (idx0 ++ tmpl)[i]? = some x := by
  unfold ix at h
  by_cases hi : i < idx0.length
  · rw [List.getElem?_append_left hi] at h ⊢; exact h
  · rw [List.getElem?_append_right (Nat.not_lt.mp hi)] at h ⊢
    rw [List.getElem?_take] at h
    split at h
    · exact h
    · cases h
theorem idx_pos {E : En} {i : Nat} {x : Nat × Nat} (h : (ix E)[i]? = some x) : pos x = i := by
  have h := ix_sub h
  have hi : i < 148 := by
    have h1 := (List.getElem?_eq_some_iff.mp h).1
    have h2 : (idx0 ++ tmpl).length = 148 := by rw [List.length_append, idx_len]; rfl
    omega
  have := idx_all i hi
  rw [h] at this
  exact Option.some.inj this
theorem idx_inj {E : En} {i j : Nat} {x : Nat × Nat} (h : (ix E)[i]? = some x) (h2 : (ix E)[j]? = some x) : i = j := by rw [← idx_pos h, ← idx_pos h2]
theorem ix_b {E : En} {x : Nat × Nat} (h : x ∈ idx0) : x ∈ ix E := List.mem_append_left _ h
theorem ms_all : ∀ k, k < 7 → ∀ r, r < 19 → (k, r) ∈ idx0 := by decide +kernel
theorem ms {E : En} {k : Nat} (hk : k < 7) (r : Nat) (hr : r < 19 := by decide) : (k, r) ∈ ix E := ix_b (ms_all k hk r hr)
def len (r : Nat) : Nat := if r < 7 then 8 else if r < 11 then 4 else if r < 18 then 128 else if r < 22 then 8 else if r = 22 then 128 else if r = 28 then 5 else if r = 29 then 16 else if r = 30 then 48 else if r = 31 then 64 else if r = 33 then 2 else 8
/-- a long out of two ints, by numbers -/
def jN (n : Nat) : Int64 := Int64.ofNat n
def jT (v : Int64) : Nat := v.toBitVec.toNat
def jl (f : Nat → Int32) (i : Nat) : Int64 := jN ((f (2 * i)).toBitVec.toNat + 4294967296 * (f (2 * i + 1)).toBitVec.toNat)
def jset (f : Nat → Int32) (i : Nat) (v : Int64) : Nat → Int32 := upd (upd f (2 * i) (Int32.ofNat (jT v % 4294967296))) (2 * i + 1) (Int32.ofNat (jT v / 4294967296))
theorem jset_lo (n : Nat) (h : n < 4294967296) : (Int32.ofNat n).toBitVec.toNat = n := by
  rw [Int32.toBitVec_ofNat', BitVec.toNat_ofNat]
  exact Nat.mod_eq_of_lt h
theorem jl_jset (f : Nat → Int32) (i : Nat) (v : Int64) : jl (jset f i v) = vp_updL (jl f) i v := by
  funext j
  have hv : jT v < 18446744073709551616 := v.toBitVec.isLt
  unfold vp_updL
  by_cases h : j = i
  · subst h
    rw [if_pos rfl]
    unfold jl jset upd
    rw [if_neg (by omega), if_pos rfl, if_pos rfl, jset_lo _ (by omega), jset_lo _ (by omega), Nat.mod_add_div]
    unfold jN jT
    apply Int64.toBitVec.inj
    rw [Int64.toBitVec_ofNat']
    exact BitVec.ofNat_toNat _ _ |>.trans (by simp)
  · rw [if_neg h]
    unfold jl jset upd
    rw [if_neg (by omega), if_neg (by omega), if_neg (by omega), if_neg (by omega)]
def cel (E : En) (g r : Nat) (f : Nat → Int32) : va_E := match r with
  | 0 => .inr (6, [.ref (E.2.2 g 1), .ref (E.2.2 g 7), .ref (E.2.2 g 11), .int (f 3), .int (f 4)])
  | 1 => .inr (4, [.ref (E.2.2 g 2), .ref (E.2.2 g 3), .ref (E.2.2 g 4), .ref (E.2.2 g 5), .ref (E.2.2 g 6), .int (f 5), .int (f 6)])
  | 7 => .inr (0, [.ref (E.2.2 g 8), .ref (E.2.2 g 9), .ref (E.2.2 g 10), .int (f 3)])
  | 11 => .inr (2, [.ref (E.2.2 g 12), .ref (E.2.2 g 13), .ref (E.2.2 g 14), .ref (E.2.2 g 15), .ref (E.2.2 g 16), .ref (E.2.2 g 17), .ref (E.2.2 g 18), .int (f 7), .int (f 8), .int (f 9), .int (f 10), .int (f 11)])
  | 20 => .inr (5, [.ref (E.2.2 g 21), .ref (E.2.2 g 22), .int (f 2), .int (f 3), .int (f 4), .int (f 5)])
  | 23 => .inr (1, [.ref (E.2.2 g 24), .int (f 1), .int (f 2)])
  | 24 => .inl (E.2.1.2.2.1, 5, .inr (.inr (.inr (.inr (fun j => some (E.2.2 (2 + j) 0))))))
  | 25 => .inr (3, [.ref (E.2.2 g 26), .int (f 1), .int (f 2), .int (f 3), .int (f 4), .int (f 5), .int (f 6), .int (f 7)])
  | 26 => .inl (E.2.1.2.1, 80, .inl f)
  | 27 => .inr (7, [.ref (E.2.2 0 0), .ref (E.2.2 1 0), .ref (E.2.2 7 20), .ref (E.2.2 8 23), .ref (E.2.2 9 25), .int (f 5), .int (f 6), .int (f 7)])
  | 31 => .inl (E.2.1.2.2.2.1, 64, .inr (.inl (jl f)))
  | r => .inl (E.2.1.1, len r, .inl f)
def tyE (E : En) : List (ClassId × FieldType) := [(E.2.1.1, .int), (E.2.1.2.1, .char), (E.2.1.2.2.1, .object RX6), (E.2.1.2.2.2.1, .long)]
def wl (E : En) (M : Mem) : va_W := (ix E).map (fun q => (E.2.2 q.1 q.2, cel E q.1 q.2 (M q.1 q.2)))
def AA (E : En) : Nat → Prop := fun q => ∃ x ∈ ix E, q = E.2.2 x.1 x.2
def AdOK (E : En) : Prop := ∀ x ∈ ix E, ∀ y ∈ ix E, E.2.2 x.1 x.2 = E.2.2 y.1 y.2 → x = y
def Wd (E : En) (M : Mem) (U : State) : Prop := va_P E.1 vwCl (wl E M) U.heap ∧ va_K E.1 vwCl (tyE E) U ∧ NK U
theorem wl_get {E : En} {M : Mem} {i g r : Nat} (h : (ix E)[i]? = some (g, r)) : (wl E M)[i]? = some (E.2.2 g r, cel E g r (M g r)) := by simp [wl, h]
theorem wl_at {E : En} {M : Mem} {g r : Nat} (h : (g, r) ∈ ix E) : ∃ i : Nat, (ix E)[i]? = some (g, r) ∧ (wl E M)[i]? = some (E.2.2 g r, cel E g r (M g r)) := by
  obtain ⟨i, hi⟩ := List.getElem?_of_mem h
  exact ⟨i, hi, wl_get hi⟩
theorem wl_set {E : En} {M : Mem} {i g r : Nat} (h : (ix E)[i]? = some (g, r)) {f : Nat → Int32} {e : va_E} (he : cel E g r f = e) : (wl E M).set i (E.2.2 g r, e) = wl E (sr M g r f) := by
  subst he
  apply List.ext_getElem?
  intro j
  rw [List.getElem?_set]
  by_cases hij : i = j
  · subst hij
    have hlt : i < (wl E M).length := by
      have h1 := (List.getElem?_eq_some_iff.mp h).1
      simpa [wl] using h1
    rw [if_pos rfl, if_pos hlt, wl_get h, sr_at]
  · rw [if_neg hij]
    cases hj : (ix E)[j]? with
    | none => simp [wl, hj]
    | some y =>
      obtain ⟨g', r'⟩ := y
      rw [wl_get hj, wl_get hj, sr_ne]
      rintro ⟨rfl, rfl⟩
      exact hij (idx_inj h hj)
theorem wl_D {E : En} (hA : AdOK E) {A : Nat → Prop} (hs : ∀ q, AA E q → A q) (M : Mem) : va_D A (wl E M) := by
  refine ⟨fun i j x y hx hy hxy => ?_, fun k q hq => ?_⟩
  · simp only [wl, List.getElem?_map, Option.map_eq_some_iff] at hx hy
    obtain ⟨a, ha, rfl⟩ := hx
    obtain ⟨b, hb, rfl⟩ := hy
    have hab := hA a (List.mem_of_getElem? ha) b (List.mem_of_getElem? hb) hxy
    subst hab
    exact idx_inj ha hb
  · simp only [wl, List.getElem?_map, Option.map_eq_some_iff] at hq
    obtain ⟨a, ha, rfl⟩ := hq
    exact hs _ ⟨a, List.mem_of_getElem? ha, rfl⟩
/-! words of programs -/
def gd {α : Type} (c : Prop) [Decidable c] (x : Option α) : Option α := if c then x else none
def bd {α β : Type} (x : α) (k : α → β) : β := k x
def bO {α β : Type} (x : Option α) (k : α → Option β) : Option β := match x with
  | none => none
  | some v => k v
def bP {α β : Type} (x : Option (α × Mem)) (k : α → Mem → Option β) : Option β := match x with
  | none => none
  | some v => k v.1 v.2
noncomputable def itr {α : Type} (b : α → α) (z : α) (n : Nat) : α := Nat.rec z (fun _ ih => b ih) n
def FU : Nat := 10000
abbrev inb (i : Int32) (n : Nat) : Prop := 0 ≤ i.toInt ∧ i.toInt < n
abbrev isB (v : Int32) : Prop := v = 0 ∨ v = 1
theorem gd_e {α : Type} {c : Prop} [Decidable c] {x : Option α} {r : α} (h : gd c x = some r) : c ∧ x = some r := by
  unfold gd at h
  by_cases hc : c
  · rw [if_pos hc] at h; exact ⟨hc, h⟩
  · rw [if_neg hc] at h; cases h
theorem bd_e {α β : Type} {x y : α} {k : α → β} {r : β} (h : bd x k = r) (e : y = x) : k y = r := by subst e; exact h
theorem bO_e {α β : Type} {x : Option α} {k : α → Option β} {r : β} (h : bO x k = some r) : ∃ v, x = some v ∧ k v = some r := by
  cases x with
  | none => cases h
  | some v => exact ⟨v, rfl, h⟩
theorem bP_e {α β : Type} {x : Option (α × Mem)} {k : α → Mem → Option β} {r : β} (h : bP x k = some r) : ∃ v M, x = some (v, M) ∧ k v M = some r := by
  cases x with
  | none => cases h
  | some v => exact ⟨v.1, v.2, rfl, h⟩
theorem br_1 {α : Type} {c : Prop} [Decidable c] {x y : Option α} {r : α} (h : (if c then x else y) = some r) (hc : c) : x = some r := by rw [if_pos hc] at h; exact h
theorem br_0 {α : Type} {c : Prop} [Decidable c] {x y : Option α} {r : α} (h : (if c then x else y) = some r) (hc : ¬ c) : y = some r := by rw [if_neg hc] at h; exact h
theorem sw_ne {x n : Int32} {v : Int} (h : ¬ x = n) (hv : n.toInt = v) : x.toInt ≠ v := fun e => h (Int32.toInt_inj.mp (e.trans hv.symm))
theorem inb_vp {i : Int32} {n : Nat} (h : inb i n) : vp_in i n := vp_in_iff.mpr h
theorem isB_n {v : Int32} (h : isB v) : narrow .boolean (.int v) = .int v := by rcases h with rfl | rfl <;> rfl
theorem isB_f {v : Int32} (h : isB v) : fits .boolean (.int v) = true := by rcases h with rfl | rfl <;> rfl
/-! contracts over the world -/
abbrev Wm (y : MethodName) (b : ByteArray) (maxL : Nat) (ret : Option FieldType) : List Cond := Cond.code y b maxL ret :: wsL_law
def QI (E : En) (r : Int32) (M : Mem) : Array Value → State → Outcome → State → Prop := va_Qi (fun r' (_ : Unit) => r' = r) (fun _ t => Wd E M t) (AA E)
def QV (E : En) (M : Mem) : Array Value → State → Outcome → State → Prop := va_Qv (fun (_ : Unit) => True) (fun _ t => Wd E M t) (AA E)
def QR (E : En) (g : Nat) (M : Mem) : Array Value → State → Outcome → State → Prop := va_Qr (fun (_ : Unit) => True) (fun _ a t => a = E.2.2 g 0 ∧ Wd E M t) (AA E)
def Cx (E : En) (A : Nat → Prop) (p : Program) (s : State) (m : MethodId) (c : Code) (args : Array Value) (cc : ByteArray) (nL : Nat) (own : String) : Prop := CallFix p m c cc nL s args wsL_law own ∧ (va_K E.1 vwCl (tyE E) s ∧ NK s) ∧ AdOK E ∧ ∀ q, AA E q → A q
/-- what a call needs of its callee, once for each callee -/
def Pk (C : String) (y : MethodName) (bytes : ByteArray) (maxL : Nat) (ret : Option FieldType) (n : Nat) : Prop :=
  Cond.code y bytes maxL ret ∈ wsL_law ∧ Cond.initialized y.cls ∈ wsL_law ∧ y.cls = C ∧ (y.cls ≠ "java/lang/invoke/MethodHandle" ∧ y.cls ≠ "java/lang/invoke/VarHandle" ∧ (parseMethodDescriptor y.desc).map (fun d => d.parameters.length) = some n)
theorem Wm_good {y y' : MethodName} {b b' : ByteArray} {maxL maxL' : Nat} {ret ret' : Option FieldType} (h : Cond.code y b maxL ret ∈ wsL_law) : GoodIn wsL_law (Wm y b maxL ret) := fun w hw => (List.mem_cons.mp hw).elim (fun e => by subst e; exact ⟨h, (wsL_law_good _ h).2⟩) (fun h => ⟨h, (wsL_law_good _ h).2⟩)
theorem Wd_blind {E : En} {M : Mem} {av : List Value} : FrameBlind (va_Pc av (Wd E M)) := fun a U g mk q => ⟨q.1, q.2.1, va_K.moved (u := U) (U := U.calling g mk a) (Vm.Alike.refl U.vm) q.2.2.1, NK.same (u := U) (U := U.calling g mk a) rfl q.2.2.2⟩
section MW
variable {p : Program} {l : Launch} {e : Env} {R : Room} {s : State} {m : MethodId} {args : Array Value} {below : List Frame} {meth : Method} {c : Code} {H : Heap} {locs : List Loc} {cells slots : Nat} {Q : State → Prop} {cc : ByteArray} {pc nL : Nat} {ls : Array Slot} {rest : List Value} {E : En} {M : Mem} {own : String} {H0 : Heap} {A : Nat → Prop}
theorem mw_get (X : Cx E A p s m c args cc nL own) (hP : va_P E.1 vwCl (wl E M) H) {C : String} {T : u_T} {N ci index g r : Nat} (hin : ∀ w ∈ u_ws C T N, w ∈ wsL_law) (hm : (g, r) ∈ ix E) {fs : List Value} (he : cel E g r (M g r) = .inr (ci, fs)) (hc : vwCl[ci]? = some (C, T, N)) (k : Nat) (hk : k < N) (hl : Cond.fieldLink own index (T k).1 (T k).2.1 (T k).2.2.1 ∈ wsL_law) {v : Value} (hv : fs[k]? = some v) (hdg : decode cc pc = .ok (.getfield index, 3)) (kk : W p l e R s m args below meth c H locs cells slots Q (F0 m (pc + 3) ls (v :: rest))) : W p l e R s m args below meth c H locs cells slots Q (F0 m pc ls (.ref (E.2.2 g r) :: rest)) := by
  obtain ⟨i, -, hi⟩ := wl_at (E := E) (M := M) hm
  rw [he] at hi
  exact va_get X.1.1 X.1.2.1 X.1.2.2.2.2 hin X.1.2.2.2.1 X.2.1.1 hP i hi hc k hk (X.1.2.2.2.2 _ hl) (fun _ h => h) hv hdg kk
theorem mw_put (X : Cx E A p s m c args cc nL own) (hP : va_P E.1 vwCl (wl E M) H) (hS : va_S A H0 H locs) {C : String} {T : u_T} {N ci index g r : Nat} (hin : ∀ w ∈ u_ws C T N, w ∈ wsL_law) (ty0 : Nat → FieldType) (hty : ∀ k, k < N → parseFieldDescriptor (T k).2.2.1 = some (ty0 k)) (hnm : ∀ a, a < N → ∀ b, b < N → a ≠ b → (T a).2.1 ≠ (T b).2.1) (hm : (g, r) ∈ ix E) {fs : List Value} (he : cel E g r (M g r) = .inr (ci, fs)) (hc : vwCl[ci]? = some (C, T, N)) (k : Nat) (hk : k < N) (hl : Cond.fieldLink own index (T k).1 (T k).2.1 (T k).2.2.1 ∈ wsL_law) (hfin : (T k).2.2.2 = false) {ty : FieldType} {x : Int32} (hd : parseFieldDescriptor (T k).2.2.1 = some ty) (hn : narrow ty (.int x) = .int x) (hfit : fits ty (.int x) = true) (hlen : k < fs.length) (hs : cel E g r (upd (M g r) k x) = .inr (ci, fs.set k (.int x))) (hdg : decode cc pc = .ok (.putfield index, 3)) (kk : ∀ (H1 : Heap) (locs1 : List Loc) (M1 : Mem), M1 = st M g r k x → va_P E.1 vwCl (wl E M1) H1 → va_S A H0 H1 locs1 → W p l e R s m args below meth c H1 locs1 cells slots Q (F0 m (pc + 3) ls rest)) : W p l e R s m args below meth c H locs cells slots Q (F0 m pc ls (.int x :: .ref (E.2.2 g r) :: rest)) := by
  obtain ⟨i, h0, hi⟩ := wl_at (E := E) (M := M) hm
  rw [he] at hi
  refine va_put X.1.1 X.1.2.1 X.1.2.2.2.2 hin ty0 hty hnm X.1.2.2.2.1 X.2.1.1 hP (wl_D X.2.2.1 X.2.2.2 M) hS i hi hc k hk (X.1.2.2.2.2 _ hl) (fun _ h => h) hfin hd hn hfit hlen hdg (fun H1 locs1 hP1 _ hS1 => ?_)
  rw [wl_set h0 hs] at hP1
  exact kk H1 locs1 _ rfl hP1 hS1
theorem mw_getN (X : Cx E A p s m c args cc nL own) (hP : va_P E.1 vwCl (wl E M) H) {C : String} {T : u_T} {N ci index g r : Nat} (hin : ∀ w ∈ u_ws C T N, w ∈ wsL_law) (hm : (g, r) ∈ ix E) {fs : List Value} (he : cel E g r (M g r) = .inr (ci, fs)) (hc : vwCl[ci]? = some (C, T, N)) (k : Nat) (hk : k < N) (hl : (own, index, (T k).1, (T k).2.1, (T k).2.2.1) ∈ nestF) {v : Value} (hv : fs[k]? = some v) (hdg : decode cc pc = .ok (.getfield index, 3)) (kk : W p l e R s m args below meth c H locs cells slots Q (F0 m (pc + 3) ls (v :: rest))) : W p l e R s m args below meth c H locs cells slots Q (F0 m pc ls (.ref (E.2.2 g r) :: rest)) := by
  obtain ⟨i, -, hi⟩ := wl_at (E := E) (M := M) hm
  rw [he] at hi
  exact va_getN (host := "SealedGroups") X.1.1 X.1.2.1 X.1.2.2.2.2 hin X.1.2.2.2.1 X.2.1.1 hP i hi hc k hk (va_Nw.use rfl (X.2.1.2.1 _ hl)) (fun _ h => h) hv hdg kk
theorem mw_putN (X : Cx E A p s m c args cc nL own) (hP : va_P E.1 vwCl (wl E M) H) (hS : va_S A H0 H locs) {C : String} {T : u_T} {N ci index g r : Nat} (hin : ∀ w ∈ u_ws C T N, w ∈ wsL_law) (ty0 : Nat → FieldType) (hty : ∀ k, k < N → parseFieldDescriptor (T k).2.2.1 = some (ty0 k)) (hnm : ∀ a, a < N → ∀ b, b < N → a ≠ b → (T a).2.1 ≠ (T b).2.1) (hm : (g, r) ∈ ix E) {fs : List Value} (he : cel E g r (M g r) = .inr (ci, fs)) (hc : vwCl[ci]? = some (C, T, N)) (k : Nat) (hk : k < N) (hl : (own, index, (T k).1, (T k).2.1, (T k).2.2.1) ∈ nestF) (hfin : (T k).2.2.2 = false) {ty : FieldType} {x : Int32} (hd : parseFieldDescriptor (T k).2.2.1 = some ty) (hn : narrow ty (.int x) = .int x) (hfit : fits ty (.int x) = true) (hlen : k < fs.length) (hs : cel E g r (upd (M g r) k x) = .inr (ci, fs.set k (.int x))) (hdg : decode cc pc = .ok (.putfield index, 3)) (kk : ∀ (H1 : Heap) (locs1 : List Loc) (M1 : Mem), M1 = st M g r k x → va_P E.1 vwCl (wl E M1) H1 → va_S A H0 H1 locs1 → W p l e R s m args below meth c H1 locs1 cells slots Q (F0 m (pc + 3) ls rest)) : W p l e R s m args below meth c H locs cells slots Q (F0 m pc ls (.int x :: .ref (E.2.2 g r) :: rest)) := by
  obtain ⟨i, h0, hi⟩ := wl_at (E := E) (M := M) hm
  rw [he] at hi
  refine va_putN (host := "SealedGroups") X.1.1 X.1.2.1 X.1.2.2.2.2 hin ty0 hty hnm X.1.2.2.2.1 X.2.1.1 hP (wl_D X.2.2.1 X.2.2.2 M) hS i hi hc k hk (va_Nw.use rfl (X.2.1.2.1 _ hl)) (fun _ h => h) hfin hd hn hfit hlen hdg (fun H1 locs1 hP1 _ hS1 => ?_)
  rw [wl_set h0 hs] at hP1
  exact kk H1 locs1 _ rfl hP1 hS1
theorem mw_ld (X : Cx E A p s m c args cc nL own) (hP : va_P E.1 vwCl (wl E M) H) {g r n : Nat} (hm : (g, r) ∈ ix E) (hc : cel E g r (M g r) = .inl (E.2.1.1, n, .inl (M g r))) {i v : Int32} (hin : vp_in i n) (hv : M g r i.toNatClampNeg = v) (hdg : decode cc pc = .ok (.iaload, 1)) (kk : W p l e R s m args below meth c H locs cells slots Q (F0 m (pc + 1) ls (.int v :: rest))) : W p l e R s m args below meth c H locs cells slots Q (F0 m pc ls (.int i :: .ref (E.2.2 g r) :: rest)) := by
  obtain ⟨j, -, hj⟩ := wl_at (E := E) (M := M) hm
  rw [hc] at hj
  subst hv
  exact va_iald X.1.1 X.1.2.1 X.2.1.1 hP j 0 hj rfl hin hdg kk
theorem mw_cld (X : Cx E A p s m c args cc nL own) (hP : va_P E.1 vwCl (wl E M) H) {g r n : Nat} (hm : (g, r) ∈ ix E) (hc : cel E g r (M g r) = .inl (E.2.1.2.1, n, .inl (M g r))) {i v : Int32} (hin : vp_in i n) (hv : M g r i.toNatClampNeg = v) (hdg : decode cc pc = .ok (.caload, 1)) (kk : W p l e R s m args below meth c H locs cells slots Q (F0 m (pc + 1) ls (.int v :: rest))) : W p l e R s m args below meth c H locs cells slots Q (F0 m pc ls (.int i :: .ref (E.2.2 g r) :: rest)) := by
  obtain ⟨j, -, hj⟩ := wl_at (E := E) (M := M) hm
  rw [hc] at hj
  subst hv
  exact va_cald X.1.1 X.1.2.1 X.2.1.1 hP j 1 hj rfl hin hdg kk
theorem mw_st (X : Cx E A p s m c args cc nL own) (hP : va_P E.1 vwCl (wl E M) H) (hS : va_S A H0 H locs) {g r n : Nat} (hm : (g, r) ∈ ix E) (hc : ∀ f, cel E g r f = .inl (E.2.1.1, n, .inl f)) {i x : Int32} {j : Nat} (hin : vp_in i n) (hj : i.toNatClampNeg = j) (hdg : decode cc pc = .ok (.iastore, 1)) (kk : ∀ (H1 : Heap) (locs1 : List Loc) (M1 : Mem), M1 = st M g r j x → va_P E.1 vwCl (wl E M1) H1 → va_S A H0 H1 locs1 → W p l e R s m args below meth c H1 locs1 cells slots Q (F0 m (pc + 1) ls rest)) : W p l e R s m args below meth c H locs cells slots Q (F0 m pc ls (.int x :: .int i :: .ref (E.2.2 g r) :: rest)) := by
  obtain ⟨q, h0, hq⟩ := wl_at (E := E) (M := M) hm
  rw [hc] at hq
  subst hj
  refine va_iast X.1.1 X.1.2.1 X.2.1.1 hP (wl_D X.2.2.1 X.2.2.2 M) hS q 0 hq rfl hin hdg (fun H1 locs1 hP1 _ hS1 => ?_)
  rw [wl_set h0 (hc _)] at hP1
  exact kk H1 locs1 _ rfl hP1 hS1
theorem mw_cst (X : Cx E A p s m c args cc nL own) (hP : va_P E.1 vwCl (wl E M) H) (hS : va_S A H0 H locs) {g r n : Nat} (hm : (g, r) ∈ ix E) (hc : ∀ f, cel E g r f = .inl (E.2.1.2.1, n, .inl f)) {i x : Int32} {j : Nat} (hin : vp_in i n) (hj : i.toNatClampNeg = j) (hdg : decode cc pc = .ok (.castore, 1)) (kk : ∀ (H1 : Heap) (locs1 : List Loc) (M1 : Mem), M1 = st M g r j (vp_nar .char x) → va_P E.1 vwCl (wl E M1) H1 → va_S A H0 H1 locs1 → W p l e R s m args below meth c H1 locs1 cells slots Q (F0 m (pc + 1) ls rest)) : W p l e R s m args below meth c H locs cells slots Q (F0 m pc ls (.int x :: .int i :: .ref (E.2.2 g r) :: rest)) := by
  obtain ⟨q, h0, hq⟩ := wl_at (E := E) (M := M) hm
  rw [hc] at hq
  subst hj
  refine va_cast X.1.1 X.1.2.1 X.2.1.1 hP (wl_D X.2.2.1 X.2.2.2 M) hS q 1 hq rfl hin hdg (fun H1 locs1 hP1 _ hS1 => ?_)
  rw [wl_set h0 (hc _)] at hP1
  exact kk H1 locs1 _ rfl hP1 hS1
theorem mw_len (X : Cx E A p s m c args cc nL own) (hP : va_P E.1 vwCl (wl E M) H) {g r n : Nat} (hm : (g, r) ∈ ix E) (hc : cel E g r (M g r) = .inl (E.2.1.1, n, .inl (M g r))) {v : Int32} (hv : Int32.ofNat n = v) (hdg : decode cc pc = .ok (.arraylength, 1)) (kk : W p l e R s m args below meth c H locs cells slots Q (F0 m (pc + 1) ls (.int v :: rest))) : W p l e R s m args below meth c H locs cells slots Q (F0 m pc ls (.ref (E.2.2 g r) :: rest)) := by
  obtain ⟨j, -, hj⟩ := wl_at (E := E) (M := M) hm
  rw [hc] at hj
  exact va_alen X.1.1 X.1.2.1 X.2.1.1 hP j 0 hj (ty := .int) rfl hv hdg kk
theorem mw_cpy (X : Cx E A p s m c args cc nL own) (hP : va_P E.1 vwCl (wl E M) H) (hS : va_S A H0 H locs) (hls : ls.size = nL) {g r g1 r1 n0 n1 index : Nat} (hm : (g, r) ∈ ix E) (hc : cel E g r (M g r) = .inl (E.2.1.1, n0, .inl (M g r))) (hm1 : (g1, r1) ∈ ix E) (hc1 : ∀ f, cel E g1 r1 f = .inl (E.2.1.1, n1, .inl f)) {sp dp n : Int32} (h1 : ¬ sp < 0) (h2 : ¬ dp < 0) (h3 : ¬ n < 0) (h4 : sp.toNatClampNeg + n.toNatClampNeg ≤ n0) (h5 : dp.toNatClampNeg + n.toNatClampNeg ≤ n1) (hR : 1 ≤ R.frames ∧ 8 + (nativeFrameWords "java/lang/System" "arraycopy" 5 + 11) ≤ R.locals) (hW : (rest.map fun v => v.category).sum ≤ 8) (hl : Cond.methodLink own index arraycopyName ∈ wsL_law) (hw1 : Cond.native arraycopyName ∈ wsL_law) (hw2 : Cond.static arraycopyName ∈ wsL_law) (hw3 : Cond.initialized "java/lang/System" ∈ wsL_law) (hdg : decode cc pc = .ok (.invokestatic index, 3)) (kk : ∀ (H1 : Heap) (locs1 : List Loc) (M1 : Mem), M1 = sr M g1 r1 (va_cpy (M g r) (M g1 r1) sp.toNatClampNeg dp.toNatClampNeg n.toNatClampNeg) → va_P E.1 vwCl (wl E M1) H1 → va_S A H0 H1 locs1 → W p l e R s m args below meth c H1 locs1 cells slots Q (F0 m (pc + 3) ls rest)) : W p l e R s m args below meth c H locs cells slots Q (F0 m pc ls (.int n :: .int dp :: .ref (E.2.2 g1 r1) :: .int sp :: .ref (E.2.2 g r) :: rest)) := by
  obtain ⟨q, -, hq⟩ := wl_at (E := E) (M := M) hm
  rw [hc] at hq
  obtain ⟨q1, h01, hq1⟩ := wl_at (E := E) (M := M) hm1
  rw [hc1] at hq1
  have ht := X.1.2.2.2.2
  refine va_copyi X.1.1 X.1.2.1 (X.1.2.2.1.trans hls.symm) X.1.2.2.2.1 (ht _ hl) (ht _ hw1) (ht _ hw2) (ht _ hw3) X.2.1.1 hP (wl_D X.2.2.1 X.2.2.2 M) hS q q1 0 0 (ty := .int) hq hq1 rfl rfl rfl h1 h2 h3 h4 h5 (fun _ _ => rfl) hR.1 (by omega) hdg (fun H1 locs1 hP1 _ hS1 => ?_)
  rw [wl_set h01 (hc1 _)] at hP1
  exact kk H1 locs1 _ rfl hP1 hS1
theorem mw_max (X : Cx E A p s m c args cc nL own) (hls : ls.size = nL) {index : Nat} (hR : 1 ≤ R.frames ∧ 21 ≤ R.locals) (hcs : cells ≤ R.cells ∧ slots ≤ R.slots) (hW : (rest.map fun v => v.category).sum ≤ 8) (hl : Cond.methodLink own index Lib.Math.max.name ∈ wsL_law) (hw1 : Cond.static Lib.Math.max.name ∈ wsL_law) (hw2 : Cond.initialized "java/lang/Math" ∈ wsL_law) (hw3 : Cond.code Lib.Math.max.name Lib.Math.max.code 2 (some .int) ∈ wsL_law) {x y : Int32} (hdg : decode cc pc = .ok (.invokestatic index, 3)) (kk : W p l e R s m args below meth c H locs cells slots Q (F0 m (pc + 3) ls (.int (if x < y then y else x) :: rest))) : W p l e R s m args below meth c H locs cells slots Q (F0 m pc ls (.int y :: .int x :: rest)) := by
  have ht := X.1.2.2.2.2
  exact va_mmax X.1.1 X.1.2.1 (X.1.2.2.1.trans hls.symm) X.1.2.2.2.1 (ht _ hl) (ht _ hw1) (ht _ hw2) (ht _ hw3) hR.1 (by omega) hcs.1 hcs.2 hdg kk
theorem mw_min (X : Cx E A p s m c args cc nL own) (hls : ls.size = nL) {index : Nat} (hR : 1 ≤ R.frames ∧ 21 ≤ R.locals) (hcs : cells ≤ R.cells ∧ slots ≤ R.slots) (hW : (rest.map fun v => v.category).sum ≤ 8) (hl : Cond.methodLink own index Lib.Math.min.name ∈ wsL_law) (hw1 : Cond.static Lib.Math.min.name ∈ wsL_law) (hw2 : Cond.initialized "java/lang/Math" ∈ wsL_law) (hw3 : Cond.code Lib.Math.min.name Lib.Math.min.code 2 (some .int) ∈ wsL_law) {x y : Int32} (hdg : decode cc pc = .ok (.invokestatic index, 3)) (kk : W p l e R s m args below meth c H locs cells slots Q (F0 m (pc + 3) ls (.int (if y < x then y else x) :: rest))) : W p l e R s m args below meth c H locs cells slots Q (F0 m pc ls (.int y :: .int x :: rest)) := by
  have ht := X.1.2.2.2.2
  exact va_mmin X.1.1 X.1.2.1 (X.1.2.2.1.trans hls.symm) X.1.2.2.2.1 (ht _ hl) (ht _ hw1) (ht _ hw2) (ht _ hw3) hR.1 (by omega) hcs.1 hcs.2 hdg kk
theorem mw_cb {C : String} {y : MethodName} {bytes : ByteArray} {maxL n index : Nat} {ret : Option FieldType} {rm : Room} (X : Cx E A p s m c args cc nL own) (pk : Pk C y bytes maxL ret n) (hlk : Cond.methodLink own index y ∈ wsL_law) (hR : rm.frames + 1 ≤ R.frames ∧ 8 + (maxL + 11) + rm.locals ≤ R.locals) (hrm : rm.cells = 0 ∧ rm.slots = 0) : CallB R s args own index y bytes maxL ret (Wm y bytes maxL ret) rm 0 0 n :=
  callB_of n X.1.2.2.2.2 (Wm_good (y' := y) (b' := bytes) (maxL' := maxL) (ret' := ret) pk.1) rfl hrm.1 hrm.2 (X.1.2.2.2.2 _ pk.2.1) (X.1.2.2.2.2 _ hlk) pk.2.2.2 hR
theorem mw_pre (X : Cx E A p s m c args cc nL own) (hP : va_P E.1 vwCl (wl E M) H) {av : List Value} : ∀ U : State, U.heap = H → s.WarmedH U.vm → va_Pc av (Wd E M) av.toArray U := fun U hU hW => ⟨rfl, by rw [hU]; exact hP, va_K.moved hW.alike X.2.1.1, X.2.1.2.warm hW⟩
theorem mw_callVi {C : String} {y : MethodName} {bytes : ByteArray} {maxL n index : Nat} {ret : Option FieldType} {rm : Room} {g ro ci : Nat} {fs As st0 : List Value} {q : vw_C} {M1 : Mem} {r : Int32} (X : Cx E A p s m c args cc nL own) (hM : Met l y (Wm y bytes maxL ret) rm (va_Pc (.ref (E.2.2 g ro) :: As) (Wd E M)) (QI E r M1) 0 0 (AA E)) (pk : Pk C y bytes maxL ret n) (him : Cond.instanceMethod y ∈ wsL_law ∧ Cond.selects C y y ∈ wsL_law) (hlk : Cond.methodLink own index y ∈ wsL_law) (hR : rm.frames + 1 ≤ R.frames ∧ 8 + (maxL + 11) + rm.locals ≤ R.locals) (hrm : rm.cells = 0 ∧ rm.slots = 0) (hP : va_P E.1 vwCl (wl E M) H) (hS : va_S A H0 H locs) (hm : (g, ro) ∈ ix E) (he : cel E g ro (M g ro) = .inr (ci, fs)) (hc : vwCl[ci]? = some q) (hq : q.1 = C) (hlen : As.length = n) (hls : ls.size = nL) (hW : (rest.map fun v => v.category).sum ≤ 8) (hcs : cells ≤ R.cells ∧ slots ≤ R.slots) (hst : st0 = As.reverse ++ .ref (E.2.2 g ro) :: rest) (hdg : decode cc pc = .ok (.invokevirtual index, 3))
    (kk : ∀ (H1 : Heap) (locs1 : List Loc), va_P E.1 vwCl (wl E M1) H1 → va_S A H0 H1 locs1 → W p l e R s m args below meth c H1 locs1 cells slots Q (F0 m (pc + 3) ls (.int r :: rest))) : W p l e R s m args below meth c H locs cells slots Q (F0 m pc ls st0) := by
  subst hst
  subst hq
  obtain ⟨i, -, hi⟩ := wl_at (E := E) (M := M) hm
  rw [he] at hi
  refine va_calli (A1 := AA E) (va_runV (As := As) (rest := rest) X.1 hM ⟨mw_cb X pk hlk hR hrm, X.1.2.2.2.2 _ him.1, X.1.2.2.2.2 _ him.2⟩ ⟨Wd_blind, va_recv X.2.1.1 hP hc hi, mw_pre X hP⟩ rfl hlen hls rfl (lv_room hW) hdg hcs) hS (fun q _ h => X.2.2.2 q h) X.2.2.2 (fun r1 u t H1 locs1 ht _ hr hB _ _ hS1 => ?_)
  subst hr
  exact kk H1 locs1 (by rw [← ht]; exact hB.1) hS1
theorem mw_callVv {C : String} {y : MethodName} {bytes : ByteArray} {maxL n index : Nat} {ret : Option FieldType} {rm : Room} {g ro ci : Nat} {fs As st0 : List Value} {q : vw_C} {M1 : Mem} (X : Cx E A p s m c args cc nL own) (hM : Met l y (Wm y bytes maxL ret) rm (va_Pc (.ref (E.2.2 g ro) :: As) (Wd E M)) (QV E M1) 0 0 (AA E)) (pk : Pk C y bytes maxL ret n) (him : Cond.instanceMethod y ∈ wsL_law ∧ Cond.selects C y y ∈ wsL_law) (hlk : Cond.methodLink own index y ∈ wsL_law) (hR : rm.frames + 1 ≤ R.frames ∧ 8 + (maxL + 11) + rm.locals ≤ R.locals) (hrm : rm.cells = 0 ∧ rm.slots = 0) (hP : va_P E.1 vwCl (wl E M) H) (hS : va_S A H0 H locs) (hm : (g, ro) ∈ ix E) (he : cel E g ro (M g ro) = .inr (ci, fs)) (hc : vwCl[ci]? = some q) (hq : q.1 = C) (hlen : As.length = n) (hls : ls.size = nL) (hW : (rest.map fun v => v.category).sum ≤ 8) (hcs : cells ≤ R.cells ∧ slots ≤ R.slots) (hst : st0 = As.reverse ++ .ref (E.2.2 g ro) :: rest) (hdg : decode cc pc = .ok (.invokevirtual index, 3))
    (kk : ∀ (H1 : Heap) (locs1 : List Loc), va_P E.1 vwCl (wl E M1) H1 → va_S A H0 H1 locs1 → W p l e R s m args below meth c H1 locs1 cells slots Q (F0 m (pc + 3) ls rest)) : W p l e R s m args below meth c H locs cells slots Q (F0 m pc ls st0) := by
  subst hst
  subst hq
  obtain ⟨i, -, hi⟩ := wl_at (E := E) (M := M) hm
  rw [he] at hi
  refine va_callv (A1 := AA E) (va_runV (As := As) (rest := rest) X.1 hM ⟨mw_cb X pk hlk hR hrm, X.1.2.2.2.2 _ him.1, X.1.2.2.2.2 _ him.2⟩ ⟨Wd_blind, va_recv X.2.1.1 hP hc hi, mw_pre X hP⟩ rfl hlen hls rfl (lv_room hW) hdg hcs) hS (fun q _ h => X.2.2.2 q h) X.2.2.2 (fun u t H1 locs1 ht _ hr hB _ _ hS1 => ?_)
  exact kk H1 locs1 (by rw [← ht]; exact hB.1) hS1
theorem mw_callVr {C : String} {y : MethodName} {bytes : ByteArray} {maxL n index : Nat} {ret : Option FieldType} {rm : Room} {g ro ci g1 : Nat} {fs As st0 : List Value} {q : vw_C} {M1 : Mem} (X : Cx E A p s m c args cc nL own) (hM : Met l y (Wm y bytes maxL ret) rm (va_Pc (.ref (E.2.2 g ro) :: As) (Wd E M)) (QR E g1 M1) 0 0 (AA E)) (pk : Pk C y bytes maxL ret n) (him : Cond.instanceMethod y ∈ wsL_law ∧ Cond.selects C y y ∈ wsL_law) (hlk : Cond.methodLink own index y ∈ wsL_law) (hR : rm.frames + 1 ≤ R.frames ∧ 8 + (maxL + 11) + rm.locals ≤ R.locals) (hrm : rm.cells = 0 ∧ rm.slots = 0) (hP : va_P E.1 vwCl (wl E M) H) (hS : va_S A H0 H locs) (hm : (g, ro) ∈ ix E) (he : cel E g ro (M g ro) = .inr (ci, fs)) (hc : vwCl[ci]? = some q) (hq : q.1 = C) (hlen : As.length = n) (hls : ls.size = nL) (hW : (rest.map fun v => v.category).sum ≤ 8) (hcs : cells ≤ R.cells ∧ slots ≤ R.slots) (hst : st0 = As.reverse ++ .ref (E.2.2 g ro) :: rest) (hdg : decode cc pc = .ok (.invokevirtual index, 3))
    (kk : ∀ (H1 : Heap) (locs1 : List Loc), va_P E.1 vwCl (wl E M1) H1 → va_S A H0 H1 locs1 → W p l e R s m args below meth c H1 locs1 cells slots Q (F0 m (pc + 3) ls (.ref (E.2.2 g1 0) :: rest))) : W p l e R s m args below meth c H locs cells slots Q (F0 m pc ls st0) := by
  subst hst
  subst hq
  obtain ⟨i, -, hi⟩ := wl_at (E := E) (M := M) hm
  rw [he] at hi
  refine va_callr (A1 := AA E) (va_runV (As := As) (rest := rest) X.1 hM ⟨mw_cb X pk hlk hR hrm, X.1.2.2.2.2 _ him.1, X.1.2.2.2.2 _ him.2⟩ ⟨Wd_blind, va_recv X.2.1.1 hP hc hi, mw_pre X hP⟩ rfl hlen hls rfl (lv_room hW) hdg hcs) hS (fun q _ h => X.2.2.2 q h) X.2.2.2 (fun u ra t H1 locs1 ht _ hr hB _ _ hS1 => ?_)
  obtain ⟨hra, hB⟩ := hB
  subst hra
  exact kk H1 locs1 (by rw [← ht]; exact hB.1) hS1
theorem mw_callSi {C : String} {y : MethodName} {bytes : ByteArray} {maxL n index : Nat} {ret : Option FieldType} {rm : Room} {As st0 : List Value} {M1 : Mem} {r : Int32} (X : Cx E A p s m c args cc nL own) (hM : Met l y (Wm y bytes maxL ret) rm (va_Pc As (Wd E M)) (QI E r M1) 0 0 (AA E)) (pk : Pk C y bytes maxL ret n) (hsy : Cond.static y ∈ wsL_law) (hlk : Cond.methodLink own index y ∈ wsL_law) (hR : rm.frames + 1 ≤ R.frames ∧ 8 + (maxL + 11) + rm.locals ≤ R.locals) (hrm : rm.cells = 0 ∧ rm.slots = 0) (hP : va_P E.1 vwCl (wl E M) H) (hS : va_S A H0 H locs) (hlen : As.length = n) (hls : ls.size = nL) (hW : (rest.map fun v => v.category).sum ≤ 8) (hcs : cells ≤ R.cells ∧ slots ≤ R.slots) (hst : st0 = As.reverse ++ rest) (hdg : decode cc pc = .ok (.invokestatic index, 3))
    (kk : ∀ (H1 : Heap) (locs1 : List Loc), va_P E.1 vwCl (wl E M1) H1 → va_S A H0 H1 locs1 → W p l e R s m args below meth c H1 locs1 cells slots Q (F0 m (pc + 3) ls (.int r :: rest))) : W p l e R s m args below meth c H locs cells slots Q (F0 m pc ls st0) := by
  subst hst
  refine va_calli (A1 := AA E) (va_runS (As := As) (rest := rest) X.1 hM ⟨mw_cb X pk hlk hR hrm, X.1.2.2.2.2 _ hsy⟩ ⟨Wd_blind, mw_pre X hP⟩ rfl hlen hls rfl (lv_room hW) hdg hcs) hS (fun q _ h => X.2.2.2 q h) X.2.2.2 (fun r1 u t H1 locs1 ht _ hr hB _ _ hS1 => ?_)
  subst hr
  exact kk H1 locs1 (by rw [← ht]; exact hB.1) hS1
theorem mw_callSv {C : String} {y : MethodName} {bytes : ByteArray} {maxL n index : Nat} {ret : Option FieldType} {rm : Room} {As st0 : List Value} {M1 : Mem} (X : Cx E A p s m c args cc nL own) (hM : Met l y (Wm y bytes maxL ret) rm (va_Pc As (Wd E M)) (QV E M1) 0 0 (AA E)) (pk : Pk C y bytes maxL ret n) (hsy : Cond.static y ∈ wsL_law) (hlk : Cond.methodLink own index y ∈ wsL_law) (hR : rm.frames + 1 ≤ R.frames ∧ 8 + (maxL + 11) + rm.locals ≤ R.locals) (hrm : rm.cells = 0 ∧ rm.slots = 0) (hP : va_P E.1 vwCl (wl E M) H) (hS : va_S A H0 H locs) (hlen : As.length = n) (hls : ls.size = nL) (hW : (rest.map fun v => v.category).sum ≤ 8) (hcs : cells ≤ R.cells ∧ slots ≤ R.slots) (hst : st0 = As.reverse ++ rest) (hdg : decode cc pc = .ok (.invokestatic index, 3))
    (kk : ∀ (H1 : Heap) (locs1 : List Loc), va_P E.1 vwCl (wl E M1) H1 → va_S A H0 H1 locs1 → W p l e R s m args below meth c H1 locs1 cells slots Q (F0 m (pc + 3) ls rest)) : W p l e R s m args below meth c H locs cells slots Q (F0 m pc ls st0) := by
  subst hst
  refine va_callv (A1 := AA E) (va_runS (As := As) (rest := rest) X.1 hM ⟨mw_cb X pk hlk hR hrm, X.1.2.2.2.2 _ hsy⟩ ⟨Wd_blind, mw_pre X hP⟩ rfl hlen hls rfl (lv_room hW) hdg hcs) hS (fun q _ h => X.2.2.2 q h) X.2.2.2 (fun u t H1 locs1 ht _ hr hB _ _ hS1 => ?_)
  exact kk H1 locs1 (by rw [← ht]; exact hB.1) hS1
/-! ends -/
theorem mw_iret {r0 v : Int32} {M0 : Mem} (X : Cx E (AA E) p s m c args cc nL own) (hr : meth.sig.returnType = some .int) (hlocks : meth.locks = false) (hP : va_P E.1 vwCl (wl E M) H) (hS : va_S (AA E) s.heap H locs) (hv : v = r0) (hM : M = M0) (hdg : decode cc pc = .ok (.ireturn, 1)) : W p l e R s m args below meth c H locs 0 0 (MQ below (QI E r0 M0) args s 0 0 (AA E)) (F0 m pc ls [.int v]) := by
  subst hv; subst hM
  exact W.iret X.1.1 X.1.2.1 hr (fun t ht hW => ⟨⟨v, (), rfl, rfl, by rw [ht]; exact hP, va_K.moved hW.alike X.2.1.1, X.2.1.2.warm hW⟩, hS.F ht⟩) hS.2.2 hdg hlocks
theorem mw_zret {r0 v : Int32} {M0 : Mem} (X : Cx E (AA E) p s m c args cc nL own) (hr : meth.sig.returnType = some .boolean) (hlocks : meth.locks = false) (hP : va_P E.1 vwCl (wl E M) H) (hS : va_S (AA E) s.heap H locs) (hB : isB v) (hv : v = r0) (hM : M = M0) (hdg : decode cc pc = .ok (.ireturn, 1)) : W p l e R s m args below meth c H locs 0 0 (MQ below (QI E r0 M0) args s 0 0 (AA E)) (F0 m pc ls [.int v]) := by
  subst hv; subst hM
  exact W.zret X.1.1 X.1.2.1 hr (isB_n hB) (fun t ht hW => ⟨⟨v, (), rfl, rfl, by rw [ht]; exact hP, va_K.moved hW.alike X.2.1.1, X.2.1.2.warm hW⟩, hS.F ht⟩) hS.2.2 hdg hlocks
theorem mw_vret {M0 : Mem} (X : Cx E (AA E) p s m c args cc nL own) (hr : meth.sig.returnType = none) (hlocks : meth.locks = false) (hP : va_P E.1 vwCl (wl E M) H) (hS : va_S (AA E) s.heap H locs) (hM : M = M0) (hdg : decode cc pc = .ok (.return_, 1)) : W p l e R s m args below meth c H locs 0 0 (MQ below (QV E M0) args s 0 0 (AA E)) (F0 m pc ls []) := by
  subst hM
  exact W.vret X.1.1 X.1.2.1 hr (fun t ht hW => ⟨⟨(), rfl, trivial, by rw [ht]; exact hP, va_K.moved hW.alike X.2.1.1, X.2.1.2.warm hW⟩, hS.F ht⟩) hS.2.2 hdg hlocks
theorem mw_aret {g g0 : Nat} {M0 : Mem} {C : String} (X : Cx E (AA E) p s m c args cc nL own) (hr : meth.sig.returnType = some (.object C)) (hlocks : meth.locks = false) (hP : va_P E.1 vwCl (wl E M) H) (hS : va_S (AA E) s.heap H locs) (hv : g = g0) (hM : M = M0) (hdg : decode cc pc = .ok (.areturn, 1)) : W p l e R s m args below meth c H locs 0 0 (MQ below (QR E g0 M0) args s 0 0 (AA E)) (F0 m pc ls [.ref (E.2.2 g 0)]) := by
  subst hv; subst hM
  exact W.aret X.1.1 X.1.2.1 hr (Or.inl ⟨C, rfl⟩) (Or.inr ⟨_, rfl⟩) (fun t ht hW => ⟨⟨(), E.2.2 g 0, rfl, trivial, rfl, by rw [ht]; exact hP, va_K.moved hW.alike X.2.1.1, X.2.1.2.warm hW⟩, hS.F ht⟩) hS.2.2 hdg hlocks
end MW
theorem Met_ofWF {l : Launch} {y : MethodName} {ws ws' : List Cond} {rm : Room} {Pc : Array Value → State → Prop} {Qc : Array Value → State → Outcome → State → Prop} {mc ms : Nat} {free : Addr → Prop} {cc : ByteArray} {maxL : Nat} {ret : Option FieldType}
    (hy : plainFor y = true) (hw : ws = Cond.code y cc maxL ret :: ws')
    (body : ∀ p e s m args below meth c s₁, BodyLoose p l y (headSpec ws rm) cc maxL ret e s m args below meth c s₁ → c.maxLocals = maxL → Pc args s →
      W p l e (headSpec ws rm).room s m args below meth c s.heap [] 0 0 (MQ below Qc args s mc ms free) (entryFrame m args maxL)) : Met l y ws rm Pc Qc mc ms free := by
  refine MetFree.of_bodySF (code := cc) (maxLocals := maxL) (ret := ret) hy ?_ ?_
  · intro args s m h hn
    obtain ⟨meth, c, h1, h2, h3, h4, h5, h6, -, -⟩ := Cond.code_spec hn (atoms_spec (ws := ws) h _ (by rw [hw]; exact List.mem_cons_self))
    exact ⟨meth, c, h1, h2, h3, h4, h5, h6⟩
  · intro p e s m args below meth c s₁ B hml hP _
    have hh0 : s₁.heap = s.heap := by rw [B.state]; rfl
    obtain ⟨t, a1, o, b1, b2, b3⟩ := body p e s m args below meth c s₁ B hml hP s₁ hh0 (Stand.of_body B)
    exact ⟨t, o, a1, b1, b2, ⟨b3.1, b3.2⟩⟩
end
section
/-! rows for longs, for the rows that a call makes, and for the script -/
def ldl (M : Mem) (i : Nat) : Int64 := jl (M 11 31) i
def stl (M : Mem) (i : Nat) (v : Int64) : Mem := sr M 11 31 (jset (M 11 31) i v)
/-- the world with one more row of the law's own at the cell q -/
def exE (E : En) (r q : Nat) : En := (E.1, (E.2.1.1, E.2.1.2.1, E.2.1.2.2.1, E.2.1.2.2.2.1, tau E + 1), fun g' r' => if g' = 11 ∧ r' = r then q else E.2.2 g' r')
theorem cel_ad {E E1 : En} (h1 : E1.2.1.1 = E.2.1.1) (h2 : E1.2.1.2.1 = E.2.1.2.1) (h3 : E1.2.1.2.2.1 = E.2.1.2.2.1) (h4 : E1.2.1.2.2.2.1 = E.2.1.2.2.2.1) (h : ∀ g r, r < 32 → E1.2.2 g r = E.2.2 g r) (g r : Nat) (f : Nat → Int32) : cel E1 g r f = cel E g r f := by
  unfold cel
  split <;> simp only [h1, h2, h3, h4, h _ 0 (by decide), h _ 1 (by decide), h _ 2 (by decide), h _ 3 (by decide), h _ 4 (by decide), h _ 5 (by decide), h _ 6 (by decide), h _ 7 (by decide), h _ 8 (by decide), h _ 9 (by decide), h _ 10 (by decide), h _ 11 (by decide), h _ 12 (by decide), h _ 13 (by decide), h _ 14 (by decide), h _ 15 (by decide), h _ 16 (by decide), h _ 17 (by decide), h _ 18 (by decide), h _ 20 (by decide), h _ 21 (by decide), h _ 22 (by decide), h _ 23 (by decide), h _ 24 (by decide), h _ 25 (by decide), h _ 26 (by decide)]
theorem cel_ex {E : En} {r q : Nat} (hr : 32 < r) (g r0 : Nat) (f : Nat → Int32) : cel (exE E r q) g r0 f = cel E g r0 f :=
  cel_ad (E := E) (E1 := exE E r q) rfl rfl rfl rfl (fun g' r' h => if_neg (fun e => by omega)) g r0 f
theorem ix_ex {E : En} {r q : Nat} (ht : tmpl[tau E]? = some (11, r)) : ix (exE E r q) = ix E ++ [(11, r)] := by
  show idx0 ++ tmpl.take (tau E + 1) = idx0 ++ tmpl.take (tau E) ++ [(11, r)]
  rw [List.append_assoc, List.take_add_one, ht]
  rfl
theorem tmp_r {E : En} {r : Nat} (ht : tmpl[tau E]? = some (11, r)) : (11, r) ∉ ix E ∧ 32 < r := by
  have h0 : ∀ x ∈ idx0, x.1 = 11 → x.2 < 33 := by decide +kernel
  have h2 : (tau E = 0 ∧ r = 33) ∨ (tau E = 1 ∧ r = 34) := by
    rcases Nat.lt_or_ge (tau E) 2 with h | h
    · rcases (show tau E = 0 ∨ tau E = 1 by omega) with e | e
      · rw [e] at ht; exact Or.inl ⟨e, by have := Option.some.inj ht; exact (congrArg Prod.snd this).symm⟩
      · rw [e] at ht; exact Or.inr ⟨e, by have := Option.some.inj ht; exact (congrArg Prod.snd this).symm⟩
    · rw [List.getElem?_eq_none (by exact h)] at ht; cases ht
  refine ⟨fun hm => ?_, by rcases h2 with h | h <;> omega⟩
  rcases List.mem_append.mp hm with h | h
  · have := h0 _ h rfl
    rcases h2 with h | h <;> simp only [] at this <;> omega
  · rcases h2 with ⟨e, rfl⟩ | ⟨e, rfl⟩ <;> rw [e] at h <;> revert h <;> decide
theorem wl_ex {E : En} {r q : Nat} (ht : tmpl[tau E]? = some (11, r)) (M : Mem) : wl (exE E r q) M = wl E M ++ [(q, cel E 11 r (M 11 r))] := by
  obtain ⟨h1, h2⟩ := tmp_r ht
  unfold wl
  rw [ix_ex ht, List.map_append]
  congr 1
  · refine List.map_congr_left fun x hx => ?_
    rw [cel_ex h2]
    have : (exE E r q).2.2 x.1 x.2 = E.2.2 x.1 x.2 := if_neg (fun e => h1 (by rw [← e.1, ← e.2]; exact hx))
    rw [this]
  · show [((exE E r q).2.2 11 r, cel (exE E r q) 11 r (M 11 r))] = _
    rw [cel_ex h2]
    have : (exE E r q).2.2 11 r = q := if_pos ⟨rfl, rfl⟩
    rw [this]
theorem wl_off {E : En} {r : Nat} (ht : (11, r) ∉ ix E) (M : Mem) (f : Nat → Int32) : wl E (sr M 11 r f) = wl E M := by
  refine List.map_congr_left fun x hx => ?_
  rw [sr_ne]
  rintro ⟨e1, e2⟩
  exact ht (by rw [← e1, ← e2]; exact hx)
theorem ex_back {E E1 : En} {r q : Nat} (e : E1 = exE E r q) (ht : tmpl[tau E]? = some (11, r)) {M : Mem} {H : Heap} (hP : va_P E1.1 vwCl (wl E1 M) H) : va_P E.1 vwCl (wl E M) H := by
  subst e
  rw [wl_ex ht] at hP
  intro k x hx
  exact hP k x (by rw [List.getElem?_append_left (List.getElem?_eq_some_iff.mp hx).1]; exact hx)
/-- contracts of what makes rows of its own -/
def WdS (E : En) (M : Mem) (sz : Nat) (U : State) : Prop := U.heap.size = sz ∧ Wd E M U
def AS (E : En) (sz : Nat) : Nat → Prop := fun q => AA E q ∨ sz ≤ q
def QIs (E : En) (sz : Nat) (r : Int32) (M : Mem) : Array Value → State → Outcome → State → Prop := va_Qi (fun r' (_ : Unit) => r' = r) (fun _ t => Wd E M t) (AS E sz)
theorem WdS_blind {E : En} {M : Mem} {sz : Nat} {av : List Value} : FrameBlind (va_Pc av (WdS E M sz)) := fun a U g mk q => ⟨q.1, q.2.1, (Wd_blind (av := av) a U g mk ⟨q.1, q.2.2⟩).2⟩
/-- the script among what a call needs -/
def WdX (E : En) (M : Mem) (b L : Nat) (xs : Nat → Int32) (U : State) : Prop := va_X b L xs U U.heap ∧ b < U.heap.size ∧ ¬ AA E b ∧ Wd E M U
theorem WdX_blind {E : En} {M : Mem} {b L : Nat} {xs : Nat → Int32} {av : List Value} : FrameBlind (va_Pc av (WdX E M b L xs)) := fun a U g mk q => ⟨q.1, va_X.moved (u := U) (U := U.calling g mk a) (Vm.Alike.refl U.vm) q.2.1, q.2.2.1, q.2.2.2.1, (Wd_blind (av := av) a U g mk ⟨q.1, q.2.2.2.2⟩).2⟩
section MW2
variable {p : Program} {l : Launch} {e : Env} {R : Room} {s : State} {m : MethodId} {args : Array Value} {below : List Frame} {meth : Method} {c : Code} {H : Heap} {locs : List Loc} {cells slots : Nat} {Q : State → Prop} {cc : ByteArray} {pc nL : Nat} {ls : Array Slot} {rest : List Value} {E : En} {M : Mem} {own : String} {H0 : Heap} {A : Nat → Prop}
theorem mw_lld (X : Cx E A p s m c args cc nL own) (hP : va_P E.1 vwCl (wl E M) H) {i : Int32} (hin : vp_in i 64) (hdg : decode cc pc = .ok (.laload, 1)) (kk : W p l e R s m args below meth c H locs cells slots Q (F0 m (pc + 1) ls (.long (ldl M i.toNatClampNeg) :: rest))) : W p l e R s m args below meth c H locs cells slots Q (F0 m pc ls (.int i :: .ref (E.2.2 11 31) :: rest)) := by
  obtain ⟨j, -, hj⟩ := wl_at (E := E) (M := M) (ix_b (show (11, 31) ∈ idx0 by decide))
  exact va_lald X.1.1 X.1.2.1 X.2.1.1 hP j 3 (f := jl (M 11 31)) hj rfl hin hdg kk
theorem mw_lst (X : Cx E A p s m c args cc nL own) (hP : va_P E.1 vwCl (wl E M) H) (hS : va_S A H0 H locs) {i : Int32} {x : Int64} {j : Nat} (hin : vp_in i 64) (hj : i.toNatClampNeg = j) (hdg : decode cc pc = .ok (.lastore, 1)) (kk : ∀ (H1 : Heap) (locs1 : List Loc) (M1 : Mem), M1 = stl M j x → va_P E.1 vwCl (wl E M1) H1 → va_S A H0 H1 locs1 → W p l e R s m args below meth c H1 locs1 cells slots Q (F0 m (pc + 1) ls rest)) : W p l e R s m args below meth c H locs cells slots Q (F0 m pc ls (.long x :: .int i :: .ref (E.2.2 11 31) :: rest)) := by
  obtain ⟨q, h0, hq⟩ := wl_at (E := E) (M := M) (ix_b (show (11, 31) ∈ idx0 by decide))
  subst hj
  refine va_last X.1.1 X.1.2.1 X.2.1.1 hP (wl_D X.2.2.1 X.2.2.2 M) hS q 3 (f := jl (M 11 31)) hq rfl hin hdg (fun H1 locs1 hP1 _ hS1 => ?_)
  rw [← jl_jset, wl_set h0 (f := jset (M 11 31) i.toNatClampNeg x) (show cel E 11 31 (jset (M 11 31) i.toNatClampNeg x) = .inl (E.2.1.2.2.2.1, 64, .inr (.inl (jl (jset (M 11 31) i.toNatClampNeg x)))) from rfl)] at hP1
  exact kk H1 locs1 _ rfl hP1 hS1
theorem mw_new (X : Cx E A p s m c args cc nL own) {r : Nat} (ht : tmpl[tau E]? = some (11, r)) (hw : Cond.arrayClass .int ∈ wsL_law) (hP : va_P E.1 vwCl (wl E M) H) (hS : va_S A H0 H locs) (hA : ∀ x, H0.size ≤ x → A x) {n : Int32} {N' : Nat} (hn : ¬ n < 0) (hN : n.toNatClampNeg = N') (hbytes : N' * componentBytes .int ≤ 536870912) (hcells : cells + 1 ≤ R.cells) (hslots : slots + N' ≤ R.slots) (hc : cel E 11 r (fun _ => 0) = .inl (E.2.1.1, N', .inl (fun _ => 0))) (hdg : decode cc pc = .ok (.newarray .int, 2))
    (kk : ∀ (E1 : En) (q : Nat) (H1 : Heap) (M1 : Mem), E1 = exE E r q → M1 = sr M 11 r (fun _ => 0) → Cx E1 A p s m c args cc nL own → va_P E1.1 vwCl (wl E1 M1) H1 → va_S A H0 H1 locs → W p l e R s m args below meth c H1 locs (cells + 1) (slots + N') Q (F0 m (pc + 2) ls (.ref (E1.2.2 11 r) :: rest))) : W p l e R s m args below meth c H locs cells slots Q (F0 m pc ls (.int n :: rest)) := by
  have hD := wl_D X.2.2.1 X.2.2.2 M
  refine va_newa (atype := .int) X.1.1 X.1.2.1 (X.1.2.2.2.2 _ hw) rfl X.2.1.1 hP hD hS hA (a0 := (N', .inl (fun _ => 0))) (fun _ => rfl) hn hN hbytes hcells hslots hdg (fun q cA H1 hK1 hP1 hD1 hS1 => ?_)
  have h1 : s.vm.findClass ("[" ++ (FieldType.int).toString) = some cA := (hK1.2 4 (cA, .int) rfl).2
  have h2 : s.vm.findClass ("[" ++ (FieldType.int).toString) = some E.2.1.1 := (hK1.2 0 (E.2.1.1, .int) rfl).2
  have h3 : cA = E.2.1.1 := Option.some.inj (h1.symm.trans h2)
  subst h3
  obtain ⟨n1, n2⟩ := tmp_r ht
  have hw1 : wl (exE E r q) (sr M 11 r (fun _ => 0)) = wl E M ++ [(q, .inl (E.2.1.1, N', .inl (fun _ => 0)))] := by
    rw [wl_ex ht, wl_off n1, sr_at, hc]
  have hP2 : va_P (exE E r q).1 vwCl (wl (exE E r q) (sr M 11 r (fun _ => 0))) H1 := by rw [hw1]; exact hP1
  have hD2 : va_D A (wl (exE E r q) (sr M 11 r (fun _ => 0))) := by rw [hw1]; exact hD1
  have eq : (exE E r q).2.2 11 r = q := if_pos ⟨rfl, rfl⟩
  have g := kk (exE E r q) q H1 (sr M 11 r (fun _ => 0)) rfl rfl ⟨X.1, X.2.1, ?_, ?_⟩ hP2 hS1
  · rw [eq] at g; exact g
  · intro x hx y hy hxy
    obtain ⟨i1, hix⟩ := List.getElem?_of_mem hx
    obtain ⟨i2, hiy⟩ := List.getElem?_of_mem hy
    have h1 := hD2.1 i1 i2 _ _ (wl_get hix) (wl_get hiy) hxy
    subst h1
    rw [hix] at hiy
    exact Option.some.inj hiy
  · rintro z ⟨x, hx, rfl⟩
    obtain ⟨i1, hix⟩ := List.getElem?_of_mem hx
    exact hD2.2 i1 _ (wl_get hix)
theorem mw_callSx {C : String} {y : MethodName} {bytes : ByteArray} {maxL n index mc ms : Nat} {ret : Option FieldType} {rm : Room} {As st0 : List Value} {M1 : Mem} {r : Int32} (X : Cx E A p s m c args cc nL own) (hA : ∀ x, H0.size ≤ x → A x) (hM : Met l y (Wm y bytes maxL ret) rm (va_Pc As (WdS E M H.size)) (QIs E H.size r M1) mc ms (AS E H.size)) (pk : Pk C y bytes maxL ret n) (hsy : Cond.static y ∈ wsL_law) (hlk : Cond.methodLink own index y ∈ wsL_law) (hR : rm.frames + 1 ≤ R.frames ∧ 8 + (maxL + 11) + rm.locals ≤ R.locals) (hrm : rm.cells = mc ∧ rm.slots = ms) (hP : va_P E.1 vwCl (wl E M) H) (hS : va_S A H0 H locs) (hlen : As.length = n) (hls : ls.size = nL) (hW : (rest.map fun v => v.category).sum ≤ 8) (hcs : cells + mc ≤ R.cells ∧ slots + ms ≤ R.slots) (hst : st0 = As.reverse ++ rest) (hdg : decode cc pc = .ok (.invokestatic index, 3))
    (kk : ∀ (H1 : Heap) (locs1 : List Loc), va_P E.1 vwCl (wl E M1) H1 → va_S A H0 H1 locs1 → W p l e R s m args below meth c H1 locs1 (cells + mc) (slots + ms) Q (F0 m (pc + 3) ls (.int r :: rest))) : W p l e R s m args below meth c H locs cells slots Q (F0 m pc ls st0) := by
  subst hst
  have hf : ∀ q, AS E H.size q → A q := fun q h => h.elim (X.2.2.2 q) (fun h => hA q (Nat.le_trans hS.1 h))
  refine va_calli (A1 := AS E H.size) (va_runS (As := As) (rest := rest) X.1 hM ⟨callB_of n X.1.2.2.2.2 (Wm_good (y' := y) (b' := bytes) (maxL' := maxL) (ret' := ret) pk.1) rfl hrm.1 hrm.2 (X.1.2.2.2.2 _ pk.2.1) (X.1.2.2.2.2 _ hlk) pk.2.2.2 hR, X.1.2.2.2.2 _ hsy⟩ ⟨WdS_blind, fun U hU hW => ⟨rfl, by rw [hU], (mw_pre X hP (av := As) U hU hW).2⟩⟩ rfl hlen hls rfl (lv_room hW) hdg hcs) hS (fun q _ h => hf q h) hf (fun r1 u t H1 locs1 ht _ hr hB _ _ hS1 => ?_)
  subst hr
  exact kk H1 locs1 (by rw [← ht]; exact hB.1) hS1
theorem mw_callSc {C : String} {y : MethodName} {bytes : ByteArray} {maxL n index b L : Nat} {xs : Nat → Int32} {ret : Option FieldType} {rm : Room} {As st0 : List Value} {M1 : Mem} {r : Int32} (X : Cx E A p s m c args cc nL own) (hM : Met l y (Wm y bytes maxL ret) rm (va_Pc As (WdX E M b L xs)) (QI E r M1) 0 0 (AA E)) (pk : Pk C y bytes maxL ret n) (hsy : Cond.static y ∈ wsL_law) (hlk : Cond.methodLink own index y ∈ wsL_law) (hR : rm.frames + 1 ≤ R.frames ∧ 8 + (maxL + 11) + rm.locals ≤ R.locals) (hrm : rm.cells = 0 ∧ rm.slots = 0) (hX : va_X b L xs s H0) (hbl : b < H0.size) (hbA : ¬ A b) (hP : va_P E.1 vwCl (wl E M) H) (hS : va_S A H0 H locs) (hlen : As.length = n) (hls : ls.size = nL) (hW : (rest.map fun v => v.category).sum ≤ 8) (hcs : cells ≤ R.cells ∧ slots ≤ R.slots) (hst : st0 = As.reverse ++ rest) (hdg : decode cc pc = .ok (.invokestatic index, 3))
    (kk : ∀ (H1 : Heap) (locs1 : List Loc), va_P E.1 vwCl (wl E M1) H1 → va_S A H0 H1 locs1 → W p l e R s m args below meth c H1 locs1 cells slots Q (F0 m (pc + 3) ls (.int r :: rest))) : W p l e R s m args below meth c H locs cells slots Q (F0 m pc ls st0) := by
  subst hst
  refine va_calli (A1 := AA E) (va_runS (As := As) (rest := rest) X.1 hM ⟨mw_cb X pk hlk hR hrm, X.1.2.2.2.2 _ hsy⟩ ⟨WdX_blind, fun U hU hW => ⟨rfl, va_X.moved hW.alike (by rw [hU]; exact hX.kept (hS.2.1 b hbl hbA)), by rw [hU]; exact Nat.lt_of_lt_of_le hbl hS.1, fun h => hbA (X.2.2.2 b h), (mw_pre X hP (av := As) U hU hW).2⟩⟩ rfl hlen hls rfl (lv_room hW) hdg hcs) hS (fun q _ h => X.2.2.2 q h) X.2.2.2 (fun r1 u t H1 locs1 ht _ hr hB _ _ hS1 => ?_)
  subst hr
  exact kk H1 locs1 (by rw [← ht]; exact hB.1) hS1
theorem mw_iretS {r0 v : Int32} {M0 : Mem} {sz : Nat} (X : Cx E (AS E sz) p s m c args cc nL own) (hr : meth.sig.returnType = some .int) (hlocks : meth.locks = false) (hP : va_P E.1 vwCl (wl E M) H) (hS : va_S (AS E sz) s.heap H locs) (hv : v = r0) (hM : M = M0) (hdg : decode cc pc = .ok (.ireturn, 1)) : W p l e R s m args below meth c H locs cells slots (MQ below (QIs E sz r0 M0) args s cells slots (AS E sz)) (F0 m pc ls [.int v]) := by
  subst hv; subst hM
  exact W.iret X.1.1 X.1.2.1 hr (fun t ht hW => ⟨⟨v, (), rfl, rfl, by rw [ht]; exact hP, va_K.moved hW.alike X.2.1.1, X.2.1.2.warm hW⟩, hS.F ht⟩) hS.2.2 hdg hlocks
theorem mw_zretS {r0 v : Int32} {M0 : Mem} {sz : Nat} (X : Cx E (AS E sz) p s m c args cc nL own) (hr : meth.sig.returnType = some .boolean) (hlocks : meth.locks = false) (hP : va_P E.1 vwCl (wl E M) H) (hS : va_S (AS E sz) s.heap H locs) (hB : isB v) (hv : v = r0) (hM : M = M0) (hdg : decode cc pc = .ok (.ireturn, 1)) : W p l e R s m args below meth c H locs cells slots (MQ below (QIs E sz r0 M0) args s cells slots (AS E sz)) (F0 m pc ls [.int v]) := by
  subst hv; subst hM
  exact W.zret X.1.1 X.1.2.1 hr (isB_n hB) (fun t ht hW => ⟨⟨v, (), rfl, rfl, by rw [ht]; exact hP, va_K.moved hW.alike X.2.1.1, X.2.1.2.warm hW⟩, hS.F ht⟩) hS.2.2 hdg hlocks
end MW2
end
