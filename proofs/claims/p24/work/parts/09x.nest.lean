def nestF : List (String × Nat × String × String × String) := [("SealedGroups$Journal", 82, "SealedGroups$Pages", "starts", "[I"), ("SealedGroups$Store", 148, "SealedGroups$Pages", "cached", "I"), ("SealedGroups", 132, "SealedGroups$Pages", "cached", "I"), ("SealedGroups$Journal", 67, "SealedGroups$Pages", "dirty", "I"), ("SealedGroups$Store", 139, "SealedGroups$Pages", "dirty", "I"), ("SealedGroups", 135, "SealedGroups$Pages", "dirty", "I"), ("SealedGroups$Journal", 76, "SealedGroups$Groups", "begins", "[I"), ("SealedGroups$Journal", 62, "SealedGroups$Groups", "open", "I"), ("SealedGroups$Store", 171, "SealedGroups$Groups", "open", "I"), ("SealedGroups", 128, "SealedGroups$Groups", "open", "I"), ("SealedGroups$Restarter", 105, "SealedGroups$Journal", "kinds", "[I"), ("SealedGroups$Store", 124, "SealedGroups$Journal", "kinds", "[I"), ("SealedGroups$Restarter", 99, "SealedGroups$Journal", "owners", "[I"), ("SealedGroups$Store", 116, "SealedGroups$Journal", "owners", "[I"), ("SealedGroups$Restarter", 102, "SealedGroups$Journal", "pageNumbers", "[I"), ("SealedGroups$Store", 133, "SealedGroups$Journal", "pageNumbers", "[I"), ("SealedGroups$Restarter", 73, "SealedGroups$Journal", "olds", "[I"), ("SealedGroups$Store", 136, "SealedGroups$Journal", "olds", "[I"), ("SealedGroups$Restarter", 120, "SealedGroups$Journal", "news", "[I"), ("SealedGroups$Restarter", 127, "SealedGroups$Journal", "targets", "[I"), ("SealedGroups$Restarter", 89, "SealedGroups$Journal", "checkpointStarts", "[I"), ("SealedGroups$Restarter", 92, "SealedGroups$Journal", "first", "I"), ("SealedGroups$Store", 84, "SealedGroups$Journal", "size", "I"), ("SealedGroups$Restarter", 70, "SealedGroups$Journal", "latestCheckpoint", "I"), ("SealedGroups$Store", 155, "SealedGroups$Journal", "latestCheckpoint", "I"), ("SealedGroups$Restarter", 33, "SealedGroups$Store", "pages", "LSealedGroups$Pages;"), ("SealedGroups", 103, "SealedGroups$Store", "pages", "LSealedGroups$Pages;"), ("SealedGroups", 85, "SealedGroups$Store", "groups", "LSealedGroups$Groups;"), ("SealedGroups$Restarter", 25, "SealedGroups$Store", "journal", "LSealedGroups$Journal;"), ("SealedGroups", 94, "SealedGroups$Store", "journal", "LSealedGroups$Journal;"), ("SealedGroups$Restarter", 18, "SealedGroups$Store", "stopped", "Z"), ("SealedGroups", 115, "SealedGroups$Store", "stopped", "Z"), ("SealedGroups$Restarter", 55, "SealedGroups$Store", "doneAgain", "I"), ("SealedGroups", 138, "SealedGroups$Store", "doneAgain", "I"), ("SealedGroups", 141, "SealedGroups$History", "size", "I"), ("SealedGroups", 144, "SealedGroups$OrderText", "length", "I")]
def nestM : List (String × Nat × MethodName) := [("SealedGroups", 9, yX6_init), ("SealedGroups$Store", 11, yX4_init), ("SealedGroups$Store", 20, yX0_init), ("SealedGroups$Store", 27, yX2_init), ("SealedGroups", 21, yX5_init), ("SealedGroups$History", 17, yX6_init), ("SealedGroups", 35, yX3_init)]
abbrev nwF (q : String × Nat × String × String × String) : Cond := .fieldLinkNest q.1 q.2.1 q.2.2.1 q.2.2.2.1 q.2.2.2.2 "SealedGroups"
abbrev nwM (q : String × Nat × MethodName) : Cond := .methodLinkNest q.1 q.2.1 q.2.2 "SealedGroups"
/-- what the tables say of the class's private members, used among its nested classes -/
def NK (U : State) : Prop := (∀ q ∈ nestF, va_Nw (nwF q) U) ∧ ∀ q ∈ nestM, va_Nw (nwM q) U
theorem NK.warm {s U : State} (hW : s.WarmedH U.vm) (h : NK s) : NK U := ⟨fun q hq => va_Nw.warmF hW (h.1 q hq), fun q hq => va_Nw.warmM hW (h.2 q hq)⟩
theorem NK.same {u U : State} (e : u.vm = U.vm) (h : NK u) : NK U := ⟨fun q hq => va_Nw.same rfl e (h.1 q hq), fun q hq => va_Nw.same rfl e (h.2 q hq)⟩
theorem nestF_in : ∀ q ∈ nestF, nwF q ∈ lw_tbl := by
  intro q hq
  by_cases e0 : q = ("SealedGroups$Journal", 82, "SealedGroups$Pages", "starts", "[I")
  · subst e0; exact wt_1 (List.mem_of_getElem? (i := 37) (by decide +kernel))
  by_cases e1 : q = ("SealedGroups$Store", 148, "SealedGroups$Pages", "cached", "I")
  · subst e1; exact wt_1 (List.mem_of_getElem? (i := 39) (by decide +kernel))
  by_cases e2 : q = ("SealedGroups", 132, "SealedGroups$Pages", "cached", "I")
  · subst e2; exact wt_1 (List.mem_of_getElem? (i := 40) (by decide +kernel))
  by_cases e3 : q = ("SealedGroups$Journal", 67, "SealedGroups$Pages", "dirty", "I")
  · subst e3; exact wt_1 (List.mem_of_getElem? (i := 42) (by decide +kernel))
  by_cases e4 : q = ("SealedGroups$Store", 139, "SealedGroups$Pages", "dirty", "I")
  · subst e4; exact wt_1 (List.mem_of_getElem? (i := 43) (by decide +kernel))
  by_cases e5 : q = ("SealedGroups", 135, "SealedGroups$Pages", "dirty", "I")
  · subst e5; exact wt_1 (List.mem_of_getElem? (i := 44) (by decide +kernel))
  by_cases e6 : q = ("SealedGroups$Journal", 76, "SealedGroups$Groups", "begins", "[I")
  · subst e6; exact wt_1 (List.mem_of_getElem? (i := 68) (by decide +kernel))
  by_cases e7 : q = ("SealedGroups$Journal", 62, "SealedGroups$Groups", "open", "I")
  · subst e7; exact wt_1 (List.mem_of_getElem? (i := 72) (by decide +kernel))
  by_cases e8 : q = ("SealedGroups$Store", 171, "SealedGroups$Groups", "open", "I")
  · subst e8; exact wt_1 (List.mem_of_getElem? (i := 73) (by decide +kernel))
  by_cases e9 : q = ("SealedGroups", 128, "SealedGroups$Groups", "open", "I")
  · subst e9; exact wt_1 (List.mem_of_getElem? (i := 74) (by decide +kernel))
  by_cases e10 : q = ("SealedGroups$Restarter", 105, "SealedGroups$Journal", "kinds", "[I")
  · subst e10; exact wt_1 (List.mem_of_getElem? (i := 91) (by decide +kernel))
  by_cases e11 : q = ("SealedGroups$Store", 124, "SealedGroups$Journal", "kinds", "[I")
  · subst e11; exact wt_1 (List.mem_of_getElem? (i := 92) (by decide +kernel))
  by_cases e12 : q = ("SealedGroups$Restarter", 99, "SealedGroups$Journal", "owners", "[I")
  · subst e12; exact wt_1 (List.mem_of_getElem? (i := 94) (by decide +kernel))
  by_cases e13 : q = ("SealedGroups$Store", 116, "SealedGroups$Journal", "owners", "[I")
  · subst e13; exact wt_1 (List.mem_of_getElem? (i := 95) (by decide +kernel))
  by_cases e14 : q = ("SealedGroups$Restarter", 102, "SealedGroups$Journal", "pageNumbers", "[I")
  · subst e14; exact wt_1 (List.mem_of_getElem? (i := 97) (by decide +kernel))
  by_cases e15 : q = ("SealedGroups$Store", 133, "SealedGroups$Journal", "pageNumbers", "[I")
  · subst e15; exact wt_1 (List.mem_of_getElem? (i := 98) (by decide +kernel))
  by_cases e16 : q = ("SealedGroups$Restarter", 73, "SealedGroups$Journal", "olds", "[I")
  · subst e16; exact wt_1 (List.mem_of_getElem? (i := 100) (by decide +kernel))
  by_cases e17 : q = ("SealedGroups$Store", 136, "SealedGroups$Journal", "olds", "[I")
  · subst e17; exact wt_1 (List.mem_of_getElem? (i := 101) (by decide +kernel))
  by_cases e18 : q = ("SealedGroups$Restarter", 120, "SealedGroups$Journal", "news", "[I")
  · subst e18; exact wt_1 (List.mem_of_getElem? (i := 103) (by decide +kernel))
  by_cases e19 : q = ("SealedGroups$Restarter", 127, "SealedGroups$Journal", "targets", "[I")
  · subst e19; exact wt_1 (List.mem_of_getElem? (i := 105) (by decide +kernel))
  by_cases e20 : q = ("SealedGroups$Restarter", 89, "SealedGroups$Journal", "checkpointStarts", "[I")
  · subst e20; exact wt_1 (List.mem_of_getElem? (i := 107) (by decide +kernel))
  by_cases e21 : q = ("SealedGroups$Restarter", 92, "SealedGroups$Journal", "first", "I")
  · subst e21; exact wt_1 (List.mem_of_getElem? (i := 109) (by decide +kernel))
  by_cases e22 : q = ("SealedGroups$Store", 84, "SealedGroups$Journal", "size", "I")
  · subst e22; exact wt_1 (List.mem_of_getElem? (i := 111) (by decide +kernel))
  by_cases e23 : q = ("SealedGroups$Restarter", 70, "SealedGroups$Journal", "latestCheckpoint", "I")
  · subst e23; exact wt_1 (List.mem_of_getElem? (i := 114) (by decide +kernel))
  by_cases e24 : q = ("SealedGroups$Store", 155, "SealedGroups$Journal", "latestCheckpoint", "I")
  · subst e24; exact wt_1 (List.mem_of_getElem? (i := 115) (by decide +kernel))
  by_cases e25 : q = ("SealedGroups$Restarter", 33, "SealedGroups$Store", "pages", "LSealedGroups$Pages;")
  · subst e25; exact wt_1 (List.mem_of_getElem? (i := 143) (by decide +kernel))
  by_cases e26 : q = ("SealedGroups", 103, "SealedGroups$Store", "pages", "LSealedGroups$Pages;")
  · subst e26; exact wt_1 (List.mem_of_getElem? (i := 144) (by decide +kernel))
  by_cases e27 : q = ("SealedGroups", 85, "SealedGroups$Store", "groups", "LSealedGroups$Groups;")
  · subst e27; exact wt_1 (List.mem_of_getElem? (i := 146) (by decide +kernel))
  by_cases e28 : q = ("SealedGroups$Restarter", 25, "SealedGroups$Store", "journal", "LSealedGroups$Journal;")
  · subst e28; exact wt_1 (List.mem_of_getElem? (i := 148) (by decide +kernel))
  by_cases e29 : q = ("SealedGroups", 94, "SealedGroups$Store", "journal", "LSealedGroups$Journal;")
  · subst e29; exact wt_1 (List.mem_of_getElem? (i := 149) (by decide +kernel))
  by_cases e30 : q = ("SealedGroups$Restarter", 18, "SealedGroups$Store", "stopped", "Z")
  · subst e30; exact wt_1 (List.mem_of_getElem? (i := 150) (by decide +kernel))
  by_cases e31 : q = ("SealedGroups", 115, "SealedGroups$Store", "stopped", "Z")
  · subst e31; exact wt_1 (List.mem_of_getElem? (i := 152) (by decide +kernel))
  by_cases e32 : q = ("SealedGroups$Restarter", 55, "SealedGroups$Store", "doneAgain", "I")
  · subst e32; exact wt_1 (List.mem_of_getElem? (i := 154) (by decide +kernel))
  by_cases e33 : q = ("SealedGroups", 138, "SealedGroups$Store", "doneAgain", "I")
  · subst e33; exact wt_1 (List.mem_of_getElem? (i := 155) (by decide +kernel))
  by_cases e34 : q = ("SealedGroups", 141, "SealedGroups$History", "size", "I")
  · subst e34; exact wt_1 (List.mem_of_getElem? (i := 204) (by decide +kernel))
  by_cases e35 : q = ("SealedGroups", 144, "SealedGroups$OrderText", "length", "I")
  · subst e35; exact wt_1 (List.mem_of_getElem? (i := 219) (by decide +kernel))
  simp only [nestF, List.mem_cons, e0, e1, e2, e3, e4, e5, e6, e7, e8, e9, e10, e11, e12, e13, e14, e15, e16, e17, e18, e19, e20, e21, e22, e23, e24, e25, e26, e27, e28, e29, e30, e31, e32, e33, e34, e35, List.not_mem_nil, or_self] at hq
theorem nestM_in : ∀ q ∈ nestM, nwM q ∈ lw_tbl := by
  intro q hq
  by_cases e0 : q = ("SealedGroups", 9, yX6_init)
  · subst e0; exact wt_1 (List.mem_of_getElem? (i := 22) (by decide +kernel))
  by_cases e1 : q = ("SealedGroups$Store", 11, yX4_init)
  · subst e1; exact wt_1 (List.mem_of_getElem? (i := 28) (by decide +kernel))
  by_cases e2 : q = ("SealedGroups$Store", 20, yX0_init)
  · subst e2; exact wt_1 (List.mem_of_getElem? (i := 63) (by decide +kernel))
  by_cases e3 : q = ("SealedGroups$Store", 27, yX2_init)
  · subst e3; exact wt_1 (List.mem_of_getElem? (i := 86) (by decide +kernel))
  by_cases e4 : q = ("SealedGroups", 21, yX5_init)
  · subst e4; exact wt_1 (List.mem_of_getElem? (i := 169) (by decide +kernel))
  by_cases e5 : q = ("SealedGroups$History", 17, yX6_init)
  · subst e5; exact wt_1 (List.mem_of_getElem? (i := 200) (by decide +kernel))
  by_cases e6 : q = ("SealedGroups", 35, yX3_init)
  · subst e6; exact wt_1 (List.mem_of_getElem? (i := 214) (by decide +kernel))
  simp only [nestM, List.mem_cons, e0, e1, e2, e3, e4, e5, e6, List.not_mem_nil, or_self] at hq
theorem NK_of {A : Array Value} {U : State} (h : ∀ w ∈ lw_tbl, w.before A U = true) : NK U := ⟨fun q hq => va_Nw.of rfl (h _ (nestF_in q hq)), fun q hq => va_Nw.of rfl (h _ (nestM_in q hq))⟩
theorem nf_0 : ("SealedGroups$Journal", 82, "SealedGroups$Pages", "starts", "[I") ∈ nestF := List.mem_of_getElem? (i := 0) rfl
theorem nf_1 : ("SealedGroups$Store", 148, "SealedGroups$Pages", "cached", "I") ∈ nestF := List.mem_of_getElem? (i := 1) rfl
theorem nf_2 : ("SealedGroups", 132, "SealedGroups$Pages", "cached", "I") ∈ nestF := List.mem_of_getElem? (i := 2) rfl
theorem nf_3 : ("SealedGroups$Journal", 67, "SealedGroups$Pages", "dirty", "I") ∈ nestF := List.mem_of_getElem? (i := 3) rfl
theorem nf_4 : ("SealedGroups$Store", 139, "SealedGroups$Pages", "dirty", "I") ∈ nestF := List.mem_of_getElem? (i := 4) rfl
theorem nf_5 : ("SealedGroups", 135, "SealedGroups$Pages", "dirty", "I") ∈ nestF := List.mem_of_getElem? (i := 5) rfl
theorem nf_6 : ("SealedGroups$Journal", 76, "SealedGroups$Groups", "begins", "[I") ∈ nestF := List.mem_of_getElem? (i := 6) rfl
theorem nf_7 : ("SealedGroups$Journal", 62, "SealedGroups$Groups", "open", "I") ∈ nestF := List.mem_of_getElem? (i := 7) rfl
theorem nf_8 : ("SealedGroups$Store", 171, "SealedGroups$Groups", "open", "I") ∈ nestF := List.mem_of_getElem? (i := 8) rfl
theorem nf_9 : ("SealedGroups", 128, "SealedGroups$Groups", "open", "I") ∈ nestF := List.mem_of_getElem? (i := 9) rfl
theorem nf_10 : ("SealedGroups$Restarter", 105, "SealedGroups$Journal", "kinds", "[I") ∈ nestF := List.mem_of_getElem? (i := 10) rfl
theorem nf_11 : ("SealedGroups$Store", 124, "SealedGroups$Journal", "kinds", "[I") ∈ nestF := List.mem_of_getElem? (i := 11) rfl
theorem nf_12 : ("SealedGroups$Restarter", 99, "SealedGroups$Journal", "owners", "[I") ∈ nestF := List.mem_of_getElem? (i := 12) rfl
theorem nf_13 : ("SealedGroups$Store", 116, "SealedGroups$Journal", "owners", "[I") ∈ nestF := List.mem_of_getElem? (i := 13) rfl
theorem nf_14 : ("SealedGroups$Restarter", 102, "SealedGroups$Journal", "pageNumbers", "[I") ∈ nestF := List.mem_of_getElem? (i := 14) rfl
theorem nf_15 : ("SealedGroups$Store", 133, "SealedGroups$Journal", "pageNumbers", "[I") ∈ nestF := List.mem_of_getElem? (i := 15) rfl
theorem nf_16 : ("SealedGroups$Restarter", 73, "SealedGroups$Journal", "olds", "[I") ∈ nestF := List.mem_of_getElem? (i := 16) rfl
theorem nf_17 : ("SealedGroups$Store", 136, "SealedGroups$Journal", "olds", "[I") ∈ nestF := List.mem_of_getElem? (i := 17) rfl
theorem nf_18 : ("SealedGroups$Restarter", 120, "SealedGroups$Journal", "news", "[I") ∈ nestF := List.mem_of_getElem? (i := 18) rfl
theorem nf_19 : ("SealedGroups$Restarter", 127, "SealedGroups$Journal", "targets", "[I") ∈ nestF := List.mem_of_getElem? (i := 19) rfl
theorem nf_20 : ("SealedGroups$Restarter", 89, "SealedGroups$Journal", "checkpointStarts", "[I") ∈ nestF := List.mem_of_getElem? (i := 20) rfl
theorem nf_21 : ("SealedGroups$Restarter", 92, "SealedGroups$Journal", "first", "I") ∈ nestF := List.mem_of_getElem? (i := 21) rfl
theorem nf_22 : ("SealedGroups$Store", 84, "SealedGroups$Journal", "size", "I") ∈ nestF := List.mem_of_getElem? (i := 22) rfl
theorem nf_23 : ("SealedGroups$Restarter", 70, "SealedGroups$Journal", "latestCheckpoint", "I") ∈ nestF := List.mem_of_getElem? (i := 23) rfl
theorem nf_24 : ("SealedGroups$Store", 155, "SealedGroups$Journal", "latestCheckpoint", "I") ∈ nestF := List.mem_of_getElem? (i := 24) rfl
theorem nf_25 : ("SealedGroups$Restarter", 33, "SealedGroups$Store", "pages", "LSealedGroups$Pages;") ∈ nestF := List.mem_of_getElem? (i := 25) rfl
theorem nf_26 : ("SealedGroups", 103, "SealedGroups$Store", "pages", "LSealedGroups$Pages;") ∈ nestF := List.mem_of_getElem? (i := 26) rfl
theorem nf_27 : ("SealedGroups", 85, "SealedGroups$Store", "groups", "LSealedGroups$Groups;") ∈ nestF := List.mem_of_getElem? (i := 27) rfl
theorem nf_28 : ("SealedGroups$Restarter", 25, "SealedGroups$Store", "journal", "LSealedGroups$Journal;") ∈ nestF := List.mem_of_getElem? (i := 28) rfl
theorem nf_29 : ("SealedGroups", 94, "SealedGroups$Store", "journal", "LSealedGroups$Journal;") ∈ nestF := List.mem_of_getElem? (i := 29) rfl
theorem nf_30 : ("SealedGroups$Restarter", 18, "SealedGroups$Store", "stopped", "Z") ∈ nestF := List.mem_of_getElem? (i := 30) rfl
theorem nf_31 : ("SealedGroups", 115, "SealedGroups$Store", "stopped", "Z") ∈ nestF := List.mem_of_getElem? (i := 31) rfl
theorem nf_32 : ("SealedGroups$Restarter", 55, "SealedGroups$Store", "doneAgain", "I") ∈ nestF := List.mem_of_getElem? (i := 32) rfl
theorem nf_33 : ("SealedGroups", 138, "SealedGroups$Store", "doneAgain", "I") ∈ nestF := List.mem_of_getElem? (i := 33) rfl
theorem nf_34 : ("SealedGroups", 141, "SealedGroups$History", "size", "I") ∈ nestF := List.mem_of_getElem? (i := 34) rfl
theorem nf_35 : ("SealedGroups", 144, "SealedGroups$OrderText", "length", "I") ∈ nestF := List.mem_of_getElem? (i := 35) rfl
theorem nm_0 : ("SealedGroups", 9, yX6_init) ∈ nestM := List.mem_of_getElem? (i := 0) rfl
theorem nm_1 : ("SealedGroups$Store", 11, yX4_init) ∈ nestM := List.mem_of_getElem? (i := 1) rfl
theorem nm_2 : ("SealedGroups$Store", 20, yX0_init) ∈ nestM := List.mem_of_getElem? (i := 2) rfl
theorem nm_3 : ("SealedGroups$Store", 27, yX2_init) ∈ nestM := List.mem_of_getElem? (i := 3) rfl
theorem nm_4 : ("SealedGroups", 21, yX5_init) ∈ nestM := List.mem_of_getElem? (i := 4) rfl
theorem nm_5 : ("SealedGroups$History", 17, yX6_init) ∈ nestM := List.mem_of_getElem? (i := 5) rfl
theorem nm_6 : ("SealedGroups", 35, yX3_init) ∈ nestM := List.mem_of_getElem? (i := 6) rfl
