section
-- ===== PART A: goes FIRST, ahead of the names: the tables' words, and 'selects' of the private methods out of them =====
/-- a private method of a class that the tables say can be made, by its rows of tables_1 -/
def lw_okq (q : MethodName × Nat) : Prop := (q.1.cls ≠ "java/lang/invoke/MethodHandle" ∧ q.1.cls ≠ "java/lang/invoke/VarHandle") ∧ Cond.instantiable q.1.cls q.2 ∈ tables_1 ∧ Cond.privateMethod q.1 ∈ tables_1 ∧ Cond.instanceMethod q.1 ∈ tables_1
theorem lw_p0 : lw_okq (⟨"SealedGroups$History", "rowAt", "(I)LSealedGroups$Store;"⟩, 3) := ⟨⟨by decide +kernel, by decide +kernel⟩, List.mem_of_getElem? (i := 194) (by decide +kernel), List.mem_of_getElem? (i := 286) (by decide +kernel), List.mem_of_getElem? (i := 287) (by decide +kernel)⟩
theorem lw_p1 : lw_okq (⟨"SealedGroups$Store", "errorOfEnding", "(II)I"⟩, 5) := ⟨⟨by decide +kernel, by decide +kernel⟩, List.mem_of_getElem? (i := 22) (by decide +kernel), List.mem_of_getElem? (i := 376) (by decide +kernel), List.mem_of_getElem? (i := 377) (by decide +kernel)⟩
theorem lw_p2 : lw_okq (⟨"SealedGroups$Restarter", "look", "(LSealedGroups$Journal;)V"⟩, 6) := ⟨⟨by decide +kernel, by decide +kernel⟩, List.mem_of_getElem? (i := 169) (by decide +kernel), List.mem_of_getElem? (i := 534) (by decide +kernel), List.mem_of_getElem? (i := 535) (by decide +kernel)⟩
theorem lw_p3 : lw_okq (⟨"SealedGroups$Restarter", "lookAt", "(LSealedGroups$Journal;I)V"⟩, 6) := ⟨⟨by decide +kernel, by decide +kernel⟩, List.mem_of_getElem? (i := 169) (by decide +kernel), List.mem_of_getElem? (i := 546) (by decide +kernel), List.mem_of_getElem? (i := 547) (by decide +kernel)⟩
theorem lw_p4 : lw_okq (⟨"SealedGroups$Restarter", "doAgain", "(LSealedGroups$Journal;LSealedGroups$Pages;)V"⟩, 6) := ⟨⟨by decide +kernel, by decide +kernel⟩, List.mem_of_getElem? (i := 169) (by decide +kernel), List.mem_of_getElem? (i := 550) (by decide +kernel), List.mem_of_getElem? (i := 551) (by decide +kernel)⟩
theorem lw_p5 : lw_okq (⟨"SealedGroups$Restarter", "leastStart", "()I"⟩, 6) := ⟨⟨by decide +kernel, by decide +kernel⟩, List.mem_of_getElem? (i := 169) (by decide +kernel), List.mem_of_getElem? (i := 554) (by decide +kernel), List.mem_of_getElem? (i := 555) (by decide +kernel)⟩
theorem lw_p6 : lw_okq (⟨"SealedGroups$Restarter", "isAfterStart", "(II)Z"⟩, 6) := ⟨⟨by decide +kernel, by decide +kernel⟩, List.mem_of_getElem? (i := 169) (by decide +kernel), List.mem_of_getElem? (i := 558) (by decide +kernel), List.mem_of_getElem? (i := 559) (by decide +kernel)⟩
theorem lw_p7 : lw_okq (⟨"SealedGroups$Restarter", "takeLosersBack", "(LSealedGroups$Store;)V"⟩, 6) := ⟨⟨by decide +kernel, by decide +kernel⟩, List.mem_of_getElem? (i := 169) (by decide +kernel), List.mem_of_getElem? (i := 564) (by decide +kernel), List.mem_of_getElem? (i := 565) (by decide +kernel)⟩
theorem lw_p8 : lw_okq (⟨"SealedGroups$Restarter", "noteTakenBack", "(I)V"⟩, 6) := ⟨⟨by decide +kernel, by decide +kernel⟩, List.mem_of_getElem? (i := 169) (by decide +kernel), List.mem_of_getElem? (i := 568) (by decide +kernel), List.mem_of_getElem? (i := 569) (by decide +kernel)⟩
theorem lw_p9 : lw_okq (⟨"SealedGroups$Restarter", "isTakenBack", "(I)Z"⟩, 6) := ⟨⟨by decide +kernel, by decide +kernel⟩, List.mem_of_getElem? (i := 169) (by decide +kernel), List.mem_of_getElem? (i := 573) (by decide +kernel), List.mem_of_getElem? (i := 574) (by decide +kernel)⟩
theorem lw_p10 : lw_okq (⟨"SealedGroups", "tryText", "()V"⟩, 8) := ⟨⟨by decide +kernel, by decide +kernel⟩, List.mem_of_getElem? (i := 14) (by decide +kernel), List.mem_of_getElem? (i := 668) (by decide +kernel), List.mem_of_getElem? (i := 669) (by decide +kernel)⟩
theorem lw_p11 : lw_okq (⟨"SealedGroups$OrderText", "readLetter", "()Z"⟩, 8) := ⟨⟨by decide +kernel, by decide +kernel⟩, List.mem_of_getElem? (i := 214) (by decide +kernel), List.mem_of_getElem? (i := 676) (by decide +kernel), List.mem_of_getElem? (i := 677) (by decide +kernel)⟩
theorem lw_p12 : lw_okq (⟨"SealedGroups$OrderText", "sign", "()I"⟩, 8) := ⟨⟨by decide +kernel, by decide +kernel⟩, List.mem_of_getElem? (i := 214) (by decide +kernel), List.mem_of_getElem? (i := 680) (by decide +kernel), List.mem_of_getElem? (i := 681) (by decide +kernel)⟩
theorem lw_p13 : lw_okq (⟨"SealedGroups$OrderText", "readArguments", "()Z"⟩, 8) := ⟨⟨by decide +kernel, by decide +kernel⟩, List.mem_of_getElem? (i := 214) (by decide +kernel), List.mem_of_getElem? (i := 684) (by decide +kernel), List.mem_of_getElem? (i := 685) (by decide +kernel)⟩
theorem lw_p14 : lw_okq (⟨"SealedGroups$OrderText", "readDigit", "()I"⟩, 8) := ⟨⟨by decide +kernel, by decide +kernel⟩, List.mem_of_getElem? (i := 214) (by decide +kernel), List.mem_of_getElem? (i := 688) (by decide +kernel), List.mem_of_getElem? (i := 689) (by decide +kernel)⟩
theorem lw_p15 : lw_okq (⟨"SealedGroups$OrderText", "readSign", "(I)Z"⟩, 8) := ⟨⟨by decide +kernel, by decide +kernel⟩, List.mem_of_getElem? (i := 214) (by decide +kernel), List.mem_of_getElem? (i := 692) (by decide +kernel), List.mem_of_getElem? (i := 693) (by decide +kernel)⟩
def lw_privs_1 : List (MethodName × Nat) := [(⟨"SealedGroups$History", "rowAt", "(I)LSealedGroups$Store;"⟩, 3), (⟨"SealedGroups$Store", "errorOfEnding", "(II)I"⟩, 5), (⟨"SealedGroups$Restarter", "look", "(LSealedGroups$Journal;)V"⟩, 6), (⟨"SealedGroups$Restarter", "lookAt", "(LSealedGroups$Journal;I)V"⟩, 6), (⟨"SealedGroups$Restarter", "doAgain", "(LSealedGroups$Journal;LSealedGroups$Pages;)V"⟩, 6), (⟨"SealedGroups$Restarter", "leastStart", "()I"⟩, 6), (⟨"SealedGroups$Restarter", "isAfterStart", "(II)Z"⟩, 6), (⟨"SealedGroups$Restarter", "takeLosersBack", "(LSealedGroups$Store;)V"⟩, 6), (⟨"SealedGroups$Restarter", "noteTakenBack", "(I)V"⟩, 6), (⟨"SealedGroups$Restarter", "isTakenBack", "(I)Z"⟩, 6), (⟨"SealedGroups", "tryText", "()V"⟩, 8), (⟨"SealedGroups$OrderText", "readLetter", "()Z"⟩, 8), (⟨"SealedGroups$OrderText", "sign", "()I"⟩, 8), (⟨"SealedGroups$OrderText", "readArguments", "()Z"⟩, 8), (⟨"SealedGroups$OrderText", "readDigit", "()I"⟩, 8), (⟨"SealedGroups$OrderText", "readSign", "(I)Z"⟩, 8)]
theorem lw_r1 : ∀ q ∈ lw_privs_1, lw_okq q := List.forall_mem_cons.mpr ⟨lw_p0, List.forall_mem_cons.mpr ⟨lw_p1, List.forall_mem_cons.mpr ⟨lw_p2, List.forall_mem_cons.mpr ⟨lw_p3, List.forall_mem_cons.mpr ⟨lw_p4, List.forall_mem_cons.mpr ⟨lw_p5, List.forall_mem_cons.mpr ⟨lw_p6, List.forall_mem_cons.mpr ⟨lw_p7, List.forall_mem_cons.mpr ⟨lw_p8, List.forall_mem_cons.mpr ⟨lw_p9, List.forall_mem_cons.mpr ⟨lw_p10, List.forall_mem_cons.mpr ⟨lw_p11, List.forall_mem_cons.mpr ⟨lw_p12, List.forall_mem_cons.mpr ⟨lw_p13, List.forall_mem_cons.mpr ⟨lw_p14, List.forall_mem_cons.mpr ⟨lw_p15, fun _ h => absurd h List.not_mem_nil⟩⟩⟩⟩⟩⟩⟩⟩⟩⟩⟩⟩⟩⟩⟩⟩
theorem lw_p16 : lw_okq (⟨"SealedGroups$OrderText", "readValue", "()Z"⟩, 8) := ⟨⟨by decide +kernel, by decide +kernel⟩, List.mem_of_getElem? (i := 214) (by decide +kernel), List.mem_of_getElem? (i := 696) (by decide +kernel), List.mem_of_getElem? (i := 697) (by decide +kernel)⟩
theorem lw_p17 : lw_okq (⟨"SealedGroups", "doOrder", "()I"⟩, 8) := ⟨⟨by decide +kernel, by decide +kernel⟩, List.mem_of_getElem? (i := 14) (by decide +kernel), List.mem_of_getElem? (i := 700) (by decide +kernel), List.mem_of_getElem? (i := 701) (by decide +kernel)⟩
theorem lw_p18 : lw_okq (⟨"SealedGroupsModel", "isStopped", "()Z"⟩, 16) := ⟨⟨by decide +kernel, by decide +kernel⟩, List.mem_of_getElem? (i := 712) (by decide +kernel), List.mem_of_getElem? (i := 775) (by decide +kernel), List.mem_of_getElem? (i := 776) (by decide +kernel)⟩
theorem lw_p19 : lw_okq (⟨"SealedGroupsModel", "isOpen", "(I)Z"⟩, 16) := ⟨⟨by decide +kernel, by decide +kernel⟩, List.mem_of_getElem? (i := 712) (by decide +kernel), List.mem_of_getElem? (i := 779) (by decide +kernel), List.mem_of_getElem? (i := 780) (by decide +kernel)⟩
theorem lw_p20 : lw_okq (⟨"SealedGroupsModel", "ofGroup", "(II)I"⟩, 16) := ⟨⟨by decide +kernel, by decide +kernel⟩, List.mem_of_getElem? (i := 712) (by decide +kernel), List.mem_of_getElem? (i := 783) (by decide +kernel), List.mem_of_getElem? (i := 784) (by decide +kernel)⟩
theorem lw_p21 : lw_okq (⟨"SealedGroupsModel", "changes", "()V"⟩, 16) := ⟨⟨by decide +kernel, by decide +kernel⟩, List.mem_of_getElem? (i := 712) (by decide +kernel), List.mem_of_getElem? (i := 789) (by decide +kernel), List.mem_of_getElem? (i := 790) (by decide +kernel)⟩
theorem lw_p22 : lw_okq (⟨"SealedGroupsModel", "adds", "(IIIIII)I"⟩, 16) := ⟨⟨by decide +kernel, by decide +kernel⟩, List.mem_of_getElem? (i := 712) (by decide +kernel), List.mem_of_getElem? (i := 794) (by decide +kernel), List.mem_of_getElem? (i := 795) (by decide +kernel)⟩
theorem lw_p23 : lw_okq (⟨"SealedGroupsModel", "last", "()I"⟩, 16) := ⟨⟨by decide +kernel, by decide +kernel⟩, List.mem_of_getElem? (i := 712) (by decide +kernel), List.mem_of_getElem? (i := 798) (by decide +kernel), List.mem_of_getElem? (i := 799) (by decide +kernel)⟩
theorem lw_p24 : lw_okq (⟨"SealedGroupsModel", "putsGroup", "(III)V"⟩, 16) := ⟨⟨by decide +kernel, by decide +kernel⟩, List.mem_of_getElem? (i := 712) (by decide +kernel), List.mem_of_getElem? (i := 802) (by decide +kernel), List.mem_of_getElem? (i := 803) (by decide +kernel)⟩
theorem lw_p25 : lw_okq (⟨"SealedGroupsModel", "holder", "(I)I"⟩, 16) := ⟨⟨by decide +kernel, by decide +kernel⟩, List.mem_of_getElem? (i := 712) (by decide +kernel), List.mem_of_getElem? (i := 810) (by decide +kernel), List.mem_of_getElem? (i := 811) (by decide +kernel)⟩
theorem lw_p26 : lw_okq (⟨"SealedGroupsModel", "value", "(I)I"⟩, 16) := ⟨⟨by decide +kernel, by decide +kernel⟩, List.mem_of_getElem? (i := 712) (by decide +kernel), List.mem_of_getElem? (i := 814) (by decide +kernel), List.mem_of_getElem? (i := 815) (by decide +kernel)⟩
theorem lw_p27 : lw_okq (⟨"SealedGroupsModel", "ofPage", "(II)I"⟩, 16) := ⟨⟨by decide +kernel, by decide +kernel⟩, List.mem_of_getElem? (i := 712) (by decide +kernel), List.mem_of_getElem? (i := 818) (by decide +kernel), List.mem_of_getElem? (i := 819) (by decide +kernel)⟩
theorem lw_p28 : lw_okq (⟨"SealedGroupsModel", "comes", "(III)V"⟩, 16) := ⟨⟨by decide +kernel, by decide +kernel⟩, List.mem_of_getElem? (i := 712) (by decide +kernel), List.mem_of_getElem? (i := 822) (by decide +kernel), List.mem_of_getElem? (i := 823) (by decide +kernel)⟩
theorem lw_p29 : lw_okq (⟨"SealedGroupsModel", "isDirty", "(I)Z"⟩, 16) := ⟨⟨by decide +kernel, by decide +kernel⟩, List.mem_of_getElem? (i := 712) (by decide +kernel), List.mem_of_getElem? (i := 826) (by decide +kernel), List.mem_of_getElem? (i := 827) (by decide +kernel)⟩
theorem lw_p30 : lw_okq (⟨"SealedGroupsModel", "mark", "(I)I"⟩, 16) := ⟨⟨by decide +kernel, by decide +kernel⟩, List.mem_of_getElem? (i := 712) (by decide +kernel), List.mem_of_getElem? (i := 830) (by decide +kernel), List.mem_of_getElem? (i := 831) (by decide +kernel)⟩
theorem lw_p31 : lw_okq (⟨"SealedGroupsModel", "putsPage", "(III)V"⟩, 16) := ⟨⟨by decide +kernel, by decide +kernel⟩, List.mem_of_getElem? (i := 712) (by decide +kernel), List.mem_of_getElem? (i := 834) (by decide +kernel), List.mem_of_getElem? (i := 835) (by decide +kernel)⟩
def lw_privs_2 : List (MethodName × Nat) := [(⟨"SealedGroups$OrderText", "readValue", "()Z"⟩, 8), (⟨"SealedGroups", "doOrder", "()I"⟩, 8), (⟨"SealedGroupsModel", "isStopped", "()Z"⟩, 16), (⟨"SealedGroupsModel", "isOpen", "(I)Z"⟩, 16), (⟨"SealedGroupsModel", "ofGroup", "(II)I"⟩, 16), (⟨"SealedGroupsModel", "changes", "()V"⟩, 16), (⟨"SealedGroupsModel", "adds", "(IIIIII)I"⟩, 16), (⟨"SealedGroupsModel", "last", "()I"⟩, 16), (⟨"SealedGroupsModel", "putsGroup", "(III)V"⟩, 16), (⟨"SealedGroupsModel", "holder", "(I)I"⟩, 16), (⟨"SealedGroupsModel", "value", "(I)I"⟩, 16), (⟨"SealedGroupsModel", "ofPage", "(II)I"⟩, 16), (⟨"SealedGroupsModel", "comes", "(III)V"⟩, 16), (⟨"SealedGroupsModel", "isDirty", "(I)Z"⟩, 16), (⟨"SealedGroupsModel", "mark", "(I)I"⟩, 16), (⟨"SealedGroupsModel", "putsPage", "(III)V"⟩, 16)]
theorem lw_r2 : ∀ q ∈ lw_privs_2, lw_okq q := List.forall_mem_cons.mpr ⟨lw_p16, List.forall_mem_cons.mpr ⟨lw_p17, List.forall_mem_cons.mpr ⟨lw_p18, List.forall_mem_cons.mpr ⟨lw_p19, List.forall_mem_cons.mpr ⟨lw_p20, List.forall_mem_cons.mpr ⟨lw_p21, List.forall_mem_cons.mpr ⟨lw_p22, List.forall_mem_cons.mpr ⟨lw_p23, List.forall_mem_cons.mpr ⟨lw_p24, List.forall_mem_cons.mpr ⟨lw_p25, List.forall_mem_cons.mpr ⟨lw_p26, List.forall_mem_cons.mpr ⟨lw_p27, List.forall_mem_cons.mpr ⟨lw_p28, List.forall_mem_cons.mpr ⟨lw_p29, List.forall_mem_cons.mpr ⟨lw_p30, List.forall_mem_cons.mpr ⟨lw_p31, fun _ h => absurd h List.not_mem_nil⟩⟩⟩⟩⟩⟩⟩⟩⟩⟩⟩⟩⟩⟩⟩⟩
theorem lw_p32 : lw_okq (⟨"SealedGroupsModel", "forces", "(I)I"⟩, 16) := ⟨⟨by decide +kernel, by decide +kernel⟩, List.mem_of_getElem? (i := 712) (by decide +kernel), List.mem_of_getElem? (i := 842) (by decide +kernel), List.mem_of_getElem? (i := 843) (by decide +kernel)⟩
theorem lw_p33 : lw_okq (⟨"SealedGroupsModel", "closes", "(I)V"⟩, 16) := ⟨⟨by decide +kernel, by decide +kernel⟩, List.mem_of_getElem? (i := 712) (by decide +kernel), List.mem_of_getElem? (i := 849) (by decide +kernel), List.mem_of_getElem? (i := 850) (by decide +kernel)⟩
theorem lw_p34 : lw_okq (⟨"SealedGroupsModel", "takes", "(I)I"⟩, 16) := ⟨⟨by decide +kernel, by decide +kernel⟩, List.mem_of_getElem? (i := 712) (by decide +kernel), List.mem_of_getElem? (i := 857) (by decide +kernel), List.mem_of_getElem? (i := 858) (by decide +kernel)⟩
theorem lw_p35 : lw_okq (⟨"SealedGroupsModel", "of", "(II)I"⟩, 16) := ⟨⟨by decide +kernel, by decide +kernel⟩, List.mem_of_getElem? (i := 712) (by decide +kernel), List.mem_of_getElem? (i := 861) (by decide +kernel), List.mem_of_getElem? (i := 862) (by decide +kernel)⟩
theorem lw_p36 : lw_okq (⟨"SealedGroupsModel", "isTakenBack", "(I)Z"⟩, 16) := ⟨⟨by decide +kernel, by decide +kernel⟩, List.mem_of_getElem? (i := 712) (by decide +kernel), List.mem_of_getElem? (i := 865) (by decide +kernel), List.mem_of_getElem? (i := 866) (by decide +kernel)⟩
theorem lw_p37 : lw_okq (⟨"SealedGroupsModel", "pages", "(I)I"⟩, 16) := ⟨⟨by decide +kernel, by decide +kernel⟩, List.mem_of_getElem? (i := 712) (by decide +kernel), List.mem_of_getElem? (i := 877) (by decide +kernel), List.mem_of_getElem? (i := 878) (by decide +kernel)⟩
theorem lw_p38 : lw_okq (⟨"SealedGroupsModel", "openSet", "()I"⟩, 16) := ⟨⟨by decide +kernel, by decide +kernel⟩, List.mem_of_getElem? (i := 712) (by decide +kernel), List.mem_of_getElem? (i := 885) (by decide +kernel), List.mem_of_getElem? (i := 886) (by decide +kernel)⟩
theorem lw_p39 : lw_okq (⟨"SealedGroupsModel", "latest", "()I"⟩, 16) := ⟨⟨by decide +kernel, by decide +kernel⟩, List.mem_of_getElem? (i := 712) (by decide +kernel), List.mem_of_getElem? (i := 893) (by decide +kernel), List.mem_of_getElem? (i := 894) (by decide +kernel)⟩
theorem lw_p40 : lw_okq (⟨"SealedGroupsModel", "canDrop", "()I"⟩, 16) := ⟨⟨by decide +kernel, by decide +kernel⟩, List.mem_of_getElem? (i := 712) (by decide +kernel), List.mem_of_getElem? (i := 897) (by decide +kernel), List.mem_of_getElem? (i := 898) (by decide +kernel)⟩
theorem lw_p41 : lw_okq (⟨"SealedGroupsModel", "stops", "(I)I"⟩, 16) := ⟨⟨by decide +kernel, by decide +kernel⟩, List.mem_of_getElem? (i := 712) (by decide +kernel), List.mem_of_getElem? (i := 909) (by decide +kernel), List.mem_of_getElem? (i := 910) (by decide +kernel)⟩
theorem lw_p42 : lw_okq (⟨"SealedGroupsModel", "isTorn", "()Z"⟩, 16) := ⟨⟨by decide +kernel, by decide +kernel⟩, List.mem_of_getElem? (i := 712) (by decide +kernel), List.mem_of_getElem? (i := 913) (by decide +kernel), List.mem_of_getElem? (i := 914) (by decide +kernel)⟩
theorem lw_p43 : lw_okq (⟨"SealedGroupsModel", "restarts", "()I"⟩, 16) := ⟨⟨by decide +kernel, by decide +kernel⟩, List.mem_of_getElem? (i := 712) (by decide +kernel), List.mem_of_getElem? (i := 921) (by decide +kernel), List.mem_of_getElem? (i := 922) (by decide +kernel)⟩
theorem lw_p44 : lw_okq (⟨"SealedGroupsModel", "looks", "()V"⟩, 16) := ⟨⟨by decide +kernel, by decide +kernel⟩, List.mem_of_getElem? (i := 712) (by decide +kernel), List.mem_of_getElem? (i := 925) (by decide +kernel), List.mem_of_getElem? (i := 926) (by decide +kernel)⟩
theorem lw_p45 : lw_okq (⟨"SealedGroupsModel", "settledValue", "(I)I"⟩, 16) := ⟨⟨by decide +kernel, by decide +kernel⟩, List.mem_of_getElem? (i := 712) (by decide +kernel), List.mem_of_getElem? (i := 933) (by decide +kernel), List.mem_of_getElem? (i := 934) (by decide +kernel)⟩
theorem lw_p46 : lw_okq (⟨"SealedGroupsModel", "nextKind", "(II)I"⟩, 16) := ⟨⟨by decide +kernel, by decide +kernel⟩, List.mem_of_getElem? (i := 712) (by decide +kernel), List.mem_of_getElem? (i := 937) (by decide +kernel), List.mem_of_getElem? (i := 938) (by decide +kernel)⟩
theorem lw_p47 : lw_okq (⟨"SealedGroupsModel", "isRecord", "(I)Z"⟩, 16) := ⟨⟨by decide +kernel, by decide +kernel⟩, List.mem_of_getElem? (i := 712) (by decide +kernel), List.mem_of_getElem? (i := 945) (by decide +kernel), List.mem_of_getElem? (i := 946) (by decide +kernel)⟩
def lw_privs_3 : List (MethodName × Nat) := [(⟨"SealedGroupsModel", "forces", "(I)I"⟩, 16), (⟨"SealedGroupsModel", "closes", "(I)V"⟩, 16), (⟨"SealedGroupsModel", "takes", "(I)I"⟩, 16), (⟨"SealedGroupsModel", "of", "(II)I"⟩, 16), (⟨"SealedGroupsModel", "isTakenBack", "(I)Z"⟩, 16), (⟨"SealedGroupsModel", "pages", "(I)I"⟩, 16), (⟨"SealedGroupsModel", "openSet", "()I"⟩, 16), (⟨"SealedGroupsModel", "latest", "()I"⟩, 16), (⟨"SealedGroupsModel", "canDrop", "()I"⟩, 16), (⟨"SealedGroupsModel", "stops", "(I)I"⟩, 16), (⟨"SealedGroupsModel", "isTorn", "()Z"⟩, 16), (⟨"SealedGroupsModel", "restarts", "()I"⟩, 16), (⟨"SealedGroupsModel", "looks", "()V"⟩, 16), (⟨"SealedGroupsModel", "settledValue", "(I)I"⟩, 16), (⟨"SealedGroupsModel", "nextKind", "(II)I"⟩, 16), (⟨"SealedGroupsModel", "isRecord", "(I)Z"⟩, 16)]
theorem lw_r3 : ∀ q ∈ lw_privs_3, lw_okq q := List.forall_mem_cons.mpr ⟨lw_p32, List.forall_mem_cons.mpr ⟨lw_p33, List.forall_mem_cons.mpr ⟨lw_p34, List.forall_mem_cons.mpr ⟨lw_p35, List.forall_mem_cons.mpr ⟨lw_p36, List.forall_mem_cons.mpr ⟨lw_p37, List.forall_mem_cons.mpr ⟨lw_p38, List.forall_mem_cons.mpr ⟨lw_p39, List.forall_mem_cons.mpr ⟨lw_p40, List.forall_mem_cons.mpr ⟨lw_p41, List.forall_mem_cons.mpr ⟨lw_p42, List.forall_mem_cons.mpr ⟨lw_p43, List.forall_mem_cons.mpr ⟨lw_p44, List.forall_mem_cons.mpr ⟨lw_p45, List.forall_mem_cons.mpr ⟨lw_p46, List.forall_mem_cons.mpr ⟨lw_p47, fun _ h => absurd h List.not_mem_nil⟩⟩⟩⟩⟩⟩⟩⟩⟩⟩⟩⟩⟩⟩⟩⟩
theorem lw_p48 : lw_okq (⟨"SealedGroupsModel", "plays", "()I"⟩, 16) := ⟨⟨by decide +kernel, by decide +kernel⟩, List.mem_of_getElem? (i := 712) (by decide +kernel), List.mem_of_getElem? (i := 980) (by decide +kernel), List.mem_of_getElem? (i := 981) (by decide +kernel)⟩
theorem lw_p49 : lw_okq (⟨"SealedGroupsModel", "isForm", "(I)Z"⟩, 16) := ⟨⟨by decide +kernel, by decide +kernel⟩, List.mem_of_getElem? (i := 712) (by decide +kernel), List.mem_of_getElem? (i := 984) (by decide +kernel), List.mem_of_getElem? (i := 985) (by decide +kernel)⟩
theorem lw_p50 : lw_okq (⟨"SealedGroupsModel", "passes", "(I)Z"⟩, 16) := ⟨⟨by decide +kernel, by decide +kernel⟩, List.mem_of_getElem? (i := 712) (by decide +kernel), List.mem_of_getElem? (i := 988) (by decide +kernel), List.mem_of_getElem? (i := 989) (by decide +kernel)⟩
theorem lw_p51 : lw_okq (⟨"SealedGroupsModel", "number", "(II)Z"⟩, 16) := ⟨⟨by decide +kernel, by decide +kernel⟩, List.mem_of_getElem? (i := 712) (by decide +kernel), List.mem_of_getElem? (i := 992) (by decide +kernel), List.mem_of_getElem? (i := 993) (by decide +kernel)⟩
theorem lw_p52 : lw_okq (⟨"SealedGroupsModel", "calls", "(I)I"⟩, 16) := ⟨⟨by decide +kernel, by decide +kernel⟩, List.mem_of_getElem? (i := 712) (by decide +kernel), List.mem_of_getElem? (i := 996) (by decide +kernel), List.mem_of_getElem? (i := 997) (by decide +kernel)⟩
def lw_privs_4 : List (MethodName × Nat) := [(⟨"SealedGroupsModel", "plays", "()I"⟩, 16), (⟨"SealedGroupsModel", "isForm", "(I)Z"⟩, 16), (⟨"SealedGroupsModel", "passes", "(I)Z"⟩, 16), (⟨"SealedGroupsModel", "number", "(II)Z"⟩, 16), (⟨"SealedGroupsModel", "calls", "(I)I"⟩, 16)]
theorem lw_r4 : ∀ q ∈ lw_privs_4, lw_okq q := List.forall_mem_cons.mpr ⟨lw_p48, List.forall_mem_cons.mpr ⟨lw_p49, List.forall_mem_cons.mpr ⟨lw_p50, List.forall_mem_cons.mpr ⟨lw_p51, List.forall_mem_cons.mpr ⟨lw_p52, fun _ h => absurd h List.not_mem_nil⟩⟩⟩⟩⟩
def lw_privs : List (MethodName × Nat) := lw_privs_1 ++ (lw_privs_2 ++ (lw_privs_3 ++ (lw_privs_4)))
def lw_tbl : List Cond := k2_sels lw_privs ++ tables_1
theorem lw_privs_ok : ∀ q ∈ lw_privs, lw_okq q := by
  show ∀ q ∈ lw_privs_1 ++ (lw_privs_2 ++ (lw_privs_3 ++ (lw_privs_4))), lw_okq q
  exact List.forall_mem_append.mpr ⟨lw_r1, List.forall_mem_append.mpr ⟨lw_r2, List.forall_mem_append.mpr ⟨lw_r3, lw_r4⟩⟩⟩
-- ===== end of PART A; then your names; then what follows =====
end
section
/-! ===== BEGIN words of one list among another's, by their places ===== -/
theorem goodIn_r {big : List Cond} (ws : List Cond) (ps : List Nat) (hp : ws = ps.filterMap (fun i => big[i]?)) (h : ws.all goodWord = true) : GoodIn big ws := by
  intro w hw
  have h1 := List.all_eq_true.mp h w hw
  rw [hp] at hw
  obtain ⟨i, -, hi⟩ := List.mem_filterMap.mp hw
  have hm : w ∈ big := by first | exact List.mem_of_getElem? hi | exact List.getElem?_mem hi
  exact ⟨hm, good_of_word h1⟩
theorem goodIn_app {big a b : List Cond} (ha : GoodIn big a) (hb : GoodIn big b) : GoodIn big (a ++ b) := fun w h => (List.mem_append.mp h).elim (ha w) (hb w)
theorem goodIn_ca {big a b : List Cond} {c : Cond} (ha : GoodIn big (c :: a)) (hb : GoodIn big b) : GoodIn big (c :: (a ++ b)) := fun w h => (List.mem_cons.mp h).elim (fun e => ha w (List.mem_cons.mpr (Or.inl e))) (fun h => (List.mem_append.mp h).elim (fun h => ha w (List.mem_cons.mpr (Or.inr h))) (hb w))
theorem goodIn_sub {big ws : List Cond} (hm : ∀ w ∈ ws, w ∈ big) (h : ws.all goodWord = true) : GoodIn big ws := fun w hw => ⟨hm w hw, good_of_word (List.all_eq_true.mp h w hw)⟩
/-! ===== END ===== -/

/-! ===== BEGIN printed: names, fields, word lists, decode rows ===== -/
def RX0 : String := "SealedGroups$Groups"
def TX0 : u_T := fun k => match k with
  | 0 => ("SealedGroups$Groups", "begins", "[I", true)
  | 1 => ("SealedGroups$Groups", "writes", "[I", true)
  | 2 => ("SealedGroups$Groups", "held", "[I", true)
  | _ => ("SealedGroups$Groups", "open", "I", false)
def tyX0 : Nat → FieldType := fun k => match k with
  | 0 => .array .int
  | 1 => .array .int
  | 2 => .array .int
  | _ => .int
abbrev wsX00 : List Cond := u_ws RX0 TX0 4
theorem nmX0 : ∀ a, a < 4 → ∀ b, b < 4 → a ≠ b → (TX0 a).2.1 ≠ (TX0 b).2.1 := by decide +kernel
theorem tyX0_ok : ∀ k, k < 4 → parseFieldDescriptor (TX0 k).2.2.1 = some (tyX0 k) := by decide +kernel
abbrev cX0_init : ByteArray := prog_2_method_1_code
def yX0_init : MethodName := ⟨RX0, "<init>", "()V"⟩
abbrev cX0_copyFrom : ByteArray := prog_2_method_2_code
def yX0_copyFrom : MethodName := ⟨RX0, "copyFrom", "(LSealedGroups$Groups;)V"⟩
abbrev cX0_isOpen : ByteArray := prog_2_method_3_code
def yX0_isOpen : MethodName := ⟨RX0, "isOpen", "(I)Z"⟩
abbrev cX0_enter : ByteArray := prog_2_method_4_code
def yX0_enter : MethodName := ⟨RX0, "enter", "(II)V"⟩
abbrev cX0_hold : ByteArray := prog_2_method_5_code
def yX0_hold : MethodName := ⟨RX0, "hold", "(II)V"⟩
abbrev cX0_leave : ByteArray := prog_2_method_6_code
def yX0_leave : MethodName := ⟨RX0, "leave", "(I)V"⟩
abbrev cX0_holderOf : ByteArray := prog_2_method_7_code
def yX0_holderOf : MethodName := ⟨RX0, "holderOf", "(I)I"⟩
abbrev cX0_beginOf : ByteArray := prog_2_method_8_code
def yX0_beginOf : MethodName := ⟨RX0, "beginOf", "(I)I"⟩
abbrev cX0_writesOf : ByteArray := prog_2_method_9_code
def yX0_writesOf : MethodName := ⟨RX0, "writesOf", "(I)I"⟩
abbrev cX0_heldBy : ByteArray := prog_2_method_10_code
def yX0_heldBy : MethodName := ⟨RX0, "heldBy", "(I)I"⟩
abbrev cX0_tell : ByteArray := prog_2_method_11_code
def yX0_tell : MethodName := ⟨RX0, "tell", "(II)I"⟩
def RX1 : String := "SealedGroups$History"
def TX1 : u_T := fun k => match k with
  | 0 => ("SealedGroups$History", "rows", "[LSealedGroups$Store;", true)
  | 1 => ("SealedGroups$History", "oldest", "I", false)
  | _ => ("SealedGroups$History", "size", "I", false)
def tyX1 : Nat → FieldType := fun k => match k with
  | 0 => .array (.object "SealedGroups$Store")
  | 1 => .int
  | _ => .int
abbrev wsX10 : List Cond := u_ws RX1 TX1 3
theorem nmX1 : ∀ a, a < 3 → ∀ b, b < 3 → a ≠ b → (TX1 a).2.1 ≠ (TX1 b).2.1 := by decide +kernel
theorem tyX1_ok : ∀ k, k < 3 → parseFieldDescriptor (TX1 k).2.2.1 = some (tyX1 k) := by decide +kernel
abbrev cX1_init : ByteArray := prog_3_method_1_code
def yX1_init : MethodName := ⟨RX1, "<init>", "()V"⟩
abbrev cX1_rowAt : ByteArray := prog_3_method_2_code
def yX1_rowAt : MethodName := ⟨RX1, "rowAt", "(I)LSealedGroups$Store;"⟩
abbrev cX1_prepare : ByteArray := prog_3_method_3_code
def yX1_prepare : MethodName := ⟨RX1, "prepare", "(LSealedGroups$Store;)V"⟩
abbrev cX1_keepUnlessError : ByteArray := prog_3_method_4_code
def yX1_keepUnlessError : MethodName := ⟨RX1, "keepUnlessError", "(I)I"⟩
abbrev cX1_restoreLatest : ByteArray := prog_3_method_5_code
def yX1_restoreLatest : MethodName := ⟨RX1, "restoreLatest", "(LSealedGroups$Store;)I"⟩
def RX2 : String := "SealedGroups$Journal"
def TX2 : u_T := fun k => match k with
  | 0 => ("SealedGroups$Journal", "kinds", "[I", true)
  | 1 => ("SealedGroups$Journal", "owners", "[I", true)
  | 2 => ("SealedGroups$Journal", "pageNumbers", "[I", true)
  | 3 => ("SealedGroups$Journal", "olds", "[I", true)
  | 4 => ("SealedGroups$Journal", "news", "[I", true)
  | 5 => ("SealedGroups$Journal", "targets", "[I", true)
  | 6 => ("SealedGroups$Journal", "checkpointStarts", "[I", true)
  | 7 => ("SealedGroups$Journal", "first", "I", false)
  | 8 => ("SealedGroups$Journal", "size", "I", false)
  | 9 => ("SealedGroups$Journal", "forced", "I", false)
  | 10 => ("SealedGroups$Journal", "latestCheckpoint", "I", false)
  | _ => ("SealedGroups$Journal", "dropLimit", "I", false)
def tyX2 : Nat → FieldType := fun k => match k with
  | 0 => .array .int
  | 1 => .array .int
  | 2 => .array .int
  | 3 => .array .int
  | 4 => .array .int
  | 5 => .array .int
  | 6 => .array .int
  | 7 => .int
  | 8 => .int
  | 9 => .int
  | 10 => .int
  | _ => .int
abbrev wsX20 : List Cond := u_ws RX2 TX2 12
theorem nmX2 : ∀ a, a < 12 → ∀ b, b < 12 → a ≠ b → (TX2 a).2.1 ≠ (TX2 b).2.1 := by decide +kernel
theorem tyX2_ok : ∀ k, k < 12 → parseFieldDescriptor (TX2 k).2.2.1 = some (tyX2 k) := by decide +kernel
abbrev cX2_init : ByteArray := prog_4_method_1_code
def yX2_init : MethodName := ⟨RX2, "<init>", "()V"⟩
abbrev cX2_copyFrom : ByteArray := prog_4_method_2_code
def yX2_copyFrom : MethodName := ⟨RX2, "copyFrom", "(LSealedGroups$Journal;)V"⟩
abbrev cX2_isFull : ByteArray := prog_4_method_3_code
def yX2_isFull : MethodName := ⟨RX2, "isFull", "()Z"⟩
abbrev cX2_last : ByteArray := prog_4_method_4_code
def yX2_last : MethodName := ⟨RX2, "last", "()I"⟩
abbrev cX2_has : ByteArray := prog_4_method_5_code
def yX2_has : MethodName := ⟨RX2, "has", "(I)Z"⟩
abbrev cX2_at : ByteArray := prog_4_method_6_code
def yX2_at : MethodName := ⟨RX2, "at", "([II)I"⟩
abbrev cX2_append : ByteArray := prog_4_method_7_code
def yX2_append : MethodName := ⟨RX2, "append", "(IIIIII)I"⟩
abbrev cX2_forceUpTo : ByteArray := prog_4_method_8_code
def yX2_forceUpTo : MethodName := ⟨RX2, "forceUpTo", "(I)I"⟩
abbrev cX2_appendCheckpoint : ByteArray := prog_4_method_9_code
def yX2_appendCheckpoint : MethodName := ⟨RX2, "appendCheckpoint", "(LSealedGroups$Groups;LSealedGroups$Pages;)I"⟩
abbrev cX2_droppable : ByteArray := prog_4_method_10_code
def yX2_droppable : MethodName := ⟨RX2, "droppable", "()I"⟩
abbrev cX2_dropFirst : ByteArray := prog_4_method_11_code
def yX2_dropFirst : MethodName := ⟨RX2, "dropFirst", "()I"⟩
abbrev cX2_loseRecords : ByteArray := prog_4_method_12_code
def yX2_loseRecords : MethodName := ⟨RX2, "loseRecords", "(ZI)I"⟩
abbrev cX2_settledValueOf : ByteArray := prog_4_method_13_code
def yX2_settledValueOf : MethodName := ⟨RX2, "settledValueOf", "(I)I"⟩
abbrev cX2_tell : ByteArray := prog_4_method_14_code
def yX2_tell : MethodName := ⟨RX2, "tell", "(II)I"⟩
abbrev cX2_tellNumber : ByteArray := prog_4_method_15_code
def yX2_tellNumber : MethodName := ⟨RX2, "tellNumber", "(I)I"⟩
def RX3 : String := "SealedGroups$OrderText"
def TX3 : u_T := fun k => match k with
  | 0 => ("SealedGroups$OrderText", "signs", "[C", true)
  | 1 => ("SealedGroups$OrderText", "length", "I", false)
  | 2 => ("SealedGroups$OrderText", "next", "I", false)
  | 3 => ("SealedGroups$OrderText", "letter", "I", false)
  | 4 => ("SealedGroups$OrderText", "number", "I", false)
  | 5 => ("SealedGroups$OrderText", "page", "I", false)
  | 6 => ("SealedGroups$OrderText", "value", "I", false)
  | _ => ("SealedGroups$OrderText", "brokenAt", "I", false)
def tyX3 : Nat → FieldType := fun k => match k with
  | 0 => .array .char
  | 1 => .int
  | 2 => .int
  | 3 => .int
  | 4 => .int
  | 5 => .int
  | 6 => .int
  | _ => .int
abbrev wsX30 : List Cond := u_ws RX3 TX3 8
theorem nmX3 : ∀ a, a < 8 → ∀ b, b < 8 → a ≠ b → (TX3 a).2.1 ≠ (TX3 b).2.1 := by decide +kernel
theorem tyX3_ok : ∀ k, k < 8 → parseFieldDescriptor (TX3 k).2.2.1 = some (tyX3 k) := by decide +kernel
abbrev cX3_init : ByteArray := prog_5_method_1_code
def yX3_init : MethodName := ⟨RX3, "<init>", "()V"⟩
abbrev cX3_append : ByteArray := prog_5_method_2_code
def yX3_append : MethodName := ⟨RX3, "append", "(C)I"⟩
abbrev cX3_empty : ByteArray := prog_5_method_3_code
def yX3_empty : MethodName := ⟨RX3, "empty", "()I"⟩
abbrev cX3_readOrder : ByteArray := prog_5_method_4_code
def yX3_readOrder : MethodName := ⟨RX3, "readOrder", "()Z"⟩
abbrev cX3_sign : ByteArray := prog_5_method_5_code
def yX3_sign : MethodName := ⟨RX3, "sign", "()I"⟩
abbrev cX3_readLetter : ByteArray := prog_5_method_6_code
def yX3_readLetter : MethodName := ⟨RX3, "readLetter", "()Z"⟩
abbrev cX3_readArguments : ByteArray := prog_5_method_7_code
def yX3_readArguments : MethodName := ⟨RX3, "readArguments", "()Z"⟩
abbrev cX3_readValue : ByteArray := prog_5_method_8_code
def yX3_readValue : MethodName := ⟨RX3, "readValue", "()Z"⟩
abbrev cX3_readDigit : ByteArray := prog_5_method_9_code
def yX3_readDigit : MethodName := ⟨RX3, "readDigit", "()I"⟩
abbrev cX3_readSign : ByteArray := prog_5_method_10_code
def yX3_readSign : MethodName := ⟨RX3, "readSign", "(I)Z"⟩
def RX4 : String := "SealedGroups$Pages"
def TX4 : u_T := fun k => match k with
  | 0 => ("SealedGroups$Pages", "diskValues", "[I", true)
  | 1 => ("SealedGroups$Pages", "diskMarks", "[I", true)
  | 2 => ("SealedGroups$Pages", "values", "[I", true)
  | 3 => ("SealedGroups$Pages", "marks", "[I", true)
  | 4 => ("SealedGroups$Pages", "starts", "[I", true)
  | 5 => ("SealedGroups$Pages", "cached", "I", false)
  | _ => ("SealedGroups$Pages", "dirty", "I", false)
def tyX4 : Nat → FieldType := fun k => match k with
  | 0 => .array .int
  | 1 => .array .int
  | 2 => .array .int
  | 3 => .array .int
  | 4 => .array .int
  | 5 => .int
  | _ => .int
abbrev wsX40 : List Cond := u_ws RX4 TX4 7
theorem nmX4 : ∀ a, a < 7 → ∀ b, b < 7 → a ≠ b → (TX4 a).2.1 ≠ (TX4 b).2.1 := by decide +kernel
theorem tyX4_ok : ∀ k, k < 7 → parseFieldDescriptor (TX4 k).2.2.1 = some (tyX4 k) := by decide +kernel
abbrev cX4_init : ByteArray := prog_6_method_1_code
def yX4_init : MethodName := ⟨RX4, "<init>", "()V"⟩
abbrev cX4_copyFrom : ByteArray := prog_6_method_2_code
def yX4_copyFrom : MethodName := ⟨RX4, "copyFrom", "(LSealedGroups$Pages;)V"⟩
abbrev cX4_valueOf : ByteArray := prog_6_method_3_code
def yX4_valueOf : MethodName := ⟨RX4, "valueOf", "(I)I"⟩
abbrev cX4_markOf : ByteArray := prog_6_method_4_code
def yX4_markOf : MethodName := ⟨RX4, "markOf", "(I)I"⟩
abbrev cX4_startOf : ByteArray := prog_6_method_5_code
def yX4_startOf : MethodName := ⟨RX4, "startOf", "(I)I"⟩
abbrev cX4_put : ByteArray := prog_6_method_6_code
def yX4_put : MethodName := ⟨RX4, "put", "(III)V"⟩
abbrev cX4_toDisk : ByteArray := prog_6_method_7_code
def yX4_toDisk : MethodName := ⟨RX4, "toDisk", "(I)V"⟩
abbrev cX4_emptyCache : ByteArray := prog_6_method_8_code
def yX4_emptyCache : MethodName := ⟨RX4, "emptyCache", "()V"⟩
abbrev cX4_highestDiskMark : ByteArray := prog_6_method_9_code
def yX4_highestDiskMark : MethodName := ⟨RX4, "highestDiskMark", "()I"⟩
abbrev cX4_tell : ByteArray := prog_6_method_10_code
def yX4_tell : MethodName := ⟨RX4, "tell", "(II)I"⟩
def RX5 : String := "SealedGroups$Restarter"
def TX5 : u_T := fun k => match k with
  | 0 => ("SealedGroups$Restarter", "starts", "[I", true)
  | 1 => ("SealedGroups$Restarter", "takenBack", "[I", true)
  | 2 => ("SealedGroups$Restarter", "lookedFrom", "I", false)
  | 3 => ("SealedGroups$Restarter", "losers", "I", false)
  | 4 => ("SealedGroups$Restarter", "doneAgain", "I", false)
  | _ => ("SealedGroups$Restarter", "writesTakenBack", "I", false)
def tyX5 : Nat → FieldType := fun k => match k with
  | 0 => .array .int
  | 1 => .array .int
  | 2 => .int
  | 3 => .int
  | 4 => .int
  | _ => .int
abbrev wsX50 : List Cond := u_ws RX5 TX5 6
theorem nmX5 : ∀ a, a < 6 → ∀ b, b < 6 → a ≠ b → (TX5 a).2.1 ≠ (TX5 b).2.1 := by decide +kernel
theorem tyX5_ok : ∀ k, k < 6 → parseFieldDescriptor (TX5 k).2.2.1 = some (tyX5 k) := by decide +kernel
abbrev cX5_init : ByteArray := prog_7_method_1_code
def yX5_init : MethodName := ⟨RX5, "<init>", "()V"⟩
abbrev cX5_run : ByteArray := prog_7_method_2_code
def yX5_run : MethodName := ⟨RX5, "run", "(LSealedGroups$Store;)I"⟩
abbrev cX5_tell : ByteArray := prog_7_method_3_code
def yX5_tell : MethodName := ⟨RX5, "tell", "(I)I"⟩
abbrev cX5_look : ByteArray := prog_7_method_4_code
def yX5_look : MethodName := ⟨RX5, "look", "(LSealedGroups$Journal;)V"⟩
abbrev cX5_lookAt : ByteArray := prog_7_method_5_code
def yX5_lookAt : MethodName := ⟨RX5, "lookAt", "(LSealedGroups$Journal;I)V"⟩
abbrev cX5_doAgain : ByteArray := prog_7_method_6_code
def yX5_doAgain : MethodName := ⟨RX5, "doAgain", "(LSealedGroups$Journal;LSealedGroups$Pages;)V"⟩
abbrev cX5_isAfterStart : ByteArray := prog_7_method_7_code
def yX5_isAfterStart : MethodName := ⟨RX5, "isAfterStart", "(II)Z"⟩
abbrev cX5_leastStart : ByteArray := prog_7_method_8_code
def yX5_leastStart : MethodName := ⟨RX5, "leastStart", "()I"⟩
abbrev cX5_takeLosersBack : ByteArray := prog_7_method_9_code
def yX5_takeLosersBack : MethodName := ⟨RX5, "takeLosersBack", "(LSealedGroups$Store;)V"⟩
abbrev cX5_noteTakenBack : ByteArray := prog_7_method_10_code
def yX5_noteTakenBack : MethodName := ⟨RX5, "noteTakenBack", "(I)V"⟩
abbrev cX5_isTakenBack : ByteArray := prog_7_method_11_code
def yX5_isTakenBack : MethodName := ⟨RX5, "isTakenBack", "(I)Z"⟩
def RX6 : String := "SealedGroups$Store"
def TX6 : u_T := fun k => match k with
  | 0 => ("SealedGroups$Store", "pages", "LSealedGroups$Pages;", true)
  | 1 => ("SealedGroups$Store", "groups", "LSealedGroups$Groups;", true)
  | 2 => ("SealedGroups$Store", "journal", "LSealedGroups$Journal;", true)
  | 3 => ("SealedGroups$Store", "stopped", "Z", false)
  | _ => ("SealedGroups$Store", "doneAgain", "I", false)
def tyX6 : Nat → FieldType := fun k => match k with
  | 0 => .object "SealedGroups$Pages"
  | 1 => .object "SealedGroups$Groups"
  | 2 => .object "SealedGroups$Journal"
  | 3 => .boolean
  | _ => .int
abbrev wsX60 : List Cond := u_ws RX6 TX6 5
theorem nmX6 : ∀ a, a < 5 → ∀ b, b < 5 → a ≠ b → (TX6 a).2.1 ≠ (TX6 b).2.1 := by decide +kernel
theorem tyX6_ok : ∀ k, k < 5 → parseFieldDescriptor (TX6 k).2.2.1 = some (tyX6 k) := by decide +kernel
abbrev cX6_init : ByteArray := prog_8_method_1_code
def yX6_init : MethodName := ⟨RX6, "<init>", "()V"⟩
abbrev cX6_copyFrom : ByteArray := prog_8_method_2_code
def yX6_copyFrom : MethodName := ⟨RX6, "copyFrom", "(LSealedGroups$Store;)V"⟩
abbrev cX6_beginGroup : ByteArray := prog_8_method_3_code
def yX6_beginGroup : MethodName := ⟨RX6, "beginGroup", "(I)I"⟩
abbrev cX6_writePage : ByteArray := prog_8_method_4_code
def yX6_writePage : MethodName := ⟨RX6, "writePage", "(III)I"⟩
abbrev cX6_errorOfEnding : ByteArray := prog_8_method_5_code
def yX6_errorOfEnding : MethodName := ⟨RX6, "errorOfEnding", "(II)I"⟩
abbrev cX6_settleGroup : ByteArray := prog_8_method_6_code
def yX6_settleGroup : MethodName := ⟨RX6, "settleGroup", "(I)I"⟩
abbrev cX6_takeGroupBack : ByteArray := prog_8_method_7_code
def yX6_takeGroupBack : MethodName := ⟨RX6, "takeGroupBack", "(I)I"⟩
abbrev cX6_takeWriteBack : ByteArray := prog_8_method_8_code
def yX6_takeWriteBack : MethodName := ⟨RX6, "takeWriteBack", "(I)V"⟩
abbrev cX6_endGroup : ByteArray := prog_8_method_9_code
def yX6_endGroup : MethodName := ⟨RX6, "endGroup", "(I)V"⟩
abbrev cX6_writePageOut : ByteArray := prog_8_method_10_code
def yX6_writePageOut : MethodName := ⟨RX6, "writePageOut", "(I)I"⟩
abbrev cX6_dropPageOut : ByteArray := prog_8_method_11_code
def yX6_dropPageOut : MethodName := ⟨RX6, "dropPageOut", "(I)I"⟩
abbrev cX6_makeCheckpoint : ByteArray := prog_8_method_12_code
def yX6_makeCheckpoint : MethodName := ⟨RX6, "makeCheckpoint", "()I"⟩
abbrev cX6_dropOldRecords : ByteArray := prog_8_method_13_code
def yX6_dropOldRecords : MethodName := ⟨RX6, "dropOldRecords", "()I"⟩
abbrev cX6_forceAll : ByteArray := prog_8_method_14_code
def yX6_forceAll : MethodName := ⟨RX6, "forceAll", "()I"⟩
abbrev cX6_stopStore : ByteArray := prog_8_method_15_code
def yX6_stopStore : MethodName := ⟨RX6, "stopStore", "(I)I"⟩
def RX7 : String := "SealedGroups"
def TX7 : u_T := fun k => match k with
  | 0 => ("SealedGroups", "now", "LSealedGroups$Store;", true)
  | 1 => ("SealedGroups", "trial", "LSealedGroups$Store;", true)
  | 2 => ("SealedGroups", "restarter", "LSealedGroups$Restarter;", true)
  | 3 => ("SealedGroups", "history", "LSealedGroups$History;", true)
  | 4 => ("SealedGroups", "text", "LSealedGroups$OrderText;", true)
  | 5 => ("SealedGroups", "faultPosition", "I", false)
  | 6 => ("SealedGroups", "faultReason", "I", false)
  | _ => ("SealedGroups", "ordersDone", "I", false)
def tyX7 : Nat → FieldType := fun k => match k with
  | 0 => .object "SealedGroups$Store"
  | 1 => .object "SealedGroups$Store"
  | 2 => .object "SealedGroups$Restarter"
  | 3 => .object "SealedGroups$History"
  | 4 => .object "SealedGroups$OrderText"
  | 5 => .int
  | 6 => .int
  | _ => .int
abbrev wsX70 : List Cond := u_ws RX7 TX7 8
theorem nmX7 : ∀ a, a < 8 → ∀ b, b < 8 → a ≠ b → (TX7 a).2.1 ≠ (TX7 b).2.1 := by decide +kernel
theorem tyX7_ok : ∀ k, k < 8 → parseFieldDescriptor (TX7 k).2.2.1 = some (tyX7 k) := by decide +kernel
abbrev cX7_init : ByteArray := prog_1_method_1_code
def yX7_init : MethodName := ⟨RX7, "<init>", "()V"⟩
abbrev cX7_begin : ByteArray := prog_1_method_2_code
def yX7_begin : MethodName := ⟨RX7, "begin", "(I)I"⟩
abbrev cX7_write : ByteArray := prog_1_method_3_code
def yX7_write : MethodName := ⟨RX7, "write", "(III)I"⟩
abbrev cX7_settle : ByteArray := prog_1_method_4_code
def yX7_settle : MethodName := ⟨RX7, "settle", "(I)I"⟩
abbrev cX7_takeBack : ByteArray := prog_1_method_5_code
def yX7_takeBack : MethodName := ⟨RX7, "takeBack", "(I)I"⟩
abbrev cX7_writeOut : ByteArray := prog_1_method_6_code
def yX7_writeOut : MethodName := ⟨RX7, "writeOut", "(I)I"⟩
abbrev cX7_dropOut : ByteArray := prog_1_method_7_code
def yX7_dropOut : MethodName := ⟨RX7, "dropOut", "(I)I"⟩
abbrev cX7_checkpoint : ByteArray := prog_1_method_8_code
def yX7_checkpoint : MethodName := ⟨RX7, "checkpoint", "()I"⟩
abbrev cX7_dropRecords : ByteArray := prog_1_method_9_code
def yX7_dropRecords : MethodName := ⟨RX7, "dropRecords", "()I"⟩
abbrev cX7_force : ByteArray := prog_1_method_10_code
def yX7_force : MethodName := ⟨RX7, "force", "()I"⟩
abbrev cX7_stop : ByteArray := prog_1_method_11_code
def yX7_stop : MethodName := ⟨RX7, "stop", "(I)I"⟩
abbrev cX7_restart : ByteArray := prog_1_method_12_code
def yX7_restart : MethodName := ⟨RX7, "restart", "()I"⟩
abbrev cX7_pageOf : ByteArray := prog_1_method_13_code
def yX7_pageOf : MethodName := ⟨RX7, "pageOf", "(II)I"⟩
abbrev cX7_recordOf : ByteArray := prog_1_method_14_code
def yX7_recordOf : MethodName := ⟨RX7, "recordOf", "(II)I"⟩
abbrev cX7_groupOf : ByteArray := prog_1_method_15_code
def yX7_groupOf : MethodName := ⟨RX7, "groupOf", "(II)I"⟩
abbrev cX7_would : ByteArray := prog_1_method_16_code
def yX7_would : MethodName := ⟨RX7, "would", "(II)I"⟩
abbrev cX7_count : ByteArray := prog_1_method_17_code
def yX7_count : MethodName := ⟨RX7, "count", "(I)I"⟩
abbrev cX7_undo : ByteArray := prog_1_method_18_code
def yX7_undo : MethodName := ⟨RX7, "undo", "()I"⟩
abbrev cX7_type : ByteArray := prog_1_method_19_code
def yX7_type : MethodName := ⟨RX7, "type", "(I)I"⟩
abbrev cX7_clearText : ByteArray := prog_1_method_20_code
def yX7_clearText : MethodName := ⟨RX7, "clearText", "()I"⟩
abbrev cX7_fault : ByteArray := prog_1_method_21_code
def yX7_fault : MethodName := ⟨RX7, "fault", "(I)I"⟩
abbrev cX7_play : ByteArray := prog_1_method_22_code
def yX7_play : MethodName := ⟨RX7, "play", "()I"⟩
abbrev cX7_tryText : ByteArray := prog_1_method_23_code
def yX7_tryText : MethodName := ⟨RX7, "tryText", "()V"⟩
abbrev cX7_reasonOf : ByteArray := prog_1_method_24_code
def yX7_reasonOf : MethodName := ⟨RX7, "reasonOf", "(I)I"⟩
abbrev cX7_doOrder : ByteArray := prog_1_method_25_code
def yX7_doOrder : MethodName := ⟨RX7, "doOrder", "()I"⟩
def RX8 : String := "SealedGroupsModel"
def TX8 : u_T := fun k => match k with
  | 0 => ("SealedGroupsModel", "s", "[I", true)
  | 1 => ("SealedGroupsModel", "past", "[I", true)
  | 2 => ("SealedGroupsModel", "held", "[I", true)
  | 3 => ("SealedGroupsModel", "tried", "[I", true)
  | 4 => ("SealedGroupsModel", "pasts", "I", false)
  | 5 => ("SealedGroupsModel", "runs", "Z", false)
  | 6 => ("SealedGroupsModel", "text", "[I", true)
  | 7 => ("SealedGroupsModel", "typed", "I", false)
  | 8 => ("SealedGroupsModel", "numbers", "[I", true)
  | 9 => ("SealedGroupsModel", "losers", "I", false)
  | 10 => ("SealedGroupsModel", "taken", "I", false)
  | 11 => ("SealedGroupsModel", "spot", "I", false)
  | 12 => ("SealedGroupsModel", "reason", "I", false)
  | 13 => ("SealedGroupsModel", "cause", "I", false)
  | 14 => ("SealedGroupsModel", "orders", "I", false)
  | _ => ("SealedGroupsModel", "told", "[I", true)
def tyX8 : Nat → FieldType := fun k => match k with
  | 0 => .array .int
  | 1 => .array .int
  | 2 => .array .int
  | 3 => .array .int
  | 4 => .int
  | 5 => .boolean
  | 6 => .array .int
  | 7 => .int
  | 8 => .array .int
  | 9 => .int
  | 10 => .int
  | 11 => .int
  | 12 => .int
  | 13 => .int
  | 14 => .int
  | _ => .array .int
abbrev wsX80 : List Cond := u_ws RX8 TX8 16
theorem nmX8 : ∀ a, a < 16 → ∀ b, b < 16 → a ≠ b → (TX8 a).2.1 ≠ (TX8 b).2.1 := by decide +kernel
theorem tyX8_ok : ∀ k, k < 16 → parseFieldDescriptor (TX8 k).2.2.1 = some (tyX8 k) := by decide +kernel
abbrev cX8_init : ByteArray := prog_10_method_1_code
def yX8_init : MethodName := ⟨RX8, "<init>", "()V"⟩
abbrev cX8_in : ByteArray := prog_10_method_3_code
def yX8_in : MethodName := ⟨RX8, "in", "(III)Z"⟩
abbrev cX8_copies : ByteArray := prog_10_method_4_code
def yX8_copies : MethodName := ⟨RX8, "copies", "([I[I)V"⟩
abbrev cX8_changes : ByteArray := prog_10_method_5_code
def yX8_changes : MethodName := ⟨RX8, "changes", "()V"⟩
abbrev cX8_isStopped : ByteArray := prog_10_method_6_code
def yX8_isStopped : MethodName := ⟨RX8, "isStopped", "()Z"⟩
abbrev cX8_ofGroup : ByteArray := prog_10_method_7_code
def yX8_ofGroup : MethodName := ⟨RX8, "ofGroup", "(II)I"⟩
abbrev cX8_putsGroup : ByteArray := prog_10_method_8_code
def yX8_putsGroup : MethodName := ⟨RX8, "putsGroup", "(III)V"⟩
abbrev cX8_isOpen : ByteArray := prog_10_method_9_code
def yX8_isOpen : MethodName := ⟨RX8, "isOpen", "(I)Z"⟩
abbrev cX8_ofPage : ByteArray := prog_10_method_10_code
def yX8_ofPage : MethodName := ⟨RX8, "ofPage", "(II)I"⟩
abbrev cX8_putsPage : ByteArray := prog_10_method_11_code
def yX8_putsPage : MethodName := ⟨RX8, "putsPage", "(III)V"⟩
abbrev cX8_value : ByteArray := prog_10_method_12_code
def yX8_value : MethodName := ⟨RX8, "value", "(I)I"⟩
abbrev cX8_mark : ByteArray := prog_10_method_13_code
def yX8_mark : MethodName := ⟨RX8, "mark", "(I)I"⟩
abbrev cX8_isDirty : ByteArray := prog_10_method_14_code
def yX8_isDirty : MethodName := ⟨RX8, "isDirty", "(I)Z"⟩
abbrev cX8_last : ByteArray := prog_10_method_15_code
def yX8_last : MethodName := ⟨RX8, "last", "()I"⟩
abbrev cX8_isRecord : ByteArray := prog_10_method_16_code
def yX8_isRecord : MethodName := ⟨RX8, "isRecord", "(I)Z"⟩
abbrev cX8_of : ByteArray := prog_10_method_17_code
def yX8_of : MethodName := ⟨RX8, "of", "(II)I"⟩
abbrev cX8_adds : ByteArray := prog_10_method_18_code
def yX8_adds : MethodName := ⟨RX8, "adds", "(IIIIII)I"⟩
abbrev cX8_forces : ByteArray := prog_10_method_19_code
def yX8_forces : MethodName := ⟨RX8, "forces", "(I)I"⟩
abbrev cX8_comes : ByteArray := prog_10_method_20_code
def yX8_comes : MethodName := ⟨RX8, "comes", "(III)V"⟩
abbrev cX8_holder : ByteArray := prog_10_method_21_code
def yX8_holder : MethodName := ⟨RX8, "holder", "(I)I"⟩
abbrev cX8_begin : ByteArray := prog_10_method_22_code
def yX8_begin : MethodName := ⟨RX8, "begin", "(I)I"⟩
abbrev cX8_write : ByteArray := prog_10_method_23_code
def yX8_write : MethodName := ⟨RX8, "write", "(III)I"⟩
abbrev cX8_bits : ByteArray := prog_10_method_24_code
def yX8_bits : MethodName := ⟨RX8, "bits", "(I)I"⟩
abbrev cX8_closes : ByteArray := prog_10_method_25_code
def yX8_closes : MethodName := ⟨RX8, "closes", "(I)V"⟩
abbrev cX8_settle : ByteArray := prog_10_method_26_code
def yX8_settle : MethodName := ⟨RX8, "settle", "(I)I"⟩
abbrev cX8_isTakenBack : ByteArray := prog_10_method_27_code
def yX8_isTakenBack : MethodName := ⟨RX8, "isTakenBack", "(I)Z"⟩
abbrev cX8_takes : ByteArray := prog_10_method_28_code
def yX8_takes : MethodName := ⟨RX8, "takes", "(I)I"⟩
abbrev cX8_takeBack : ByteArray := prog_10_method_29_code
def yX8_takeBack : MethodName := ⟨RX8, "takeBack", "(I)I"⟩
abbrev cX8_writeOut : ByteArray := prog_10_method_30_code
def yX8_writeOut : MethodName := ⟨RX8, "writeOut", "(I)I"⟩
abbrev cX8_pages : ByteArray := prog_10_method_31_code
def yX8_pages : MethodName := ⟨RX8, "pages", "(I)I"⟩
abbrev cX8_dropOut : ByteArray := prog_10_method_32_code
def yX8_dropOut : MethodName := ⟨RX8, "dropOut", "(I)I"⟩
abbrev cX8_openSet : ByteArray := prog_10_method_33_code
def yX8_openSet : MethodName := ⟨RX8, "openSet", "()I"⟩
abbrev cX8_checkpoint : ByteArray := prog_10_method_34_code
def yX8_checkpoint : MethodName := ⟨RX8, "checkpoint", "()I"⟩
abbrev cX8_latest : ByteArray := prog_10_method_35_code
def yX8_latest : MethodName := ⟨RX8, "latest", "()I"⟩
abbrev cX8_canDrop : ByteArray := prog_10_method_36_code
def yX8_canDrop : MethodName := ⟨RX8, "canDrop", "()I"⟩
abbrev cX8_dropRecords : ByteArray := prog_10_method_37_code
def yX8_dropRecords : MethodName := ⟨RX8, "dropRecords", "()I"⟩
abbrev cX8_force : ByteArray := prog_10_method_38_code
def yX8_force : MethodName := ⟨RX8, "force", "()I"⟩
abbrev cX8_isTorn : ByteArray := prog_10_method_39_code
def yX8_isTorn : MethodName := ⟨RX8, "isTorn", "()Z"⟩
abbrev cX8_stops : ByteArray := prog_10_method_40_code
def yX8_stops : MethodName := ⟨RX8, "stops", "(I)I"⟩
abbrev cX8_stop : ByteArray := prog_10_method_41_code
def yX8_stop : MethodName := ⟨RX8, "stop", "(I)I"⟩
abbrev cX8_looks : ByteArray := prog_10_method_42_code
def yX8_looks : MethodName := ⟨RX8, "looks", "()V"⟩
abbrev cX8_restarts : ByteArray := prog_10_method_43_code
def yX8_restarts : MethodName := ⟨RX8, "restarts", "()I"⟩
abbrev cX8_restart : ByteArray := prog_10_method_44_code
def yX8_restart : MethodName := ⟨RX8, "restart", "()I"⟩
abbrev cX8_nextKind : ByteArray := prog_10_method_45_code
def yX8_nextKind : MethodName := ⟨RX8, "nextKind", "(II)I"⟩
abbrev cX8_settledValue : ByteArray := prog_10_method_46_code
def yX8_settledValue : MethodName := ⟨RX8, "settledValue", "(I)I"⟩
abbrev cX8_pageOf : ByteArray := prog_10_method_47_code
def yX8_pageOf : MethodName := ⟨RX8, "pageOf", "(II)I"⟩
abbrev cX8_recordOf : ByteArray := prog_10_method_48_code
def yX8_recordOf : MethodName := ⟨RX8, "recordOf", "(II)I"⟩
abbrev cX8_groupOf : ByteArray := prog_10_method_49_code
def yX8_groupOf : MethodName := ⟨RX8, "groupOf", "(II)I"⟩
abbrev cX8_would : ByteArray := prog_10_method_50_code
def yX8_would : MethodName := ⟨RX8, "would", "(II)I"⟩
abbrev cX8_count : ByteArray := prog_10_method_51_code
def yX8_count : MethodName := ⟨RX8, "count", "(I)I"⟩
abbrev cX8_undo : ByteArray := prog_10_method_52_code
def yX8_undo : MethodName := ⟨RX8, "undo", "()I"⟩
abbrev cX8_type : ByteArray := prog_10_method_53_code
def yX8_type : MethodName := ⟨RX8, "type", "(I)I"⟩
abbrev cX8_clearText : ByteArray := prog_10_method_54_code
def yX8_clearText : MethodName := ⟨RX8, "clearText", "()I"⟩
abbrev cX8_passes : ByteArray := prog_10_method_55_code
def yX8_passes : MethodName := ⟨RX8, "passes", "(I)Z"⟩
abbrev cX8_number : ByteArray := prog_10_method_56_code
def yX8_number : MethodName := ⟨RX8, "number", "(II)Z"⟩
abbrev cX8_isForm : ByteArray := prog_10_method_57_code
def yX8_isForm : MethodName := ⟨RX8, "isForm", "(I)Z"⟩
abbrev cX8_calls : ByteArray := prog_10_method_58_code
def yX8_calls : MethodName := ⟨RX8, "calls", "(I)I"⟩
abbrev cX8_plays : ByteArray := prog_10_method_59_code
def yX8_plays : MethodName := ⟨RX8, "plays", "()I"⟩
abbrev cX8_fault : ByteArray := prog_10_method_60_code
def yX8_fault : MethodName := ⟨RX8, "fault", "(I)I"⟩
abbrev cX8_play : ByteArray := prog_10_method_61_code
def yX8_play : MethodName := ⟨RX8, "play", "()I"⟩
def RJ6 : String := "java/lang/Integer"
def TJ6 : u_T := fun k => match k with
  | _ => ("", "", "", false)
def tyJ6 : Nat → FieldType := fun k => match k with
  | _ => .int
abbrev wsJ60 : List Cond := u_ws RJ6 TJ6 0
theorem nmJ6 : ∀ a, a < 0 → ∀ b, b < 0 → a ≠ b → (TJ6 a).2.1 ≠ (TJ6 b).2.1 := by decide +kernel
theorem tyJ6_ok : ∀ k, k < 0 → parseFieldDescriptor (TJ6 k).2.2.1 = some (tyJ6 k) := by decide +kernel
abbrev cJ6_bitCount_0f7a4 : ByteArray := prog_11_method_49_code
def yJ6_bitCount_0f7a4 : MethodName := ⟨RJ6, "bitCount", "(I)I"⟩
def RJ9 : String := "java/lang/Math"
def TJ9 : u_T := fun k => match k with
  | _ => ("", "", "", false)
def tyJ9 : Nat → FieldType := fun k => match k with
  | _ => .int
abbrev wsJ90 : List Cond := u_ws RJ9 TJ9 0
theorem nmJ9 : ∀ a, a < 0 → ∀ b, b < 0 → a ≠ b → (TJ9 a).2.1 ≠ (TJ9 b).2.1 := by decide +kernel
theorem tyJ9_ok : ∀ k, k < 0 → parseFieldDescriptor (TJ9 k).2.2.1 = some (tyJ9 k) := by decide +kernel
abbrev cJ9_floorMod_7cf53 : ByteArray := prog_12_method_50_code
def yJ9_floorMod_7cf53 : MethodName := ⟨RJ9, "floorMod", "(II)I"⟩
abbrev cJ9_max_7cf53 : ByteArray := prog_12_method_65_code
def yJ9_max_7cf53 : MethodName := ⟨RJ9, "max", "(II)I"⟩
abbrev cJ9_min_7cf53 : ByteArray := prog_12_method_69_code
def yJ9_min_7cf53 : MethodName := ⟨RJ9, "min", "(II)I"⟩
def RJ10 : String := "java/lang/System"
def TJ10 : u_T := fun k => match k with
  | _ => ("", "", "", false)
def tyJ10 : Nat → FieldType := fun k => match k with
  | _ => .int
abbrev wsJ100 : List Cond := u_ws RJ10 TJ10 0
theorem nmJ10 : ∀ a, a < 0 → ∀ b, b < 0 → a ≠ b → (TJ10 a).2.1 ≠ (TJ10 b).2.1 := by decide +kernel
theorem tyJ10_ok : ∀ k, k < 0 → parseFieldDescriptor (TJ10 k).2.2.1 = some (tyJ10 k) := by decide +kernel
def RL : String := "SealedGroupsLaw"
abbrev cL_law : ByteArray := code
def yL_law : MethodName := ⟨RL, "law", "([I)Z"⟩
abbrev vwCl : List vw_C := [(RX0, TX0, 4), (RX1, TX1, 3), (RX2, TX2, 12), (RX3, TX3, 8), (RX4, TX4, 7), (RX5, TX5, 6), (RX6, TX6, 5), (RX7, TX7, 8), (RX8, TX8, 16)]
def wsL_law : List Cond := lw_tbl.filter goodWord
theorem wsL_law_good : GoodIn lw_tbl wsL_law := fun w h => ⟨(List.mem_filter.mp h).1, good_of_word (List.mem_filter.mp h).2⟩
theorem wsL_law_in : ∀ w ∈ wsL_law, w ∈ lw_tbl := fun w h => (wsL_law_good w h).1
theorem wm {w : Cond} (h : w ∈ lw_tbl) (g : goodWord w = true) : w ∈ wsL_law := List.mem_filter.mpr ⟨h, g⟩
theorem inX0 : ∀ w ∈ wsX00, w ∈ wsL_law := by decide +kernel
theorem inX1 : ∀ w ∈ wsX10, w ∈ wsL_law := by decide +kernel
theorem inX2 : ∀ w ∈ wsX20, w ∈ wsL_law := by decide +kernel
theorem inX3 : ∀ w ∈ wsX30, w ∈ wsL_law := by decide +kernel
theorem inX4 : ∀ w ∈ wsX40, w ∈ wsL_law := by decide +kernel
theorem inX5 : ∀ w ∈ wsX50, w ∈ wsL_law := by decide +kernel
theorem inX6 : ∀ w ∈ wsX60, w ∈ wsL_law := by decide +kernel
theorem inX7 : ∀ w ∈ wsX70, w ∈ wsL_law := by decide +kernel
theorem inX8 : ∀ w ∈ wsX80, w ∈ wsL_law := by decide +kernel
end
section
theorem wt_1 {w : Cond} (h : w ∈ tables_1_1) : w ∈ lw_tbl := List.mem_append_right _ (List.mem_append_left _ h)
theorem wt_2 {w : Cond} (h : w ∈ tables_1_2) : w ∈ lw_tbl := List.mem_append_right _ (List.mem_append_right _ (List.mem_append_left _ h))
theorem wt_3 {w : Cond} (h : w ∈ tables_1_3) : w ∈ lw_tbl := List.mem_append_right _ (List.mem_append_right _ (List.mem_append_right _ (List.mem_append_left _ h)))
theorem wt_4 {w : Cond} (h : w ∈ tables_1_4) : w ∈ lw_tbl := List.mem_append_right _ (List.mem_append_right _ (List.mem_append_right _ (List.mem_append_right _ (List.mem_append_left _ h))))
theorem wt_5 {w : Cond} (h : w ∈ tables_1_5) : w ∈ lw_tbl := List.mem_append_right _ (List.mem_append_right _ (List.mem_append_right _ (List.mem_append_right _ (List.mem_append_right _ h))))
theorem wpl_1 {q : MethodName × Nat} (h : q ∈ lw_privs_1) : q ∈ lw_privs := List.mem_append_left _ h
theorem wp_1 {w : Cond} (h : w ∈ k2_sels lw_privs_1) : w ∈ lw_tbl := by
  obtain ⟨q, hq, rfl⟩ := List.mem_map.mp h
  exact List.mem_append_left _ (List.mem_map.mpr ⟨q, wpl_1 hq, rfl⟩)
theorem wpl_2 {q : MethodName × Nat} (h : q ∈ lw_privs_2) : q ∈ lw_privs := List.mem_append_right _ (List.mem_append_left _ h)
theorem wp_2 {w : Cond} (h : w ∈ k2_sels lw_privs_2) : w ∈ lw_tbl := by
  obtain ⟨q, hq, rfl⟩ := List.mem_map.mp h
  exact List.mem_append_left _ (List.mem_map.mpr ⟨q, wpl_2 hq, rfl⟩)
theorem wpl_3 {q : MethodName × Nat} (h : q ∈ lw_privs_3) : q ∈ lw_privs := List.mem_append_right _ (List.mem_append_right _ (List.mem_append_left _ h))
theorem wp_3 {w : Cond} (h : w ∈ k2_sels lw_privs_3) : w ∈ lw_tbl := by
  obtain ⟨q, hq, rfl⟩ := List.mem_map.mp h
  exact List.mem_append_left _ (List.mem_map.mpr ⟨q, wpl_3 hq, rfl⟩)
theorem wpl_4 {q : MethodName × Nat} (h : q ∈ lw_privs_4) : q ∈ lw_privs := List.mem_append_right _ (List.mem_append_right _ (List.mem_append_right _ h))
theorem wp_4 {w : Cond} (h : w ∈ k2_sels lw_privs_4) : w ∈ lw_tbl := by
  obtain ⟨q, hq, rfl⟩ := List.mem_map.mp h
  exact List.mem_append_left _ (List.mem_map.mpr ⟨q, wpl_4 hq, rfl⟩)
theorem wm_0 : Cond.classLink RL 7 RX7 ∈ wsL_law := wm (wt_1 (List.mem_of_getElem? (i := 13) (by decide +kernel))) rfl
theorem wm_1 : Cond.instantiable RX7 8 ∈ wsL_law := wm (wt_1 (List.mem_of_getElem? (i := 14) (by decide +kernel))) rfl
theorem wm_2 : Cond.initialized RX7 ∈ wsL_law := wm (wt_1 (List.mem_of_getElem? (i := 1) (by decide +kernel))) rfl
theorem wm_3 : Cond.classLink RL 10 RX8 ∈ wsL_law := wm (wt_3 (List.mem_of_getElem? (i := 231) (by decide +kernel))) rfl
theorem wm_4 : Cond.instantiable RX8 16 ∈ wsL_law := wm (wt_3 (List.mem_of_getElem? (i := 232) (by decide +kernel))) rfl
theorem wm_5 : Cond.initialized RX8 ∈ wsL_law := wm (wt_1 (List.mem_of_getElem? (i := 9) (by decide +kernel))) rfl
theorem wm_6 : Cond.methodLink RL 9 yX7_init ∈ wsL_law := wm (wt_1 (List.mem_of_getElem? (i := 15) (by decide +kernel))) rfl
theorem wm_7 : Cond.instanceMethod yX7_init ∈ wsL_law := wm (wt_1 (List.mem_of_getElem? (i := 16) (by decide +kernel))) rfl
theorem wm_8 : Cond.code yX7_init cX7_init 1 none ∈ wsL_law := wm (wt_1 (List.mem_of_getElem? (i := 17) (by decide +kernel))) rfl
theorem wm_9 : Cond.methodLink RX7 1 objectInit ∈ wsL_law := wm (wt_1 (List.mem_of_getElem? (i := 18) (by decide +kernel))) rfl
theorem wm_10 : Cond.instanceMethod objectInit ∈ wsL_law := wm (wt_1 (List.mem_of_getElem? (i := 19) (by decide +kernel))) rfl
theorem wm_11 : Cond.code objectInit ⟨#[0xb1]⟩ 1 none ∈ wsL_law := wm (wt_1 (List.mem_of_getElem? (i := 20) (by decide +kernel))) rfl
theorem wm_12 : Cond.classLink RX7 7 RX6 ∈ wsL_law := wm (wt_1 (List.mem_of_getElem? (i := 21) (by decide +kernel))) rfl
theorem wm_13 : Cond.instantiable RX6 5 ∈ wsL_law := wm (wt_1 (List.mem_of_getElem? (i := 22) (by decide +kernel))) rfl
theorem wm_14 : Cond.initialized RX6 ∈ wsL_law := wm (wt_1 (List.mem_of_getElem? (i := 2) (by decide +kernel))) rfl
theorem wm_15 : Cond.fieldLink RX7 10 "SealedGroups" "now" "LSealedGroups$Store;" ∈ wsL_law := wm (wt_2 (List.mem_of_getElem? (i := 12) (by decide +kernel))) rfl
theorem wm_16 : Cond.fieldLink RX7 16 "SealedGroups" "trial" "LSealedGroups$Store;" ∈ wsL_law := wm (wt_2 (List.mem_of_getElem? (i := 13) (by decide +kernel))) rfl
theorem wm_17 : Cond.classLink RX7 19 RX5 ∈ wsL_law := wm (wt_1 (List.mem_of_getElem? (i := 168) (by decide +kernel))) rfl
theorem wm_18 : Cond.instantiable RX5 6 ∈ wsL_law := wm (wt_1 (List.mem_of_getElem? (i := 169) (by decide +kernel))) rfl
theorem wm_19 : Cond.initialized RX5 ∈ wsL_law := wm (wt_1 (List.mem_of_getElem? (i := 6) (by decide +kernel))) rfl
theorem wm_20 : Cond.fieldLink RX7 22 "SealedGroups" "restarter" "LSealedGroups$Restarter;" ∈ wsL_law := wm (wt_2 (List.mem_of_getElem? (i := 14) (by decide +kernel))) rfl
theorem wm_21 : Cond.classLink RX7 26 RX1 ∈ wsL_law := wm (wt_1 (List.mem_of_getElem? (i := 193) (by decide +kernel))) rfl
theorem wm_22 : Cond.instantiable RX1 3 ∈ wsL_law := wm (wt_1 (List.mem_of_getElem? (i := 194) (by decide +kernel))) rfl
theorem wm_23 : Cond.initialized RX1 ∈ wsL_law := wm (wt_1 (List.mem_of_getElem? (i := 7) (by decide +kernel))) rfl
theorem wm_24 : Cond.fieldLink RX7 29 "SealedGroups" "history" "LSealedGroups$History;" ∈ wsL_law := wm (wt_2 (List.mem_of_getElem? (i := 15) (by decide +kernel))) rfl
theorem wm_25 : Cond.classLink RX7 33 RX3 ∈ wsL_law := wm (wt_1 (List.mem_of_getElem? (i := 213) (by decide +kernel))) rfl
theorem wm_26 : Cond.instantiable RX3 8 ∈ wsL_law := wm (wt_1 (List.mem_of_getElem? (i := 214) (by decide +kernel))) rfl
theorem wm_27 : Cond.initialized RX3 ∈ wsL_law := wm (wt_1 (List.mem_of_getElem? (i := 8) (by decide +kernel))) rfl
theorem wm_28 : Cond.fieldLink RX7 36 "SealedGroups" "text" "LSealedGroups$OrderText;" ∈ wsL_law := wm (wt_2 (List.mem_of_getElem? (i := 16) (by decide +kernel))) rfl
theorem wm_29 : Cond.instanceMethod yX6_init ∈ wsL_law := wm (wt_1 (List.mem_of_getElem? (i := 24) (by decide +kernel))) rfl
theorem wm_30 : Cond.code yX6_init cX6_init 1 none ∈ wsL_law := wm (wt_1 (List.mem_of_getElem? (i := 25) (by decide +kernel))) rfl
theorem wm_31 : Cond.methodLink RX6 3 objectInit ∈ wsL_law := wm (wt_1 (List.mem_of_getElem? (i := 26) (by decide +kernel))) rfl
theorem wm_32 : Cond.classLink RX6 9 RX4 ∈ wsL_law := wm (wt_1 (List.mem_of_getElem? (i := 27) (by decide +kernel))) rfl
theorem wm_33 : Cond.instantiable RX4 7 ∈ wsL_law := wm (wt_1 (List.mem_of_getElem? (i := 28) (by decide +kernel))) rfl
theorem wm_34 : Cond.initialized RX4 ∈ wsL_law := wm (wt_1 (List.mem_of_getElem? (i := 3) (by decide +kernel))) rfl
theorem wm_35 : Cond.fieldLink RX6 12 "SealedGroups$Store" "pages" "LSealedGroups$Pages;" ∈ wsL_law := wm (wt_1 (List.mem_of_getElem? (i := 143) (by decide +kernel))) rfl
theorem wm_36 : Cond.classLink RX6 18 RX0 ∈ wsL_law := wm (wt_1 (List.mem_of_getElem? (i := 62) (by decide +kernel))) rfl
theorem wm_37 : Cond.instantiable RX0 4 ∈ wsL_law := wm (wt_1 (List.mem_of_getElem? (i := 63) (by decide +kernel))) rfl
theorem wm_38 : Cond.initialized RX0 ∈ wsL_law := wm (wt_1 (List.mem_of_getElem? (i := 4) (by decide +kernel))) rfl
theorem wm_39 : Cond.fieldLink RX6 21 "SealedGroups$Store" "groups" "LSealedGroups$Groups;" ∈ wsL_law := wm (wt_1 (List.mem_of_getElem? (i := 146) (by decide +kernel))) rfl
theorem wm_40 : Cond.classLink RX6 25 RX2 ∈ wsL_law := wm (wt_1 (List.mem_of_getElem? (i := 85) (by decide +kernel))) rfl
theorem wm_41 : Cond.instantiable RX2 12 ∈ wsL_law := wm (wt_1 (List.mem_of_getElem? (i := 86) (by decide +kernel))) rfl
theorem wm_42 : Cond.initialized RX2 ∈ wsL_law := wm (wt_1 (List.mem_of_getElem? (i := 5) (by decide +kernel))) rfl
theorem wm_43 : Cond.fieldLink RX6 28 "SealedGroups$Store" "journal" "LSealedGroups$Journal;" ∈ wsL_law := wm (wt_1 (List.mem_of_getElem? (i := 148) (by decide +kernel))) rfl
theorem wm_44 : Cond.instanceMethod yX4_init ∈ wsL_law := wm (wt_1 (List.mem_of_getElem? (i := 30) (by decide +kernel))) rfl
theorem wm_45 : Cond.code yX4_init cX4_init 1 none ∈ wsL_law := wm (wt_1 (List.mem_of_getElem? (i := 31) (by decide +kernel))) rfl
theorem wm_46 : Cond.methodLink RX4 3 objectInit ∈ wsL_law := wm (wt_1 (List.mem_of_getElem? (i := 32) (by decide +kernel))) rfl
theorem wm_47 : Cond.arrayClass .int ∈ wsL_law := wm (wt_1 (List.mem_of_getElem? (i := 61) (by decide +kernel))) rfl
theorem wm_48 : Cond.fieldLink RX4 9 "SealedGroups$Pages" "diskValues" "[I" ∈ wsL_law := wm (wt_1 (List.mem_of_getElem? (i := 33) (by decide +kernel))) rfl
theorem wm_49 : Cond.fieldLink RX4 15 "SealedGroups$Pages" "diskMarks" "[I" ∈ wsL_law := wm (wt_1 (List.mem_of_getElem? (i := 34) (by decide +kernel))) rfl
theorem wm_50 : Cond.fieldLink RX4 18 "SealedGroups$Pages" "values" "[I" ∈ wsL_law := wm (wt_1 (List.mem_of_getElem? (i := 35) (by decide +kernel))) rfl
theorem wm_51 : Cond.fieldLink RX4 21 "SealedGroups$Pages" "marks" "[I" ∈ wsL_law := wm (wt_1 (List.mem_of_getElem? (i := 36) (by decide +kernel))) rfl
theorem wm_52 : Cond.fieldLink RX4 24 "SealedGroups$Pages" "starts" "[I" ∈ wsL_law := wm (wt_1 (List.mem_of_getElem? (i := 37) (by decide +kernel))) rfl
theorem wm_53 : Cond.instanceMethod yX0_init ∈ wsL_law := wm (wt_1 (List.mem_of_getElem? (i := 65) (by decide +kernel))) rfl
theorem wm_54 : Cond.code yX0_init cX0_init 1 none ∈ wsL_law := wm (wt_1 (List.mem_of_getElem? (i := 66) (by decide +kernel))) rfl
theorem wm_55 : Cond.methodLink RX0 3 objectInit ∈ wsL_law := wm (wt_1 (List.mem_of_getElem? (i := 67) (by decide +kernel))) rfl
theorem wm_56 : Cond.fieldLink RX0 9 "SealedGroups$Groups" "begins" "[I" ∈ wsL_law := wm (wt_1 (List.mem_of_getElem? (i := 68) (by decide +kernel))) rfl
theorem wm_57 : Cond.fieldLink RX0 15 "SealedGroups$Groups" "writes" "[I" ∈ wsL_law := wm (wt_1 (List.mem_of_getElem? (i := 70) (by decide +kernel))) rfl
theorem wm_58 : Cond.fieldLink RX0 18 "SealedGroups$Groups" "held" "[I" ∈ wsL_law := wm (wt_1 (List.mem_of_getElem? (i := 71) (by decide +kernel))) rfl
theorem wm_59 : Cond.instanceMethod yX2_init ∈ wsL_law := wm (wt_1 (List.mem_of_getElem? (i := 88) (by decide +kernel))) rfl
theorem wm_60 : Cond.code yX2_init cX2_init 1 none ∈ wsL_law := wm (wt_1 (List.mem_of_getElem? (i := 89) (by decide +kernel))) rfl
theorem wm_61 : Cond.methodLink RX2 3 objectInit ∈ wsL_law := wm (wt_1 (List.mem_of_getElem? (i := 90) (by decide +kernel))) rfl
theorem wm_62 : Cond.fieldLink RX2 9 "SealedGroups$Journal" "kinds" "[I" ∈ wsL_law := wm (wt_1 (List.mem_of_getElem? (i := 91) (by decide +kernel))) rfl
theorem wm_63 : Cond.fieldLink RX2 15 "SealedGroups$Journal" "owners" "[I" ∈ wsL_law := wm (wt_1 (List.mem_of_getElem? (i := 94) (by decide +kernel))) rfl
theorem wm_64 : Cond.fieldLink RX2 18 "SealedGroups$Journal" "pageNumbers" "[I" ∈ wsL_law := wm (wt_1 (List.mem_of_getElem? (i := 97) (by decide +kernel))) rfl
theorem wm_65 : Cond.fieldLink RX2 21 "SealedGroups$Journal" "olds" "[I" ∈ wsL_law := wm (wt_1 (List.mem_of_getElem? (i := 100) (by decide +kernel))) rfl
theorem wm_66 : Cond.fieldLink RX2 24 "SealedGroups$Journal" "news" "[I" ∈ wsL_law := wm (wt_1 (List.mem_of_getElem? (i := 103) (by decide +kernel))) rfl
theorem wm_67 : Cond.fieldLink RX2 27 "SealedGroups$Journal" "targets" "[I" ∈ wsL_law := wm (wt_1 (List.mem_of_getElem? (i := 105) (by decide +kernel))) rfl
theorem wm_68 : Cond.fieldLink RX2 30 "SealedGroups$Journal" "checkpointStarts" "[I" ∈ wsL_law := wm (wt_1 (List.mem_of_getElem? (i := 107) (by decide +kernel))) rfl
theorem wm_69 : Cond.fieldLink RX2 33 "SealedGroups$Journal" "first" "I" ∈ wsL_law := wm (wt_1 (List.mem_of_getElem? (i := 109) (by decide +kernel))) rfl
theorem wm_70 : Cond.instanceMethod yX5_init ∈ wsL_law := wm (wt_1 (List.mem_of_getElem? (i := 171) (by decide +kernel))) rfl
theorem wm_71 : Cond.code yX5_init cX5_init 1 none ∈ wsL_law := wm (wt_1 (List.mem_of_getElem? (i := 172) (by decide +kernel))) rfl
theorem wm_72 : Cond.methodLink RX5 3 objectInit ∈ wsL_law := wm (wt_1 (List.mem_of_getElem? (i := 173) (by decide +kernel))) rfl
theorem wm_73 : Cond.fieldLink RX5 9 "SealedGroups$Restarter" "starts" "[I" ∈ wsL_law := wm (wt_1 (List.mem_of_getElem? (i := 174) (by decide +kernel))) rfl
theorem wm_74 : Cond.fieldLink RX5 15 "SealedGroups$Restarter" "takenBack" "[I" ∈ wsL_law := wm (wt_1 (List.mem_of_getElem? (i := 175) (by decide +kernel))) rfl
theorem wm_75 : Cond.methodLink RX7 28 yX1_init ∈ wsL_law := wm (wt_1 (List.mem_of_getElem? (i := 195) (by decide +kernel))) rfl
theorem wm_76 : Cond.instanceMethod yX1_init ∈ wsL_law := wm (wt_1 (List.mem_of_getElem? (i := 196) (by decide +kernel))) rfl
theorem wm_77 : Cond.code yX1_init cX1_init 2 none ∈ wsL_law := wm (wt_1 (List.mem_of_getElem? (i := 197) (by decide +kernel))) rfl
theorem wm_78 : Cond.methodLink RX1 3 objectInit ∈ wsL_law := wm (wt_1 (List.mem_of_getElem? (i := 198) (by decide +kernel))) rfl
theorem wm_79 : Cond.classLink RX1 9 RX6 ∈ wsL_law := wm (wt_1 (List.mem_of_getElem? (i := 199) (by decide +kernel))) rfl
theorem wm_80 : Cond.fieldLink RX1 11 "SealedGroups$History" "rows" "[LSealedGroups$Store;" ∈ wsL_law := wm (wt_1 (List.mem_of_getElem? (i := 202) (by decide +kernel))) rfl
theorem wm_81 : Cond.instanceMethod yX3_init ∈ wsL_law := wm (wt_1 (List.mem_of_getElem? (i := 216) (by decide +kernel))) rfl
theorem wm_82 : Cond.code yX3_init cX3_init 1 none ∈ wsL_law := wm (wt_1 (List.mem_of_getElem? (i := 217) (by decide +kernel))) rfl
theorem wm_83 : Cond.methodLink RX3 3 objectInit ∈ wsL_law := wm (wt_1 (List.mem_of_getElem? (i := 218) (by decide +kernel))) rfl
theorem wm_84 : Cond.arrayClass .char ∈ wsL_law := wm (wt_2 (List.mem_of_getElem? (i := 11) (by decide +kernel))) rfl
theorem wm_85 : Cond.fieldLink RX3 9 "SealedGroups$OrderText" "signs" "[C" ∈ wsL_law := wm (wt_1 (List.mem_of_getElem? (i := 219) (by decide +kernel))) rfl
theorem wm_86 : Cond.methodLink RL 12 yX8_init ∈ wsL_law := wm (wt_3 (List.mem_of_getElem? (i := 233) (by decide +kernel))) rfl
theorem wm_87 : Cond.instanceMethod yX8_init ∈ wsL_law := wm (wt_3 (List.mem_of_getElem? (i := 234) (by decide +kernel))) rfl
theorem wm_88 : Cond.code yX8_init cX8_init 1 none ∈ wsL_law := wm (wt_3 (List.mem_of_getElem? (i := 235) (by decide +kernel))) rfl
theorem wm_89 : Cond.methodLink RX8 1 objectInit ∈ wsL_law := wm (wt_3 (List.mem_of_getElem? (i := 236) (by decide +kernel))) rfl
theorem wm_90 : Cond.fieldLink RX8 7 "SealedGroupsModel" "s" "[I" ∈ wsL_law := wm (wt_3 (List.mem_of_getElem? (i := 237) (by decide +kernel))) rfl
theorem wm_91 : Cond.fieldLink RX8 13 "SealedGroupsModel" "past" "[I" ∈ wsL_law := wm (wt_3 (List.mem_of_getElem? (i := 238) (by decide +kernel))) rfl
theorem wm_92 : Cond.fieldLink RX8 16 "SealedGroupsModel" "held" "[I" ∈ wsL_law := wm (wt_3 (List.mem_of_getElem? (i := 239) (by decide +kernel))) rfl
theorem wm_93 : Cond.fieldLink RX8 19 "SealedGroupsModel" "tried" "[I" ∈ wsL_law := wm (wt_4 (List.mem_of_getElem? (i := 0) (by decide +kernel))) rfl
theorem wm_94 : Cond.fieldLink RX8 22 "SealedGroupsModel" "text" "[I" ∈ wsL_law := wm (wt_4 (List.mem_of_getElem? (i := 3) (by decide +kernel))) rfl
theorem wm_95 : Cond.fieldLink RX8 25 "SealedGroupsModel" "numbers" "[I" ∈ wsL_law := wm (wt_4 (List.mem_of_getElem? (i := 5) (by decide +kernel))) rfl
theorem wm_96 : Cond.fieldLink RX8 28 "SealedGroupsModel" "told" "[I" ∈ wsL_law := wm (wt_4 (List.mem_of_getElem? (i := 12) (by decide +kernel))) rfl
theorem wm_97 : Cond.methodLink RL 13 yX7_begin ∈ wsL_law := wm (wt_2 (List.mem_of_getElem? (i := 37) (by decide +kernel))) rfl
theorem wm_98 : Cond.instanceMethod yX7_begin ∈ wsL_law := wm (wt_2 (List.mem_of_getElem? (i := 38) (by decide +kernel))) rfl
theorem wm_99 : Cond.selects RX7 yX7_begin yX7_begin ∈ wsL_law := wm (wt_2 (List.mem_of_getElem? (i := 39) (by decide +kernel))) rfl
theorem wm_100 : Cond.code yX7_begin cX7_begin 2 (some .int) ∈ wsL_law := wm (wt_2 (List.mem_of_getElem? (i := 40) (by decide +kernel))) rfl
theorem wm_101 : Cond.methodLink RX7 40 yX1_prepare ∈ wsL_law := wm (wt_2 (List.mem_of_getElem? (i := 41) (by decide +kernel))) rfl
theorem wm_102 : Cond.instanceMethod yX1_prepare ∈ wsL_law := wm (wt_2 (List.mem_of_getElem? (i := 42) (by decide +kernel))) rfl
theorem wm_103 : Cond.selects RX1 yX1_prepare yX1_prepare ∈ wsL_law := wm (wt_2 (List.mem_of_getElem? (i := 43) (by decide +kernel))) rfl
theorem wm_104 : Cond.code yX1_prepare cX1_prepare 3 none ∈ wsL_law := wm (wt_2 (List.mem_of_getElem? (i := 44) (by decide +kernel))) rfl
theorem wm_105 : Cond.fieldLink RX1 28 "SealedGroups$History" "size" "I" ∈ wsL_law := wm (wt_1 (List.mem_of_getElem? (i := 204) (by decide +kernel))) rfl
theorem wm_106 : Cond.methodLink RX1 31 yX1_rowAt ∈ wsL_law := wm (wt_2 (List.mem_of_getElem? (i := 45) (by decide +kernel))) rfl
theorem wm_107 : Cond.instanceMethod yX1_rowAt ∈ wsL_law := wm (wt_2 (List.mem_of_getElem? (i := 47) (by decide +kernel))) rfl
theorem wm_108 : Cond.selects RX1 yX1_rowAt yX1_rowAt ∈ wsL_law := wm (wp_1 (List.mem_of_getElem? (i := 0) (by decide +kernel))) rfl
theorem wm_109 : Cond.code yX1_rowAt cX1_rowAt 3 (some (.object "SealedGroups$Store")) ∈ wsL_law := wm (wt_2 (List.mem_of_getElem? (i := 48) (by decide +kernel))) rfl
theorem wm_110 : Cond.fieldLink RX1 18 "SealedGroups$History" "oldest" "I" ∈ wsL_law := wm (wt_1 (List.mem_of_getElem? (i := 203) (by decide +kernel))) rfl
theorem wm_111 : Cond.methodLink RX1 22 yJ9_floorMod_7cf53 ∈ wsL_law := wm (wt_2 (List.mem_of_getElem? (i := 49) (by decide +kernel))) rfl
theorem wm_112 : Cond.static yJ9_floorMod_7cf53 ∈ wsL_law := wm (wt_2 (List.mem_of_getElem? (i := 50) (by decide +kernel))) rfl
theorem wm_113 : Cond.initialized RJ9 ∈ wsL_law := wm (wt_1 (List.mem_of_getElem? (i := 10) (by decide +kernel))) rfl
theorem wm_114 : Cond.code yJ9_floorMod_7cf53 cJ9_floorMod_7cf53 3 (some .int) ∈ wsL_law := wm (wt_2 (List.mem_of_getElem? (i := 51) (by decide +kernel))) rfl
theorem wm_115 : Cond.methodLink RX1 35 yX6_copyFrom ∈ wsL_law := wm (wt_2 (List.mem_of_getElem? (i := 52) (by decide +kernel))) rfl
theorem wm_116 : Cond.instanceMethod yX6_copyFrom ∈ wsL_law := wm (wt_2 (List.mem_of_getElem? (i := 53) (by decide +kernel))) rfl
theorem wm_117 : Cond.selects RX6 yX6_copyFrom yX6_copyFrom ∈ wsL_law := wm (wt_2 (List.mem_of_getElem? (i := 54) (by decide +kernel))) rfl
theorem wm_118 : Cond.code yX6_copyFrom cX6_copyFrom 2 none ∈ wsL_law := wm (wt_2 (List.mem_of_getElem? (i := 55) (by decide +kernel))) rfl
theorem wm_119 : Cond.fieldLink RX6 42 "SealedGroups$Store" "stopped" "Z" ∈ wsL_law := wm (wt_1 (List.mem_of_getElem? (i := 152) (by decide +kernel))) rfl
theorem wm_120 : Cond.fieldLink RX6 46 "SealedGroups$Store" "doneAgain" "I" ∈ wsL_law := wm (wt_1 (List.mem_of_getElem? (i := 154) (by decide +kernel))) rfl
theorem wm_121 : Cond.methodLink RX6 32 yX4_copyFrom ∈ wsL_law := wm (wt_2 (List.mem_of_getElem? (i := 56) (by decide +kernel))) rfl
theorem wm_122 : Cond.instanceMethod yX4_copyFrom ∈ wsL_law := wm (wt_2 (List.mem_of_getElem? (i := 57) (by decide +kernel))) rfl
theorem wm_123 : Cond.selects RX4 yX4_copyFrom yX4_copyFrom ∈ wsL_law := wm (wt_2 (List.mem_of_getElem? (i := 58) (by decide +kernel))) rfl
theorem wm_124 : Cond.code yX4_copyFrom cX4_copyFrom 2 none ∈ wsL_law := wm (wt_2 (List.mem_of_getElem? (i := 59) (by decide +kernel))) rfl
theorem wm_125 : Cond.methodLink RX4 27 arraycopyName ∈ wsL_law := wm (wt_2 (List.mem_of_getElem? (i := 60) (by decide +kernel))) rfl
theorem wm_126 : Cond.native arraycopyName ∈ wsL_law := wm (wt_2 (List.mem_of_getElem? (i := 62) (by decide +kernel))) rfl
theorem wm_127 : Cond.static arraycopyName ∈ wsL_law := wm (wt_2 (List.mem_of_getElem? (i := 61) (by decide +kernel))) rfl
theorem wm_128 : Cond.initialized "java/lang/System" ∈ wsL_law := wm (wt_1 (List.mem_of_getElem? (i := 11) (by decide +kernel))) rfl
theorem wm_129 : Cond.fieldLink RX4 33 "SealedGroups$Pages" "cached" "I" ∈ wsL_law := wm (wt_1 (List.mem_of_getElem? (i := 39) (by decide +kernel))) rfl
theorem wm_130 : Cond.fieldLink RX4 37 "SealedGroups$Pages" "dirty" "I" ∈ wsL_law := wm (wt_1 (List.mem_of_getElem? (i := 42) (by decide +kernel))) rfl
theorem wm_131 : Cond.methodLink RX6 36 yX0_copyFrom ∈ wsL_law := wm (wt_2 (List.mem_of_getElem? (i := 63) (by decide +kernel))) rfl
theorem wm_132 : Cond.instanceMethod yX0_copyFrom ∈ wsL_law := wm (wt_2 (List.mem_of_getElem? (i := 64) (by decide +kernel))) rfl
theorem wm_133 : Cond.selects RX0 yX0_copyFrom yX0_copyFrom ∈ wsL_law := wm (wt_2 (List.mem_of_getElem? (i := 65) (by decide +kernel))) rfl
theorem wm_134 : Cond.code yX0_copyFrom cX0_copyFrom 2 none ∈ wsL_law := wm (wt_2 (List.mem_of_getElem? (i := 66) (by decide +kernel))) rfl
theorem wm_135 : Cond.methodLink RX0 21 arraycopyName ∈ wsL_law := wm (wt_2 (List.mem_of_getElem? (i := 67) (by decide +kernel))) rfl
theorem wm_136 : Cond.fieldLink RX0 27 "SealedGroups$Groups" "open" "I" ∈ wsL_law := wm (wt_1 (List.mem_of_getElem? (i := 72) (by decide +kernel))) rfl
theorem wm_137 : Cond.methodLink RX6 39 yX2_copyFrom ∈ wsL_law := wm (wt_2 (List.mem_of_getElem? (i := 68) (by decide +kernel))) rfl
theorem wm_138 : Cond.instanceMethod yX2_copyFrom ∈ wsL_law := wm (wt_2 (List.mem_of_getElem? (i := 69) (by decide +kernel))) rfl
theorem wm_139 : Cond.selects RX2 yX2_copyFrom yX2_copyFrom ∈ wsL_law := wm (wt_2 (List.mem_of_getElem? (i := 70) (by decide +kernel))) rfl
theorem wm_140 : Cond.code yX2_copyFrom cX2_copyFrom 2 none ∈ wsL_law := wm (wt_2 (List.mem_of_getElem? (i := 71) (by decide +kernel))) rfl
theorem wm_141 : Cond.methodLink RX2 37 arraycopyName ∈ wsL_law := wm (wt_2 (List.mem_of_getElem? (i := 72) (by decide +kernel))) rfl
theorem wm_142 : Cond.fieldLink RX2 43 "SealedGroups$Journal" "size" "I" ∈ wsL_law := wm (wt_1 (List.mem_of_getElem? (i := 111) (by decide +kernel))) rfl
theorem wm_143 : Cond.fieldLink RX2 46 "SealedGroups$Journal" "forced" "I" ∈ wsL_law := wm (wt_1 (List.mem_of_getElem? (i := 113) (by decide +kernel))) rfl
theorem wm_144 : Cond.fieldLink RX2 49 "SealedGroups$Journal" "latestCheckpoint" "I" ∈ wsL_law := wm (wt_1 (List.mem_of_getElem? (i := 114) (by decide +kernel))) rfl
theorem wm_145 : Cond.fieldLink RX2 52 "SealedGroups$Journal" "dropLimit" "I" ∈ wsL_law := wm (wt_1 (List.mem_of_getElem? (i := 117) (by decide +kernel))) rfl
theorem wm_146 : Cond.methodLink RX7 44 yX6_beginGroup ∈ wsL_law := wm (wt_2 (List.mem_of_getElem? (i := 73) (by decide +kernel))) rfl
theorem wm_147 : Cond.instanceMethod yX6_beginGroup ∈ wsL_law := wm (wt_2 (List.mem_of_getElem? (i := 74) (by decide +kernel))) rfl
theorem wm_148 : Cond.selects RX6 yX6_beginGroup yX6_beginGroup ∈ wsL_law := wm (wt_2 (List.mem_of_getElem? (i := 75) (by decide +kernel))) rfl
theorem wm_149 : Cond.code yX6_beginGroup cX6_beginGroup 3 (some .int) ∈ wsL_law := wm (wt_2 (List.mem_of_getElem? (i := 76) (by decide +kernel))) rfl
theorem wm_150 : Cond.constant RX6 50 (-1000001) ∈ wsL_law := wm (wt_2 (List.mem_of_getElem? (i := 77) (by decide +kernel))) rfl
theorem wm_151 : Cond.constant RX6 55 (-1000002) ∈ wsL_law := wm (wt_2 (List.mem_of_getElem? (i := 82) (by decide +kernel))) rfl
theorem wm_152 : Cond.constant RX6 60 (-1000003) ∈ wsL_law := wm (wt_2 (List.mem_of_getElem? (i := 87) (by decide +kernel))) rfl
theorem wm_153 : Cond.constant RX6 61 (-1000004) ∈ wsL_law := wm (wt_2 (List.mem_of_getElem? (i := 88) (by decide +kernel))) rfl
theorem wm_154 : Cond.methodLink RX6 51 yX0_isOpen ∈ wsL_law := wm (wt_2 (List.mem_of_getElem? (i := 78) (by decide +kernel))) rfl
theorem wm_155 : Cond.instanceMethod yX0_isOpen ∈ wsL_law := wm (wt_2 (List.mem_of_getElem? (i := 79) (by decide +kernel))) rfl
theorem wm_156 : Cond.selects RX0 yX0_isOpen yX0_isOpen ∈ wsL_law := wm (wt_2 (List.mem_of_getElem? (i := 80) (by decide +kernel))) rfl
theorem wm_157 : Cond.code yX0_isOpen cX0_isOpen 2 (some .boolean) ∈ wsL_law := wm (wt_2 (List.mem_of_getElem? (i := 81) (by decide +kernel))) rfl
theorem wm_158 : Cond.methodLink RX6 56 yX2_isFull ∈ wsL_law := wm (wt_2 (List.mem_of_getElem? (i := 83) (by decide +kernel))) rfl
theorem wm_159 : Cond.instanceMethod yX2_isFull ∈ wsL_law := wm (wt_2 (List.mem_of_getElem? (i := 84) (by decide +kernel))) rfl
theorem wm_160 : Cond.selects RX2 yX2_isFull yX2_isFull ∈ wsL_law := wm (wt_2 (List.mem_of_getElem? (i := 85) (by decide +kernel))) rfl
theorem wm_161 : Cond.code yX2_isFull cX2_isFull 1 (some .boolean) ∈ wsL_law := wm (wt_2 (List.mem_of_getElem? (i := 86) (by decide +kernel))) rfl
theorem wm_162 : Cond.methodLink RX6 62 yX2_append ∈ wsL_law := wm (wt_2 (List.mem_of_getElem? (i := 89) (by decide +kernel))) rfl
theorem wm_163 : Cond.instanceMethod yX2_append ∈ wsL_law := wm (wt_2 (List.mem_of_getElem? (i := 90) (by decide +kernel))) rfl
theorem wm_164 : Cond.selects RX2 yX2_append yX2_append ∈ wsL_law := wm (wt_2 (List.mem_of_getElem? (i := 91) (by decide +kernel))) rfl
theorem wm_165 : Cond.code yX2_append cX2_append 7 (some .int) ∈ wsL_law := wm (wt_2 (List.mem_of_getElem? (i := 92) (by decide +kernel))) rfl
theorem wm_166 : Cond.constant RX2 55 (-1000004) ∈ wsL_law := wm (wt_2 (List.mem_of_getElem? (i := 93) (by decide +kernel))) rfl
theorem wm_167 : Cond.methodLink RX6 66 yX0_enter ∈ wsL_law := wm (wt_2 (List.mem_of_getElem? (i := 94) (by decide +kernel))) rfl
theorem wm_168 : Cond.instanceMethod yX0_enter ∈ wsL_law := wm (wt_2 (List.mem_of_getElem? (i := 95) (by decide +kernel))) rfl
theorem wm_169 : Cond.selects RX0 yX0_enter yX0_enter ∈ wsL_law := wm (wt_2 (List.mem_of_getElem? (i := 96) (by decide +kernel))) rfl
theorem wm_170 : Cond.code yX0_enter cX0_enter 3 none ∈ wsL_law := wm (wt_2 (List.mem_of_getElem? (i := 97) (by decide +kernel))) rfl
theorem wm_171 : Cond.methodLink RX7 48 yX1_keepUnlessError ∈ wsL_law := wm (wt_2 (List.mem_of_getElem? (i := 98) (by decide +kernel))) rfl
theorem wm_172 : Cond.instanceMethod yX1_keepUnlessError ∈ wsL_law := wm (wt_2 (List.mem_of_getElem? (i := 99) (by decide +kernel))) rfl
theorem wm_173 : Cond.selects RX1 yX1_keepUnlessError yX1_keepUnlessError ∈ wsL_law := wm (wt_2 (List.mem_of_getElem? (i := 100) (by decide +kernel))) rfl
theorem wm_174 : Cond.code yX1_keepUnlessError cX1_keepUnlessError 2 (some .int) ∈ wsL_law := wm (wt_2 (List.mem_of_getElem? (i := 101) (by decide +kernel))) rfl
theorem wm_175 : Cond.methodLink RL 17 yX8_begin ∈ wsL_law := wm (wt_4 (List.mem_of_getElem? (i := 46) (by decide +kernel))) rfl
theorem wm_176 : Cond.instanceMethod yX8_begin ∈ wsL_law := wm (wt_4 (List.mem_of_getElem? (i := 47) (by decide +kernel))) rfl
theorem wm_177 : Cond.selects RX8 yX8_begin yX8_begin ∈ wsL_law := wm (wt_4 (List.mem_of_getElem? (i := 48) (by decide +kernel))) rfl
theorem wm_178 : Cond.code yX8_begin cX8_begin 3 (some .int) ∈ wsL_law := wm (wt_4 (List.mem_of_getElem? (i := 49) (by decide +kernel))) rfl
theorem wm_179 : Cond.constant RX8 70 (-1000001) ∈ wsL_law := wm (wt_4 (List.mem_of_getElem? (i := 53) (by decide +kernel))) rfl
theorem wm_180 : Cond.constant RX8 75 (-1000002) ∈ wsL_law := wm (wt_4 (List.mem_of_getElem? (i := 66) (by decide +kernel))) rfl
theorem wm_181 : Cond.constant RX8 76 (-1000003) ∈ wsL_law := wm (wt_4 (List.mem_of_getElem? (i := 67) (by decide +kernel))) rfl
theorem wm_182 : Cond.constant RX8 62 (-1000004) ∈ wsL_law := wm (wt_4 (List.mem_of_getElem? (i := 72) (by decide +kernel))) rfl
theorem wm_183 : Cond.methodLink RX8 66 yX8_in ∈ wsL_law := wm (wt_4 (List.mem_of_getElem? (i := 50) (by decide +kernel))) rfl
theorem wm_184 : Cond.static yX8_in ∈ wsL_law := wm (wt_4 (List.mem_of_getElem? (i := 51) (by decide +kernel))) rfl
theorem wm_185 : Cond.code yX8_in cX8_in 3 (some .boolean) ∈ wsL_law := wm (wt_4 (List.mem_of_getElem? (i := 52) (by decide +kernel))) rfl
theorem wm_186 : Cond.methodLink RX8 71 yX8_isStopped ∈ wsL_law := wm (wt_4 (List.mem_of_getElem? (i := 54) (by decide +kernel))) rfl
theorem wm_187 : Cond.instanceMethod yX8_isStopped ∈ wsL_law := wm (wt_4 (List.mem_of_getElem? (i := 56) (by decide +kernel))) rfl
theorem wm_188 : Cond.selects RX8 yX8_isStopped yX8_isStopped ∈ wsL_law := wm (wp_2 (List.mem_of_getElem? (i := 2) (by decide +kernel))) rfl
theorem wm_189 : Cond.code yX8_isStopped cX8_isStopped 1 (some .boolean) ∈ wsL_law := wm (wt_4 (List.mem_of_getElem? (i := 57) (by decide +kernel))) rfl
theorem wm_190 : Cond.methodLink RX8 63 yX8_isOpen ∈ wsL_law := wm (wt_4 (List.mem_of_getElem? (i := 58) (by decide +kernel))) rfl
theorem wm_191 : Cond.instanceMethod yX8_isOpen ∈ wsL_law := wm (wt_4 (List.mem_of_getElem? (i := 60) (by decide +kernel))) rfl
theorem wm_192 : Cond.selects RX8 yX8_isOpen yX8_isOpen ∈ wsL_law := wm (wp_2 (List.mem_of_getElem? (i := 3) (by decide +kernel))) rfl
theorem wm_193 : Cond.code yX8_isOpen cX8_isOpen 2 (some .boolean) ∈ wsL_law := wm (wt_4 (List.mem_of_getElem? (i := 61) (by decide +kernel))) rfl
theorem wm_194 : Cond.methodLink RX8 39 yX8_ofGroup ∈ wsL_law := wm (wt_4 (List.mem_of_getElem? (i := 62) (by decide +kernel))) rfl
theorem wm_195 : Cond.instanceMethod yX8_ofGroup ∈ wsL_law := wm (wt_4 (List.mem_of_getElem? (i := 64) (by decide +kernel))) rfl
theorem wm_196 : Cond.selects RX8 yX8_ofGroup yX8_ofGroup ∈ wsL_law := wm (wp_2 (List.mem_of_getElem? (i := 4) (by decide +kernel))) rfl
theorem wm_197 : Cond.code yX8_ofGroup cX8_ofGroup 3 (some .int) ∈ wsL_law := wm (wt_4 (List.mem_of_getElem? (i := 65) (by decide +kernel))) rfl
theorem wm_198 : Cond.methodLink RX8 77 yX8_changes ∈ wsL_law := wm (wt_4 (List.mem_of_getElem? (i := 68) (by decide +kernel))) rfl
theorem wm_199 : Cond.instanceMethod yX8_changes ∈ wsL_law := wm (wt_4 (List.mem_of_getElem? (i := 70) (by decide +kernel))) rfl
theorem wm_200 : Cond.selects RX8 yX8_changes yX8_changes ∈ wsL_law := wm (wp_2 (List.mem_of_getElem? (i := 5) (by decide +kernel))) rfl
theorem wm_201 : Cond.code yX8_changes cX8_changes 2 none ∈ wsL_law := wm (wt_4 (List.mem_of_getElem? (i := 71) (by decide +kernel))) rfl
theorem wm_202 : Cond.fieldLink RX8 31 "SealedGroupsModel" "runs" "Z" ∈ wsL_law := wm (wt_4 (List.mem_of_getElem? (i := 2) (by decide +kernel))) rfl
theorem wm_203 : Cond.fieldLink RX8 35 "SealedGroupsModel" "pasts" "I" ∈ wsL_law := wm (wt_4 (List.mem_of_getElem? (i := 1) (by decide +kernel))) rfl
theorem wm_204 : Cond.methodLink RX8 80 yX8_adds ∈ wsL_law := wm (wt_4 (List.mem_of_getElem? (i := 73) (by decide +kernel))) rfl
theorem wm_205 : Cond.instanceMethod yX8_adds ∈ wsL_law := wm (wt_4 (List.mem_of_getElem? (i := 75) (by decide +kernel))) rfl
theorem wm_206 : Cond.selects RX8 yX8_adds yX8_adds ∈ wsL_law := wm (wp_2 (List.mem_of_getElem? (i := 6) (by decide +kernel))) rfl
theorem wm_207 : Cond.code yX8_adds cX8_adds 9 (some .int) ∈ wsL_law := wm (wt_4 (List.mem_of_getElem? (i := 76) (by decide +kernel))) rfl
theorem wm_208 : Cond.methodLink RX8 50 yX8_last ∈ wsL_law := wm (wt_4 (List.mem_of_getElem? (i := 77) (by decide +kernel))) rfl
theorem wm_209 : Cond.instanceMethod yX8_last ∈ wsL_law := wm (wt_4 (List.mem_of_getElem? (i := 79) (by decide +kernel))) rfl
theorem wm_210 : Cond.selects RX8 yX8_last yX8_last ∈ wsL_law := wm (wp_2 (List.mem_of_getElem? (i := 7) (by decide +kernel))) rfl
theorem wm_211 : Cond.code yX8_last cX8_last 1 (some .int) ∈ wsL_law := wm (wt_4 (List.mem_of_getElem? (i := 80) (by decide +kernel))) rfl
theorem wm_212 : Cond.methodLink RX8 84 yX8_putsGroup ∈ wsL_law := wm (wt_4 (List.mem_of_getElem? (i := 81) (by decide +kernel))) rfl
theorem wm_213 : Cond.instanceMethod yX8_putsGroup ∈ wsL_law := wm (wt_4 (List.mem_of_getElem? (i := 83) (by decide +kernel))) rfl
theorem wm_214 : Cond.selects RX8 yX8_putsGroup yX8_putsGroup ∈ wsL_law := wm (wp_2 (List.mem_of_getElem? (i := 8) (by decide +kernel))) rfl
theorem wm_215 : Cond.code yX8_putsGroup cX8_putsGroup 4 none ∈ wsL_law := wm (wt_4 (List.mem_of_getElem? (i := 84) (by decide +kernel))) rfl
theorem wm_216 : Cond.methodLink RL 18 yX7_write ∈ wsL_law := wm (wt_2 (List.mem_of_getElem? (i := 102) (by decide +kernel))) rfl
theorem wm_217 : Cond.instanceMethod yX7_write ∈ wsL_law := wm (wt_2 (List.mem_of_getElem? (i := 103) (by decide +kernel))) rfl
theorem wm_218 : Cond.selects RX7 yX7_write yX7_write ∈ wsL_law := wm (wt_2 (List.mem_of_getElem? (i := 104) (by decide +kernel))) rfl
theorem wm_219 : Cond.code yX7_write cX7_write 4 (some .int) ∈ wsL_law := wm (wt_2 (List.mem_of_getElem? (i := 105) (by decide +kernel))) rfl
theorem wm_220 : Cond.methodLink RX7 51 yX6_writePage ∈ wsL_law := wm (wt_2 (List.mem_of_getElem? (i := 106) (by decide +kernel))) rfl
theorem wm_221 : Cond.instanceMethod yX6_writePage ∈ wsL_law := wm (wt_2 (List.mem_of_getElem? (i := 107) (by decide +kernel))) rfl
theorem wm_222 : Cond.selects RX6 yX6_writePage yX6_writePage ∈ wsL_law := wm (wt_2 (List.mem_of_getElem? (i := 108) (by decide +kernel))) rfl
theorem wm_223 : Cond.code yX6_writePage cX6_writePage 7 (some .int) ∈ wsL_law := wm (wt_2 (List.mem_of_getElem? (i := 109) (by decide +kernel))) rfl
theorem wm_224 : Cond.methodLink RX6 70 yX0_holderOf ∈ wsL_law := wm (wt_2 (List.mem_of_getElem? (i := 110) (by decide +kernel))) rfl
theorem wm_225 : Cond.instanceMethod yX0_holderOf ∈ wsL_law := wm (wt_2 (List.mem_of_getElem? (i := 111) (by decide +kernel))) rfl
theorem wm_226 : Cond.selects RX0 yX0_holderOf yX0_holderOf ∈ wsL_law := wm (wt_2 (List.mem_of_getElem? (i := 112) (by decide +kernel))) rfl
theorem wm_227 : Cond.code yX0_holderOf cX0_holderOf 3 (some .int) ∈ wsL_law := wm (wt_2 (List.mem_of_getElem? (i := 113) (by decide +kernel))) rfl
theorem wm_228 : Cond.constant RX0 31 (-1000004) ∈ wsL_law := wm (wt_2 (List.mem_of_getElem? (i := 114) (by decide +kernel))) rfl
theorem wm_229 : Cond.methodLink RX6 74 yX4_valueOf ∈ wsL_law := wm (wt_2 (List.mem_of_getElem? (i := 115) (by decide +kernel))) rfl
theorem wm_230 : Cond.instanceMethod yX4_valueOf ∈ wsL_law := wm (wt_2 (List.mem_of_getElem? (i := 116) (by decide +kernel))) rfl
theorem wm_231 : Cond.selects RX4 yX4_valueOf yX4_valueOf ∈ wsL_law := wm (wt_2 (List.mem_of_getElem? (i := 117) (by decide +kernel))) rfl
theorem wm_232 : Cond.code yX4_valueOf cX4_valueOf 2 (some .int) ∈ wsL_law := wm (wt_2 (List.mem_of_getElem? (i := 118) (by decide +kernel))) rfl
theorem wm_233 : Cond.methodLink RX6 77 yX4_put ∈ wsL_law := wm (wt_2 (List.mem_of_getElem? (i := 119) (by decide +kernel))) rfl
theorem wm_234 : Cond.instanceMethod yX4_put ∈ wsL_law := wm (wt_2 (List.mem_of_getElem? (i := 120) (by decide +kernel))) rfl
theorem wm_235 : Cond.selects RX4 yX4_put yX4_put ∈ wsL_law := wm (wt_2 (List.mem_of_getElem? (i := 121) (by decide +kernel))) rfl
theorem wm_236 : Cond.code yX4_put cX4_put 5 none ∈ wsL_law := wm (wt_2 (List.mem_of_getElem? (i := 122) (by decide +kernel))) rfl
theorem wm_237 : Cond.methodLink RX6 81 yX0_hold ∈ wsL_law := wm (wt_2 (List.mem_of_getElem? (i := 123) (by decide +kernel))) rfl
theorem wm_238 : Cond.instanceMethod yX0_hold ∈ wsL_law := wm (wt_2 (List.mem_of_getElem? (i := 124) (by decide +kernel))) rfl
theorem wm_239 : Cond.selects RX0 yX0_hold yX0_hold ∈ wsL_law := wm (wt_2 (List.mem_of_getElem? (i := 125) (by decide +kernel))) rfl
theorem wm_240 : Cond.code yX0_hold cX0_hold 3 none ∈ wsL_law := wm (wt_2 (List.mem_of_getElem? (i := 126) (by decide +kernel))) rfl
theorem wm_241 : Cond.methodLink RL 22 yX8_write ∈ wsL_law := wm (wt_4 (List.mem_of_getElem? (i := 85) (by decide +kernel))) rfl
theorem wm_242 : Cond.instanceMethod yX8_write ∈ wsL_law := wm (wt_4 (List.mem_of_getElem? (i := 86) (by decide +kernel))) rfl
theorem wm_243 : Cond.selects RX8 yX8_write yX8_write ∈ wsL_law := wm (wt_4 (List.mem_of_getElem? (i := 87) (by decide +kernel))) rfl
theorem wm_244 : Cond.code yX8_write cX8_write 7 (some .int) ∈ wsL_law := wm (wt_4 (List.mem_of_getElem? (i := 88) (by decide +kernel))) rfl
theorem wm_245 : Cond.methodLink RX8 87 yX8_holder ∈ wsL_law := wm (wt_4 (List.mem_of_getElem? (i := 89) (by decide +kernel))) rfl
theorem wm_246 : Cond.instanceMethod yX8_holder ∈ wsL_law := wm (wt_4 (List.mem_of_getElem? (i := 91) (by decide +kernel))) rfl
theorem wm_247 : Cond.selects RX8 yX8_holder yX8_holder ∈ wsL_law := wm (wp_2 (List.mem_of_getElem? (i := 9) (by decide +kernel))) rfl
theorem wm_248 : Cond.code yX8_holder cX8_holder 4 (some .int) ∈ wsL_law := wm (wt_4 (List.mem_of_getElem? (i := 92) (by decide +kernel))) rfl
theorem wm_249 : Cond.methodLink RX8 90 yX8_value ∈ wsL_law := wm (wt_4 (List.mem_of_getElem? (i := 93) (by decide +kernel))) rfl
theorem wm_250 : Cond.instanceMethod yX8_value ∈ wsL_law := wm (wt_4 (List.mem_of_getElem? (i := 95) (by decide +kernel))) rfl
theorem wm_251 : Cond.selects RX8 yX8_value yX8_value ∈ wsL_law := wm (wp_2 (List.mem_of_getElem? (i := 10) (by decide +kernel))) rfl
theorem wm_252 : Cond.code yX8_value cX8_value 2 (some .int) ∈ wsL_law := wm (wt_4 (List.mem_of_getElem? (i := 96) (by decide +kernel))) rfl
theorem wm_253 : Cond.methodLink RX8 43 yX8_ofPage ∈ wsL_law := wm (wt_4 (List.mem_of_getElem? (i := 97) (by decide +kernel))) rfl
theorem wm_254 : Cond.instanceMethod yX8_ofPage ∈ wsL_law := wm (wt_4 (List.mem_of_getElem? (i := 99) (by decide +kernel))) rfl
theorem wm_255 : Cond.selects RX8 yX8_ofPage yX8_ofPage ∈ wsL_law := wm (wp_2 (List.mem_of_getElem? (i := 11) (by decide +kernel))) rfl
theorem wm_256 : Cond.code yX8_ofPage cX8_ofPage 3 (some .int) ∈ wsL_law := wm (wt_4 (List.mem_of_getElem? (i := 100) (by decide +kernel))) rfl
theorem wm_257 : Cond.methodLink RX8 93 yX8_comes ∈ wsL_law := wm (wt_4 (List.mem_of_getElem? (i := 101) (by decide +kernel))) rfl
theorem wm_258 : Cond.instanceMethod yX8_comes ∈ wsL_law := wm (wt_4 (List.mem_of_getElem? (i := 103) (by decide +kernel))) rfl
theorem wm_259 : Cond.selects RX8 yX8_comes yX8_comes ∈ wsL_law := wm (wp_2 (List.mem_of_getElem? (i := 12) (by decide +kernel))) rfl
theorem wm_260 : Cond.code yX8_comes cX8_comes 4 none ∈ wsL_law := wm (wt_4 (List.mem_of_getElem? (i := 104) (by decide +kernel))) rfl
theorem wm_261 : Cond.methodLink RX8 54 yX8_isDirty ∈ wsL_law := wm (wt_4 (List.mem_of_getElem? (i := 105) (by decide +kernel))) rfl
theorem wm_262 : Cond.instanceMethod yX8_isDirty ∈ wsL_law := wm (wt_4 (List.mem_of_getElem? (i := 107) (by decide +kernel))) rfl
theorem wm_263 : Cond.selects RX8 yX8_isDirty yX8_isDirty ∈ wsL_law := wm (wp_2 (List.mem_of_getElem? (i := 13) (by decide +kernel))) rfl
theorem wm_264 : Cond.code yX8_isDirty cX8_isDirty 2 (some .boolean) ∈ wsL_law := wm (wt_4 (List.mem_of_getElem? (i := 108) (by decide +kernel))) rfl
theorem wm_265 : Cond.methodLink RX8 46 yX8_mark ∈ wsL_law := wm (wt_4 (List.mem_of_getElem? (i := 109) (by decide +kernel))) rfl
theorem wm_266 : Cond.instanceMethod yX8_mark ∈ wsL_law := wm (wt_4 (List.mem_of_getElem? (i := 111) (by decide +kernel))) rfl
theorem wm_267 : Cond.selects RX8 yX8_mark yX8_mark ∈ wsL_law := wm (wp_2 (List.mem_of_getElem? (i := 14) (by decide +kernel))) rfl
theorem wm_268 : Cond.code yX8_mark cX8_mark 2 (some .int) ∈ wsL_law := wm (wt_4 (List.mem_of_getElem? (i := 112) (by decide +kernel))) rfl
theorem wm_269 : Cond.methodLink RX8 58 yX8_putsPage ∈ wsL_law := wm (wt_4 (List.mem_of_getElem? (i := 113) (by decide +kernel))) rfl
theorem wm_270 : Cond.instanceMethod yX8_putsPage ∈ wsL_law := wm (wt_4 (List.mem_of_getElem? (i := 115) (by decide +kernel))) rfl
theorem wm_271 : Cond.selects RX8 yX8_putsPage yX8_putsPage ∈ wsL_law := wm (wp_2 (List.mem_of_getElem? (i := 15) (by decide +kernel))) rfl
theorem wm_272 : Cond.code yX8_putsPage cX8_putsPage 4 none ∈ wsL_law := wm (wt_4 (List.mem_of_getElem? (i := 116) (by decide +kernel))) rfl
theorem wm_273 : Cond.methodLink RL 23 yX7_settle ∈ wsL_law := wm (wt_2 (List.mem_of_getElem? (i := 127) (by decide +kernel))) rfl
theorem wm_274 : Cond.instanceMethod yX7_settle ∈ wsL_law := wm (wt_2 (List.mem_of_getElem? (i := 128) (by decide +kernel))) rfl
theorem wm_275 : Cond.selects RX7 yX7_settle yX7_settle ∈ wsL_law := wm (wt_2 (List.mem_of_getElem? (i := 129) (by decide +kernel))) rfl
theorem wm_276 : Cond.code yX7_settle cX7_settle 2 (some .int) ∈ wsL_law := wm (wt_2 (List.mem_of_getElem? (i := 130) (by decide +kernel))) rfl
theorem wm_277 : Cond.methodLink RX7 55 yX6_settleGroup ∈ wsL_law := wm (wt_2 (List.mem_of_getElem? (i := 131) (by decide +kernel))) rfl
theorem wm_278 : Cond.instanceMethod yX6_settleGroup ∈ wsL_law := wm (wt_2 (List.mem_of_getElem? (i := 132) (by decide +kernel))) rfl
theorem wm_279 : Cond.selects RX6 yX6_settleGroup yX6_settleGroup ∈ wsL_law := wm (wt_2 (List.mem_of_getElem? (i := 133) (by decide +kernel))) rfl
theorem wm_280 : Cond.code yX6_settleGroup cX6_settleGroup 3 (some .int) ∈ wsL_law := wm (wt_2 (List.mem_of_getElem? (i := 134) (by decide +kernel))) rfl
theorem wm_281 : Cond.methodLink RX6 87 yX6_errorOfEnding ∈ wsL_law := wm (wt_2 (List.mem_of_getElem? (i := 135) (by decide +kernel))) rfl
theorem wm_282 : Cond.instanceMethod yX6_errorOfEnding ∈ wsL_law := wm (wt_2 (List.mem_of_getElem? (i := 137) (by decide +kernel))) rfl
theorem wm_283 : Cond.selects RX6 yX6_errorOfEnding yX6_errorOfEnding ∈ wsL_law := wm (wp_1 (List.mem_of_getElem? (i := 1) (by decide +kernel))) rfl
theorem wm_284 : Cond.code yX6_errorOfEnding cX6_errorOfEnding 3 (some .int) ∈ wsL_law := wm (wt_2 (List.mem_of_getElem? (i := 138) (by decide +kernel))) rfl
theorem wm_285 : Cond.methodLink RX6 91 yX2_forceUpTo ∈ wsL_law := wm (wt_2 (List.mem_of_getElem? (i := 139) (by decide +kernel))) rfl
theorem wm_286 : Cond.instanceMethod yX2_forceUpTo ∈ wsL_law := wm (wt_2 (List.mem_of_getElem? (i := 140) (by decide +kernel))) rfl
theorem wm_287 : Cond.selects RX2 yX2_forceUpTo yX2_forceUpTo ∈ wsL_law := wm (wt_2 (List.mem_of_getElem? (i := 141) (by decide +kernel))) rfl
theorem wm_288 : Cond.code yX2_forceUpTo cX2_forceUpTo 3 (some .int) ∈ wsL_law := wm (wt_2 (List.mem_of_getElem? (i := 142) (by decide +kernel))) rfl
theorem wm_289 : Cond.methodLink RX2 56 Lib.Math.max.name ∈ wsL_law := wm (wt_2 (List.mem_of_getElem? (i := 143) (by decide +kernel))) rfl
theorem wm_290 : Cond.static Lib.Math.max.name ∈ wsL_law := wm (wt_2 (List.mem_of_getElem? (i := 144) (by decide +kernel))) rfl
theorem wm_292 : Cond.code Lib.Math.max.name Lib.Math.max.code 2 (some .int) ∈ wsL_law := wm (wt_2 (List.mem_of_getElem? (i := 145) (by decide +kernel))) rfl
theorem wm_293 : Cond.methodLink RX6 94 yX0_leave ∈ wsL_law := wm (wt_2 (List.mem_of_getElem? (i := 146) (by decide +kernel))) rfl
theorem wm_294 : Cond.instanceMethod yX0_leave ∈ wsL_law := wm (wt_2 (List.mem_of_getElem? (i := 147) (by decide +kernel))) rfl
theorem wm_295 : Cond.selects RX0 yX0_leave yX0_leave ∈ wsL_law := wm (wt_2 (List.mem_of_getElem? (i := 148) (by decide +kernel))) rfl
theorem wm_296 : Cond.code yX0_leave cX0_leave 2 none ∈ wsL_law := wm (wt_2 (List.mem_of_getElem? (i := 149) (by decide +kernel))) rfl
theorem wm_297 : Cond.methodLink RX6 98 yX0_heldBy ∈ wsL_law := wm (wt_2 (List.mem_of_getElem? (i := 150) (by decide +kernel))) rfl
theorem wm_298 : Cond.instanceMethod yX0_heldBy ∈ wsL_law := wm (wt_2 (List.mem_of_getElem? (i := 151) (by decide +kernel))) rfl
theorem wm_299 : Cond.selects RX0 yX0_heldBy yX0_heldBy ∈ wsL_law := wm (wt_2 (List.mem_of_getElem? (i := 152) (by decide +kernel))) rfl
theorem wm_300 : Cond.code yX0_heldBy cX0_heldBy 2 (some .int) ∈ wsL_law := wm (wt_2 (List.mem_of_getElem? (i := 153) (by decide +kernel))) rfl
theorem wm_301 : Cond.methodLink RX6 101 yJ6_bitCount_0f7a4 ∈ wsL_law := wm (wt_2 (List.mem_of_getElem? (i := 154) (by decide +kernel))) rfl
theorem wm_302 : Cond.static yJ6_bitCount_0f7a4 ∈ wsL_law := wm (wt_2 (List.mem_of_getElem? (i := 155) (by decide +kernel))) rfl
theorem wm_303 : Cond.initialized RJ6 ∈ wsL_law := wm (wt_1 (List.mem_of_getElem? (i := 12) (by decide +kernel))) rfl
theorem wm_304 : Cond.code yJ6_bitCount_0f7a4 cJ6_bitCount_0f7a4 1 (some .int) ∈ wsL_law := wm (wt_2 (List.mem_of_getElem? (i := 156) (by decide +kernel))) rfl
theorem wm_305 : Cond.constant RJ6 265 (1431655765) ∈ wsL_law := wm (wt_2 (List.mem_of_getElem? (i := 157) (by decide +kernel))) rfl
theorem wm_306 : Cond.constant RJ6 266 (858993459) ∈ wsL_law := wm (wt_2 (List.mem_of_getElem? (i := 158) (by decide +kernel))) rfl
theorem wm_307 : Cond.constant RJ6 267 (252645135) ∈ wsL_law := wm (wt_2 (List.mem_of_getElem? (i := 159) (by decide +kernel))) rfl
theorem wm_308 : Cond.methodLink RL 26 yX8_settle ∈ wsL_law := wm (wt_4 (List.mem_of_getElem? (i := 117) (by decide +kernel))) rfl
theorem wm_309 : Cond.instanceMethod yX8_settle ∈ wsL_law := wm (wt_4 (List.mem_of_getElem? (i := 118) (by decide +kernel))) rfl
theorem wm_310 : Cond.selects RX8 yX8_settle yX8_settle ∈ wsL_law := wm (wt_4 (List.mem_of_getElem? (i := 119) (by decide +kernel))) rfl
theorem wm_311 : Cond.code yX8_settle cX8_settle 3 (some .int) ∈ wsL_law := wm (wt_4 (List.mem_of_getElem? (i := 120) (by decide +kernel))) rfl
theorem wm_312 : Cond.methodLink RX8 96 yX8_forces ∈ wsL_law := wm (wt_4 (List.mem_of_getElem? (i := 121) (by decide +kernel))) rfl
theorem wm_313 : Cond.instanceMethod yX8_forces ∈ wsL_law := wm (wt_4 (List.mem_of_getElem? (i := 123) (by decide +kernel))) rfl
theorem wm_314 : Cond.selects RX8 yX8_forces yX8_forces ∈ wsL_law := wm (wp_3 (List.mem_of_getElem? (i := 0) (by decide +kernel))) rfl
theorem wm_315 : Cond.code yX8_forces cX8_forces 3 (some .int) ∈ wsL_law := wm (wt_4 (List.mem_of_getElem? (i := 124) (by decide +kernel))) rfl
theorem wm_316 : Cond.methodLink RX8 99 yX8_bits ∈ wsL_law := wm (wt_4 (List.mem_of_getElem? (i := 125) (by decide +kernel))) rfl
theorem wm_317 : Cond.static yX8_bits ∈ wsL_law := wm (wt_4 (List.mem_of_getElem? (i := 126) (by decide +kernel))) rfl
theorem wm_318 : Cond.code yX8_bits cX8_bits 3 (some .int) ∈ wsL_law := wm (wt_4 (List.mem_of_getElem? (i := 127) (by decide +kernel))) rfl
theorem wm_319 : Cond.methodLink RX8 102 yX8_closes ∈ wsL_law := wm (wt_4 (List.mem_of_getElem? (i := 128) (by decide +kernel))) rfl
theorem wm_320 : Cond.instanceMethod yX8_closes ∈ wsL_law := wm (wt_4 (List.mem_of_getElem? (i := 130) (by decide +kernel))) rfl
theorem wm_321 : Cond.selects RX8 yX8_closes yX8_closes ∈ wsL_law := wm (wp_3 (List.mem_of_getElem? (i := 1) (by decide +kernel))) rfl
theorem wm_322 : Cond.code yX8_closes cX8_closes 3 none ∈ wsL_law := wm (wt_4 (List.mem_of_getElem? (i := 131) (by decide +kernel))) rfl
theorem wm_323 : Cond.methodLink RL 27 yX7_takeBack ∈ wsL_law := wm (wt_2 (List.mem_of_getElem? (i := 160) (by decide +kernel))) rfl
theorem wm_324 : Cond.instanceMethod yX7_takeBack ∈ wsL_law := wm (wt_2 (List.mem_of_getElem? (i := 161) (by decide +kernel))) rfl
theorem wm_325 : Cond.selects RX7 yX7_takeBack yX7_takeBack ∈ wsL_law := wm (wt_2 (List.mem_of_getElem? (i := 162) (by decide +kernel))) rfl
theorem wm_326 : Cond.code yX7_takeBack cX7_takeBack 2 (some .int) ∈ wsL_law := wm (wt_2 (List.mem_of_getElem? (i := 163) (by decide +kernel))) rfl
theorem wm_327 : Cond.methodLink RX7 58 yX6_takeGroupBack ∈ wsL_law := wm (wt_2 (List.mem_of_getElem? (i := 164) (by decide +kernel))) rfl
theorem wm_328 : Cond.instanceMethod yX6_takeGroupBack ∈ wsL_law := wm (wt_2 (List.mem_of_getElem? (i := 165) (by decide +kernel))) rfl
theorem wm_329 : Cond.selects RX6 yX6_takeGroupBack yX6_takeGroupBack ∈ wsL_law := wm (wt_2 (List.mem_of_getElem? (i := 166) (by decide +kernel))) rfl
theorem wm_330 : Cond.code yX6_takeGroupBack cX6_takeGroupBack 7 (some .int) ∈ wsL_law := wm (wt_2 (List.mem_of_getElem? (i := 167) (by decide +kernel))) rfl
theorem wm_331 : Cond.methodLink RX6 106 yX0_writesOf ∈ wsL_law := wm (wt_2 (List.mem_of_getElem? (i := 168) (by decide +kernel))) rfl
theorem wm_332 : Cond.instanceMethod yX0_writesOf ∈ wsL_law := wm (wt_2 (List.mem_of_getElem? (i := 169) (by decide +kernel))) rfl
theorem wm_333 : Cond.selects RX0 yX0_writesOf yX0_writesOf ∈ wsL_law := wm (wt_2 (List.mem_of_getElem? (i := 170) (by decide +kernel))) rfl
theorem wm_334 : Cond.code yX0_writesOf cX0_writesOf 2 (some .int) ∈ wsL_law := wm (wt_2 (List.mem_of_getElem? (i := 171) (by decide +kernel))) rfl
theorem wm_335 : Cond.methodLink RX6 109 yX0_beginOf ∈ wsL_law := wm (wt_2 (List.mem_of_getElem? (i := 172) (by decide +kernel))) rfl
theorem wm_336 : Cond.instanceMethod yX0_beginOf ∈ wsL_law := wm (wt_2 (List.mem_of_getElem? (i := 173) (by decide +kernel))) rfl
theorem wm_337 : Cond.selects RX0 yX0_beginOf yX0_beginOf ∈ wsL_law := wm (wt_2 (List.mem_of_getElem? (i := 174) (by decide +kernel))) rfl
theorem wm_338 : Cond.code yX0_beginOf cX0_beginOf 2 (some .int) ∈ wsL_law := wm (wt_2 (List.mem_of_getElem? (i := 175) (by decide +kernel))) rfl
theorem wm_339 : Cond.methodLink RX6 112 yX2_last ∈ wsL_law := wm (wt_2 (List.mem_of_getElem? (i := 176) (by decide +kernel))) rfl
theorem wm_340 : Cond.instanceMethod yX2_last ∈ wsL_law := wm (wt_2 (List.mem_of_getElem? (i := 177) (by decide +kernel))) rfl
theorem wm_341 : Cond.selects RX2 yX2_last yX2_last ∈ wsL_law := wm (wt_2 (List.mem_of_getElem? (i := 178) (by decide +kernel))) rfl
theorem wm_342 : Cond.code yX2_last cX2_last 1 (some .int) ∈ wsL_law := wm (wt_2 (List.mem_of_getElem? (i := 179) (by decide +kernel))) rfl
theorem wm_343 : Cond.methodLink RX6 120 yX2_at ∈ wsL_law := wm (wt_2 (List.mem_of_getElem? (i := 180) (by decide +kernel))) rfl
theorem wm_344 : Cond.instanceMethod yX2_at ∈ wsL_law := wm (wt_2 (List.mem_of_getElem? (i := 181) (by decide +kernel))) rfl
theorem wm_345 : Cond.selects RX2 yX2_at yX2_at ∈ wsL_law := wm (wt_2 (List.mem_of_getElem? (i := 182) (by decide +kernel))) rfl
theorem wm_346 : Cond.code yX2_at cX2_at 4 (some .int) ∈ wsL_law := wm (wt_2 (List.mem_of_getElem? (i := 183) (by decide +kernel))) rfl
theorem wm_347 : Cond.methodLink RX6 127 yX6_takeWriteBack ∈ wsL_law := wm (wt_2 (List.mem_of_getElem? (i := 184) (by decide +kernel))) rfl
theorem wm_348 : Cond.instanceMethod yX6_takeWriteBack ∈ wsL_law := wm (wt_2 (List.mem_of_getElem? (i := 185) (by decide +kernel))) rfl
theorem wm_349 : Cond.selects RX6 yX6_takeWriteBack yX6_takeWriteBack ∈ wsL_law := wm (wt_2 (List.mem_of_getElem? (i := 186) (by decide +kernel))) rfl
theorem wm_350 : Cond.code yX6_takeWriteBack cX6_takeWriteBack 6 none ∈ wsL_law := wm (wt_2 (List.mem_of_getElem? (i := 187) (by decide +kernel))) rfl
theorem wm_351 : Cond.methodLink RX6 130 yX6_endGroup ∈ wsL_law := wm (wt_2 (List.mem_of_getElem? (i := 188) (by decide +kernel))) rfl
theorem wm_352 : Cond.instanceMethod yX6_endGroup ∈ wsL_law := wm (wt_2 (List.mem_of_getElem? (i := 189) (by decide +kernel))) rfl
theorem wm_353 : Cond.selects RX6 yX6_endGroup yX6_endGroup ∈ wsL_law := wm (wt_2 (List.mem_of_getElem? (i := 190) (by decide +kernel))) rfl
theorem wm_354 : Cond.code yX6_endGroup cX6_endGroup 2 none ∈ wsL_law := wm (wt_2 (List.mem_of_getElem? (i := 191) (by decide +kernel))) rfl
theorem wm_355 : Cond.methodLink RL 30 yX8_takeBack ∈ wsL_law := wm (wt_4 (List.mem_of_getElem? (i := 132) (by decide +kernel))) rfl
theorem wm_356 : Cond.instanceMethod yX8_takeBack ∈ wsL_law := wm (wt_4 (List.mem_of_getElem? (i := 133) (by decide +kernel))) rfl
theorem wm_357 : Cond.selects RX8 yX8_takeBack yX8_takeBack ∈ wsL_law := wm (wt_4 (List.mem_of_getElem? (i := 134) (by decide +kernel))) rfl
theorem wm_358 : Cond.code yX8_takeBack cX8_takeBack 3 (some .int) ∈ wsL_law := wm (wt_4 (List.mem_of_getElem? (i := 135) (by decide +kernel))) rfl
theorem wm_359 : Cond.methodLink RX8 112 yX8_takes ∈ wsL_law := wm (wt_4 (List.mem_of_getElem? (i := 136) (by decide +kernel))) rfl
theorem wm_360 : Cond.instanceMethod yX8_takes ∈ wsL_law := wm (wt_4 (List.mem_of_getElem? (i := 138) (by decide +kernel))) rfl
theorem wm_361 : Cond.selects RX8 yX8_takes yX8_takes ∈ wsL_law := wm (wp_3 (List.mem_of_getElem? (i := 2) (by decide +kernel))) rfl
theorem wm_362 : Cond.code yX8_takes cX8_takes 8 (some .int) ∈ wsL_law := wm (wt_4 (List.mem_of_getElem? (i := 139) (by decide +kernel))) rfl
theorem wm_363 : Cond.methodLink RX8 106 yX8_of ∈ wsL_law := wm (wt_4 (List.mem_of_getElem? (i := 140) (by decide +kernel))) rfl
theorem wm_364 : Cond.instanceMethod yX8_of ∈ wsL_law := wm (wt_4 (List.mem_of_getElem? (i := 142) (by decide +kernel))) rfl
theorem wm_365 : Cond.selects RX8 yX8_of yX8_of ∈ wsL_law := wm (wp_3 (List.mem_of_getElem? (i := 3) (by decide +kernel))) rfl
theorem wm_366 : Cond.code yX8_of cX8_of 3 (some .int) ∈ wsL_law := wm (wt_4 (List.mem_of_getElem? (i := 143) (by decide +kernel))) rfl
theorem wm_367 : Cond.methodLink RX8 109 yX8_isTakenBack ∈ wsL_law := wm (wt_4 (List.mem_of_getElem? (i := 144) (by decide +kernel))) rfl
theorem wm_368 : Cond.instanceMethod yX8_isTakenBack ∈ wsL_law := wm (wt_4 (List.mem_of_getElem? (i := 146) (by decide +kernel))) rfl
theorem wm_369 : Cond.selects RX8 yX8_isTakenBack yX8_isTakenBack ∈ wsL_law := wm (wp_3 (List.mem_of_getElem? (i := 4) (by decide +kernel))) rfl
theorem wm_370 : Cond.code yX8_isTakenBack cX8_isTakenBack 4 (some .boolean) ∈ wsL_law := wm (wt_4 (List.mem_of_getElem? (i := 147) (by decide +kernel))) rfl
theorem wm_371 : Cond.methodLink RL 31 yX7_writeOut ∈ wsL_law := wm (wt_2 (List.mem_of_getElem? (i := 192) (by decide +kernel))) rfl
theorem wm_372 : Cond.instanceMethod yX7_writeOut ∈ wsL_law := wm (wt_2 (List.mem_of_getElem? (i := 193) (by decide +kernel))) rfl
theorem wm_373 : Cond.selects RX7 yX7_writeOut yX7_writeOut ∈ wsL_law := wm (wt_2 (List.mem_of_getElem? (i := 194) (by decide +kernel))) rfl
theorem wm_374 : Cond.code yX7_writeOut cX7_writeOut 2 (some .int) ∈ wsL_law := wm (wt_2 (List.mem_of_getElem? (i := 195) (by decide +kernel))) rfl
theorem wm_375 : Cond.methodLink RX7 61 yX6_writePageOut ∈ wsL_law := wm (wt_2 (List.mem_of_getElem? (i := 196) (by decide +kernel))) rfl
theorem wm_376 : Cond.instanceMethod yX6_writePageOut ∈ wsL_law := wm (wt_2 (List.mem_of_getElem? (i := 197) (by decide +kernel))) rfl
theorem wm_377 : Cond.selects RX6 yX6_writePageOut yX6_writePageOut ∈ wsL_law := wm (wt_2 (List.mem_of_getElem? (i := 198) (by decide +kernel))) rfl
theorem wm_378 : Cond.code yX6_writePageOut cX6_writePageOut 3 (some .int) ∈ wsL_law := wm (wt_2 (List.mem_of_getElem? (i := 199) (by decide +kernel))) rfl
theorem wm_379 : Cond.methodLink RX6 142 yX4_markOf ∈ wsL_law := wm (wt_2 (List.mem_of_getElem? (i := 200) (by decide +kernel))) rfl
theorem wm_380 : Cond.instanceMethod yX4_markOf ∈ wsL_law := wm (wt_2 (List.mem_of_getElem? (i := 201) (by decide +kernel))) rfl
theorem wm_381 : Cond.selects RX4 yX4_markOf yX4_markOf ∈ wsL_law := wm (wt_2 (List.mem_of_getElem? (i := 202) (by decide +kernel))) rfl
theorem wm_382 : Cond.code yX4_markOf cX4_markOf 2 (some .int) ∈ wsL_law := wm (wt_2 (List.mem_of_getElem? (i := 203) (by decide +kernel))) rfl
theorem wm_383 : Cond.methodLink RX6 145 yX4_toDisk ∈ wsL_law := wm (wt_2 (List.mem_of_getElem? (i := 204) (by decide +kernel))) rfl
theorem wm_384 : Cond.instanceMethod yX4_toDisk ∈ wsL_law := wm (wt_2 (List.mem_of_getElem? (i := 205) (by decide +kernel))) rfl
theorem wm_385 : Cond.selects RX4 yX4_toDisk yX4_toDisk ∈ wsL_law := wm (wt_2 (List.mem_of_getElem? (i := 206) (by decide +kernel))) rfl
theorem wm_386 : Cond.code yX4_toDisk cX4_toDisk 2 none ∈ wsL_law := wm (wt_2 (List.mem_of_getElem? (i := 207) (by decide +kernel))) rfl
theorem wm_387 : Cond.methodLink RL 34 yX8_writeOut ∈ wsL_law := wm (wt_4 (List.mem_of_getElem? (i := 148) (by decide +kernel))) rfl
theorem wm_388 : Cond.instanceMethod yX8_writeOut ∈ wsL_law := wm (wt_4 (List.mem_of_getElem? (i := 149) (by decide +kernel))) rfl
theorem wm_389 : Cond.selects RX8 yX8_writeOut yX8_writeOut ∈ wsL_law := wm (wt_4 (List.mem_of_getElem? (i := 150) (by decide +kernel))) rfl
theorem wm_390 : Cond.code yX8_writeOut cX8_writeOut 3 (some .int) ∈ wsL_law := wm (wt_4 (List.mem_of_getElem? (i := 151) (by decide +kernel))) rfl
theorem wm_391 : Cond.methodLink RL 35 yX7_dropOut ∈ wsL_law := wm (wt_2 (List.mem_of_getElem? (i := 208) (by decide +kernel))) rfl
theorem wm_392 : Cond.instanceMethod yX7_dropOut ∈ wsL_law := wm (wt_2 (List.mem_of_getElem? (i := 209) (by decide +kernel))) rfl
theorem wm_393 : Cond.selects RX7 yX7_dropOut yX7_dropOut ∈ wsL_law := wm (wt_2 (List.mem_of_getElem? (i := 210) (by decide +kernel))) rfl
theorem wm_394 : Cond.code yX7_dropOut cX7_dropOut 2 (some .int) ∈ wsL_law := wm (wt_2 (List.mem_of_getElem? (i := 211) (by decide +kernel))) rfl
theorem wm_395 : Cond.methodLink RX7 64 yX6_dropPageOut ∈ wsL_law := wm (wt_2 (List.mem_of_getElem? (i := 212) (by decide +kernel))) rfl
theorem wm_396 : Cond.instanceMethod yX6_dropPageOut ∈ wsL_law := wm (wt_2 (List.mem_of_getElem? (i := 213) (by decide +kernel))) rfl
theorem wm_397 : Cond.selects RX6 yX6_dropPageOut yX6_dropPageOut ∈ wsL_law := wm (wt_2 (List.mem_of_getElem? (i := 214) (by decide +kernel))) rfl
theorem wm_398 : Cond.code yX6_dropPageOut cX6_dropPageOut 3 (some .int) ∈ wsL_law := wm (wt_2 (List.mem_of_getElem? (i := 215) (by decide +kernel))) rfl
theorem wm_399 : Cond.methodLink RL 38 yX8_dropOut ∈ wsL_law := wm (wt_4 (List.mem_of_getElem? (i := 152) (by decide +kernel))) rfl
theorem wm_400 : Cond.instanceMethod yX8_dropOut ∈ wsL_law := wm (wt_4 (List.mem_of_getElem? (i := 153) (by decide +kernel))) rfl
theorem wm_401 : Cond.selects RX8 yX8_dropOut yX8_dropOut ∈ wsL_law := wm (wt_4 (List.mem_of_getElem? (i := 154) (by decide +kernel))) rfl
theorem wm_402 : Cond.code yX8_dropOut cX8_dropOut 2 (some .int) ∈ wsL_law := wm (wt_4 (List.mem_of_getElem? (i := 155) (by decide +kernel))) rfl
theorem wm_403 : Cond.methodLink RX8 115 yX8_pages ∈ wsL_law := wm (wt_4 (List.mem_of_getElem? (i := 156) (by decide +kernel))) rfl
theorem wm_404 : Cond.instanceMethod yX8_pages ∈ wsL_law := wm (wt_4 (List.mem_of_getElem? (i := 158) (by decide +kernel))) rfl
theorem wm_405 : Cond.selects RX8 yX8_pages yX8_pages ∈ wsL_law := wm (wp_3 (List.mem_of_getElem? (i := 5) (by decide +kernel))) rfl
theorem wm_406 : Cond.code yX8_pages cX8_pages 4 (some .int) ∈ wsL_law := wm (wt_4 (List.mem_of_getElem? (i := 159) (by decide +kernel))) rfl
theorem wm_407 : Cond.methodLink RL 39 yX7_checkpoint ∈ wsL_law := wm (wt_2 (List.mem_of_getElem? (i := 216) (by decide +kernel))) rfl
theorem wm_408 : Cond.instanceMethod yX7_checkpoint ∈ wsL_law := wm (wt_2 (List.mem_of_getElem? (i := 217) (by decide +kernel))) rfl
theorem wm_409 : Cond.selects RX7 yX7_checkpoint yX7_checkpoint ∈ wsL_law := wm (wt_2 (List.mem_of_getElem? (i := 218) (by decide +kernel))) rfl
theorem wm_410 : Cond.code yX7_checkpoint cX7_checkpoint 1 (some .int) ∈ wsL_law := wm (wt_2 (List.mem_of_getElem? (i := 219) (by decide +kernel))) rfl
theorem wm_411 : Cond.methodLink RX7 67 yX6_makeCheckpoint ∈ wsL_law := wm (wt_2 (List.mem_of_getElem? (i := 220) (by decide +kernel))) rfl
theorem wm_412 : Cond.instanceMethod yX6_makeCheckpoint ∈ wsL_law := wm (wt_2 (List.mem_of_getElem? (i := 221) (by decide +kernel))) rfl
theorem wm_413 : Cond.selects RX6 yX6_makeCheckpoint yX6_makeCheckpoint ∈ wsL_law := wm (wt_2 (List.mem_of_getElem? (i := 222) (by decide +kernel))) rfl
theorem wm_414 : Cond.code yX6_makeCheckpoint cX6_makeCheckpoint 1 (some .int) ∈ wsL_law := wm (wt_2 (List.mem_of_getElem? (i := 223) (by decide +kernel))) rfl
theorem wm_415 : Cond.methodLink RX6 151 yX2_appendCheckpoint ∈ wsL_law := wm (wt_2 (List.mem_of_getElem? (i := 224) (by decide +kernel))) rfl
theorem wm_416 : Cond.instanceMethod yX2_appendCheckpoint ∈ wsL_law := wm (wt_2 (List.mem_of_getElem? (i := 225) (by decide +kernel))) rfl
theorem wm_417 : Cond.selects RX2 yX2_appendCheckpoint yX2_appendCheckpoint ∈ wsL_law := wm (wt_2 (List.mem_of_getElem? (i := 226) (by decide +kernel))) rfl
theorem wm_418 : Cond.code yX2_appendCheckpoint cX2_appendCheckpoint 6 (some .int) ∈ wsL_law := wm (wt_2 (List.mem_of_getElem? (i := 227) (by decide +kernel))) rfl
theorem wm_419 : Cond.methodLink RX2 79 Lib.Math.min.name ∈ wsL_law := wm (wt_2 (List.mem_of_getElem? (i := 229) (by decide +kernel))) rfl
theorem wm_420 : Cond.static Lib.Math.min.name ∈ wsL_law := wm (wt_2 (List.mem_of_getElem? (i := 230) (by decide +kernel))) rfl
theorem wm_421 : Cond.code Lib.Math.min.name Lib.Math.min.code 2 (some .int) ∈ wsL_law := wm (wt_2 (List.mem_of_getElem? (i := 231) (by decide +kernel))) rfl
theorem wm_422 : Cond.methodLink RX2 72 yX2_append ∈ wsL_law := wm (wt_2 (List.mem_of_getElem? (i := 228) (by decide +kernel))) rfl
theorem wm_423 : Cond.methodLink RX2 85 yX2_forceUpTo ∈ wsL_law := wm (wt_2 (List.mem_of_getElem? (i := 232) (by decide +kernel))) rfl
theorem wm_424 : Cond.methodLink RL 43 yX8_checkpoint ∈ wsL_law := wm (wt_4 (List.mem_of_getElem? (i := 160) (by decide +kernel))) rfl
theorem wm_425 : Cond.instanceMethod yX8_checkpoint ∈ wsL_law := wm (wt_4 (List.mem_of_getElem? (i := 161) (by decide +kernel))) rfl
theorem wm_426 : Cond.selects RX8 yX8_checkpoint yX8_checkpoint ∈ wsL_law := wm (wt_4 (List.mem_of_getElem? (i := 162) (by decide +kernel))) rfl
theorem wm_427 : Cond.code yX8_checkpoint cX8_checkpoint 4 (some .int) ∈ wsL_law := wm (wt_4 (List.mem_of_getElem? (i := 163) (by decide +kernel))) rfl
theorem wm_428 : Cond.methodLink RX8 118 yX8_openSet ∈ wsL_law := wm (wt_4 (List.mem_of_getElem? (i := 164) (by decide +kernel))) rfl
theorem wm_429 : Cond.instanceMethod yX8_openSet ∈ wsL_law := wm (wt_4 (List.mem_of_getElem? (i := 166) (by decide +kernel))) rfl
theorem wm_430 : Cond.selects RX8 yX8_openSet yX8_openSet ∈ wsL_law := wm (wp_3 (List.mem_of_getElem? (i := 6) (by decide +kernel))) rfl
theorem wm_431 : Cond.code yX8_openSet cX8_openSet 3 (some .int) ∈ wsL_law := wm (wt_4 (List.mem_of_getElem? (i := 167) (by decide +kernel))) rfl
theorem wm_432 : Cond.methodLink RL 44 yX7_dropRecords ∈ wsL_law := wm (wt_2 (List.mem_of_getElem? (i := 233) (by decide +kernel))) rfl
theorem wm_433 : Cond.instanceMethod yX7_dropRecords ∈ wsL_law := wm (wt_2 (List.mem_of_getElem? (i := 234) (by decide +kernel))) rfl
theorem wm_434 : Cond.selects RX7 yX7_dropRecords yX7_dropRecords ∈ wsL_law := wm (wt_2 (List.mem_of_getElem? (i := 235) (by decide +kernel))) rfl
theorem wm_435 : Cond.code yX7_dropRecords cX7_dropRecords 1 (some .int) ∈ wsL_law := wm (wt_2 (List.mem_of_getElem? (i := 236) (by decide +kernel))) rfl
theorem wm_436 : Cond.methodLink RX7 71 yX6_dropOldRecords ∈ wsL_law := wm (wt_2 (List.mem_of_getElem? (i := 237) (by decide +kernel))) rfl
theorem wm_437 : Cond.instanceMethod yX6_dropOldRecords ∈ wsL_law := wm (wt_2 (List.mem_of_getElem? (i := 238) (by decide +kernel))) rfl
theorem wm_438 : Cond.selects RX6 yX6_dropOldRecords yX6_dropOldRecords ∈ wsL_law := wm (wt_2 (List.mem_of_getElem? (i := 239) (by decide +kernel))) rfl
theorem wm_439 : Cond.code yX6_dropOldRecords cX6_dropOldRecords 1 (some .int) ∈ wsL_law := wm (wt_3 (List.mem_of_getElem? (i := 0) (by decide +kernel))) rfl
theorem wm_440 : Cond.methodLink RX6 158 yX2_dropFirst ∈ wsL_law := wm (wt_3 (List.mem_of_getElem? (i := 1) (by decide +kernel))) rfl
theorem wm_441 : Cond.instanceMethod yX2_dropFirst ∈ wsL_law := wm (wt_3 (List.mem_of_getElem? (i := 2) (by decide +kernel))) rfl
theorem wm_442 : Cond.selects RX2 yX2_dropFirst yX2_dropFirst ∈ wsL_law := wm (wt_3 (List.mem_of_getElem? (i := 3) (by decide +kernel))) rfl
theorem wm_443 : Cond.code yX2_dropFirst cX2_dropFirst 3 (some .int) ∈ wsL_law := wm (wt_3 (List.mem_of_getElem? (i := 4) (by decide +kernel))) rfl
theorem wm_444 : Cond.methodLink RX2 89 yX2_droppable ∈ wsL_law := wm (wt_3 (List.mem_of_getElem? (i := 5) (by decide +kernel))) rfl
theorem wm_445 : Cond.instanceMethod yX2_droppable ∈ wsL_law := wm (wt_3 (List.mem_of_getElem? (i := 6) (by decide +kernel))) rfl
theorem wm_446 : Cond.selects RX2 yX2_droppable yX2_droppable ∈ wsL_law := wm (wt_3 (List.mem_of_getElem? (i := 7) (by decide +kernel))) rfl
theorem wm_447 : Cond.code yX2_droppable cX2_droppable 1 (some .int) ∈ wsL_law := wm (wt_3 (List.mem_of_getElem? (i := 8) (by decide +kernel))) rfl
theorem wm_448 : Cond.methodLink RL 47 yX8_dropRecords ∈ wsL_law := wm (wt_4 (List.mem_of_getElem? (i := 168) (by decide +kernel))) rfl
theorem wm_449 : Cond.instanceMethod yX8_dropRecords ∈ wsL_law := wm (wt_4 (List.mem_of_getElem? (i := 169) (by decide +kernel))) rfl
theorem wm_450 : Cond.selects RX8 yX8_dropRecords yX8_dropRecords ∈ wsL_law := wm (wt_4 (List.mem_of_getElem? (i := 170) (by decide +kernel))) rfl
theorem wm_451 : Cond.code yX8_dropRecords cX8_dropRecords 3 (some .int) ∈ wsL_law := wm (wt_4 (List.mem_of_getElem? (i := 171) (by decide +kernel))) rfl
theorem wm_452 : Cond.methodLink RX8 121 yX8_latest ∈ wsL_law := wm (wt_4 (List.mem_of_getElem? (i := 172) (by decide +kernel))) rfl
theorem wm_453 : Cond.instanceMethod yX8_latest ∈ wsL_law := wm (wt_4 (List.mem_of_getElem? (i := 174) (by decide +kernel))) rfl
theorem wm_454 : Cond.selects RX8 yX8_latest yX8_latest ∈ wsL_law := wm (wp_3 (List.mem_of_getElem? (i := 7) (by decide +kernel))) rfl
theorem wm_455 : Cond.code yX8_latest cX8_latest 3 (some .int) ∈ wsL_law := wm (wt_4 (List.mem_of_getElem? (i := 175) (by decide +kernel))) rfl
theorem wm_456 : Cond.methodLink RX8 124 yX8_canDrop ∈ wsL_law := wm (wt_4 (List.mem_of_getElem? (i := 176) (by decide +kernel))) rfl
theorem wm_457 : Cond.instanceMethod yX8_canDrop ∈ wsL_law := wm (wt_4 (List.mem_of_getElem? (i := 178) (by decide +kernel))) rfl
theorem wm_458 : Cond.selects RX8 yX8_canDrop yX8_canDrop ∈ wsL_law := wm (wp_3 (List.mem_of_getElem? (i := 8) (by decide +kernel))) rfl
theorem wm_459 : Cond.code yX8_canDrop cX8_canDrop 6 (some .int) ∈ wsL_law := wm (wt_4 (List.mem_of_getElem? (i := 179) (by decide +kernel))) rfl
theorem wm_460 : Cond.methodLink RL 48 yX7_force ∈ wsL_law := wm (wt_3 (List.mem_of_getElem? (i := 9) (by decide +kernel))) rfl
theorem wm_461 : Cond.instanceMethod yX7_force ∈ wsL_law := wm (wt_3 (List.mem_of_getElem? (i := 10) (by decide +kernel))) rfl
theorem wm_462 : Cond.selects RX7 yX7_force yX7_force ∈ wsL_law := wm (wt_3 (List.mem_of_getElem? (i := 11) (by decide +kernel))) rfl
theorem wm_463 : Cond.code yX7_force cX7_force 1 (some .int) ∈ wsL_law := wm (wt_3 (List.mem_of_getElem? (i := 12) (by decide +kernel))) rfl
theorem wm_464 : Cond.methodLink RX7 74 yX6_forceAll ∈ wsL_law := wm (wt_3 (List.mem_of_getElem? (i := 13) (by decide +kernel))) rfl
theorem wm_465 : Cond.instanceMethod yX6_forceAll ∈ wsL_law := wm (wt_3 (List.mem_of_getElem? (i := 14) (by decide +kernel))) rfl
theorem wm_466 : Cond.selects RX6 yX6_forceAll yX6_forceAll ∈ wsL_law := wm (wt_3 (List.mem_of_getElem? (i := 15) (by decide +kernel))) rfl
theorem wm_467 : Cond.code yX6_forceAll cX6_forceAll 1 (some .int) ∈ wsL_law := wm (wt_3 (List.mem_of_getElem? (i := 16) (by decide +kernel))) rfl
theorem wm_468 : Cond.methodLink RL 51 yX8_force ∈ wsL_law := wm (wt_4 (List.mem_of_getElem? (i := 180) (by decide +kernel))) rfl
theorem wm_469 : Cond.instanceMethod yX8_force ∈ wsL_law := wm (wt_4 (List.mem_of_getElem? (i := 181) (by decide +kernel))) rfl
theorem wm_470 : Cond.selects RX8 yX8_force yX8_force ∈ wsL_law := wm (wt_4 (List.mem_of_getElem? (i := 182) (by decide +kernel))) rfl
theorem wm_471 : Cond.code yX8_force cX8_force 1 (some .int) ∈ wsL_law := wm (wt_4 (List.mem_of_getElem? (i := 183) (by decide +kernel))) rfl
theorem wm_472 : Cond.methodLink RL 52 yX7_stop ∈ wsL_law := wm (wt_3 (List.mem_of_getElem? (i := 17) (by decide +kernel))) rfl
theorem wm_473 : Cond.instanceMethod yX7_stop ∈ wsL_law := wm (wt_3 (List.mem_of_getElem? (i := 18) (by decide +kernel))) rfl
theorem wm_474 : Cond.selects RX7 yX7_stop yX7_stop ∈ wsL_law := wm (wt_3 (List.mem_of_getElem? (i := 19) (by decide +kernel))) rfl
theorem wm_475 : Cond.code yX7_stop cX7_stop 2 (some .int) ∈ wsL_law := wm (wt_3 (List.mem_of_getElem? (i := 20) (by decide +kernel))) rfl
theorem wm_476 : Cond.methodLink RX7 77 yX6_stopStore ∈ wsL_law := wm (wt_3 (List.mem_of_getElem? (i := 21) (by decide +kernel))) rfl
theorem wm_477 : Cond.instanceMethod yX6_stopStore ∈ wsL_law := wm (wt_3 (List.mem_of_getElem? (i := 22) (by decide +kernel))) rfl
theorem wm_478 : Cond.selects RX6 yX6_stopStore yX6_stopStore ∈ wsL_law := wm (wt_3 (List.mem_of_getElem? (i := 23) (by decide +kernel))) rfl
theorem wm_479 : Cond.code yX6_stopStore cX6_stopStore 3 (some .int) ∈ wsL_law := wm (wt_3 (List.mem_of_getElem? (i := 24) (by decide +kernel))) rfl
theorem wm_480 : Cond.methodLink RX6 161 yX4_highestDiskMark ∈ wsL_law := wm (wt_3 (List.mem_of_getElem? (i := 25) (by decide +kernel))) rfl
theorem wm_481 : Cond.instanceMethod yX4_highestDiskMark ∈ wsL_law := wm (wt_3 (List.mem_of_getElem? (i := 26) (by decide +kernel))) rfl
theorem wm_482 : Cond.selects RX4 yX4_highestDiskMark yX4_highestDiskMark ∈ wsL_law := wm (wt_3 (List.mem_of_getElem? (i := 27) (by decide +kernel))) rfl
theorem wm_483 : Cond.code yX4_highestDiskMark cX4_highestDiskMark 3 (some .int) ∈ wsL_law := wm (wt_3 (List.mem_of_getElem? (i := 28) (by decide +kernel))) rfl
theorem wm_484 : Cond.methodLink RX4 41 Lib.Math.max.name ∈ wsL_law := wm (wt_3 (List.mem_of_getElem? (i := 29) (by decide +kernel))) rfl
theorem wm_485 : Cond.methodLink RX6 164 yX2_loseRecords ∈ wsL_law := wm (wt_3 (List.mem_of_getElem? (i := 30) (by decide +kernel))) rfl
theorem wm_486 : Cond.instanceMethod yX2_loseRecords ∈ wsL_law := wm (wt_3 (List.mem_of_getElem? (i := 31) (by decide +kernel))) rfl
theorem wm_487 : Cond.selects RX2 yX2_loseRecords yX2_loseRecords ∈ wsL_law := wm (wt_3 (List.mem_of_getElem? (i := 32) (by decide +kernel))) rfl
theorem wm_488 : Cond.code yX2_loseRecords cX2_loseRecords 6 (some .int) ∈ wsL_law := wm (wt_3 (List.mem_of_getElem? (i := 33) (by decide +kernel))) rfl
theorem wm_489 : Cond.methodLink RX2 93 yX2_last ∈ wsL_law := wm (wt_3 (List.mem_of_getElem? (i := 34) (by decide +kernel))) rfl
theorem wm_490 : Cond.methodLink RX2 96 yX2_has ∈ wsL_law := wm (wt_3 (List.mem_of_getElem? (i := 35) (by decide +kernel))) rfl
theorem wm_491 : Cond.instanceMethod yX2_has ∈ wsL_law := wm (wt_3 (List.mem_of_getElem? (i := 36) (by decide +kernel))) rfl
theorem wm_492 : Cond.selects RX2 yX2_has yX2_has ∈ wsL_law := wm (wt_3 (List.mem_of_getElem? (i := 37) (by decide +kernel))) rfl
theorem wm_493 : Cond.code yX2_has cX2_has 2 (some .boolean) ∈ wsL_law := wm (wt_3 (List.mem_of_getElem? (i := 38) (by decide +kernel))) rfl
theorem wm_494 : Cond.methodLink RX2 100 yX2_at ∈ wsL_law := wm (wt_3 (List.mem_of_getElem? (i := 39) (by decide +kernel))) rfl
theorem wm_495 : Cond.methodLink RX6 168 yX4_emptyCache ∈ wsL_law := wm (wt_3 (List.mem_of_getElem? (i := 40) (by decide +kernel))) rfl
theorem wm_496 : Cond.instanceMethod yX4_emptyCache ∈ wsL_law := wm (wt_3 (List.mem_of_getElem? (i := 41) (by decide +kernel))) rfl
theorem wm_497 : Cond.selects RX4 yX4_emptyCache yX4_emptyCache ∈ wsL_law := wm (wt_3 (List.mem_of_getElem? (i := 42) (by decide +kernel))) rfl
theorem wm_498 : Cond.code yX4_emptyCache cX4_emptyCache 1 none ∈ wsL_law := wm (wt_3 (List.mem_of_getElem? (i := 43) (by decide +kernel))) rfl
theorem wm_499 : Cond.methodLink RL 55 yX8_stop ∈ wsL_law := wm (wt_4 (List.mem_of_getElem? (i := 184) (by decide +kernel))) rfl
theorem wm_500 : Cond.instanceMethod yX8_stop ∈ wsL_law := wm (wt_4 (List.mem_of_getElem? (i := 185) (by decide +kernel))) rfl
theorem wm_501 : Cond.selects RX8 yX8_stop yX8_stop ∈ wsL_law := wm (wt_4 (List.mem_of_getElem? (i := 186) (by decide +kernel))) rfl
theorem wm_502 : Cond.code yX8_stop cX8_stop 2 (some .int) ∈ wsL_law := wm (wt_4 (List.mem_of_getElem? (i := 187) (by decide +kernel))) rfl
theorem wm_503 : Cond.methodLink RX8 130 yX8_stops ∈ wsL_law := wm (wt_4 (List.mem_of_getElem? (i := 188) (by decide +kernel))) rfl
theorem wm_504 : Cond.instanceMethod yX8_stops ∈ wsL_law := wm (wt_4 (List.mem_of_getElem? (i := 190) (by decide +kernel))) rfl
theorem wm_505 : Cond.selects RX8 yX8_stops yX8_stops ∈ wsL_law := wm (wp_3 (List.mem_of_getElem? (i := 9) (by decide +kernel))) rfl
theorem wm_506 : Cond.code yX8_stops cX8_stops 4 (some .int) ∈ wsL_law := wm (wt_4 (List.mem_of_getElem? (i := 191) (by decide +kernel))) rfl
theorem wm_507 : Cond.methodLink RX8 127 yX8_isTorn ∈ wsL_law := wm (wt_4 (List.mem_of_getElem? (i := 192) (by decide +kernel))) rfl
theorem wm_508 : Cond.instanceMethod yX8_isTorn ∈ wsL_law := wm (wt_4 (List.mem_of_getElem? (i := 194) (by decide +kernel))) rfl
theorem wm_509 : Cond.selects RX8 yX8_isTorn yX8_isTorn ∈ wsL_law := wm (wp_3 (List.mem_of_getElem? (i := 10) (by decide +kernel))) rfl
theorem wm_510 : Cond.code yX8_isTorn cX8_isTorn 3 (some .boolean) ∈ wsL_law := wm (wt_4 (List.mem_of_getElem? (i := 195) (by decide +kernel))) rfl
theorem wm_511 : Cond.methodLink RL 56 yX7_restart ∈ wsL_law := wm (wt_3 (List.mem_of_getElem? (i := 44) (by decide +kernel))) rfl
theorem wm_512 : Cond.instanceMethod yX7_restart ∈ wsL_law := wm (wt_3 (List.mem_of_getElem? (i := 45) (by decide +kernel))) rfl
theorem wm_513 : Cond.selects RX7 yX7_restart yX7_restart ∈ wsL_law := wm (wt_3 (List.mem_of_getElem? (i := 46) (by decide +kernel))) rfl
theorem wm_514 : Cond.code yX7_restart cX7_restart 1 (some .int) ∈ wsL_law := wm (wt_3 (List.mem_of_getElem? (i := 47) (by decide +kernel))) rfl
theorem wm_515 : Cond.methodLink RX7 80 yX5_run ∈ wsL_law := wm (wt_3 (List.mem_of_getElem? (i := 48) (by decide +kernel))) rfl
theorem wm_516 : Cond.instanceMethod yX5_run ∈ wsL_law := wm (wt_3 (List.mem_of_getElem? (i := 49) (by decide +kernel))) rfl
theorem wm_517 : Cond.selects RX5 yX5_run yX5_run ∈ wsL_law := wm (wt_3 (List.mem_of_getElem? (i := 50) (by decide +kernel))) rfl
theorem wm_518 : Cond.code yX5_run cX5_run 2 (some .int) ∈ wsL_law := wm (wt_3 (List.mem_of_getElem? (i := 51) (by decide +kernel))) rfl
theorem wm_519 : Cond.constant RX5 24 (-1000002) ∈ wsL_law := wm (wt_3 (List.mem_of_getElem? (i := 52) (by decide +kernel))) rfl
theorem wm_520 : Cond.fieldLink RX5 59 "SealedGroups$Restarter" "doneAgain" "I" ∈ wsL_law := wm (wt_1 (List.mem_of_getElem? (i := 178) (by decide +kernel))) rfl
theorem wm_521 : Cond.methodLink RX5 29 yX5_look ∈ wsL_law := wm (wt_3 (List.mem_of_getElem? (i := 53) (by decide +kernel))) rfl
theorem wm_522 : Cond.instanceMethod yX5_look ∈ wsL_law := wm (wt_3 (List.mem_of_getElem? (i := 55) (by decide +kernel))) rfl
theorem wm_523 : Cond.selects RX5 yX5_look yX5_look ∈ wsL_law := wm (wp_1 (List.mem_of_getElem? (i := 2) (by decide +kernel))) rfl
theorem wm_524 : Cond.code yX5_look cX5_look 6 none ∈ wsL_law := wm (wt_3 (List.mem_of_getElem? (i := 56) (by decide +kernel))) rfl
theorem wm_525 : Cond.methodLink RX5 80 Lib.Math.max.name ∈ wsL_law := wm (wt_3 (List.mem_of_getElem? (i := 58) (by decide +kernel))) rfl
theorem wm_526 : Cond.fieldLink RX5 63 "SealedGroups$Restarter" "losers" "I" ∈ wsL_law := wm (wt_1 (List.mem_of_getElem? (i := 177) (by decide +kernel))) rfl
theorem wm_527 : Cond.fieldLink RX5 66 "SealedGroups$Restarter" "lookedFrom" "I" ∈ wsL_law := wm (wt_1 (List.mem_of_getElem? (i := 176) (by decide +kernel))) rfl
theorem wm_528 : Cond.methodLink RX5 76 yX2_at ∈ wsL_law := wm (wt_3 (List.mem_of_getElem? (i := 57) (by decide +kernel))) rfl
theorem wm_529 : Cond.methodLink RX5 86 yX2_tellNumber ∈ wsL_law := wm (wt_3 (List.mem_of_getElem? (i := 59) (by decide +kernel))) rfl
theorem wm_530 : Cond.instanceMethod yX2_tellNumber ∈ wsL_law := wm (wt_3 (List.mem_of_getElem? (i := 60) (by decide +kernel))) rfl
theorem wm_531 : Cond.selects RX2 yX2_tellNumber yX2_tellNumber ∈ wsL_law := wm (wt_3 (List.mem_of_getElem? (i := 61) (by decide +kernel))) rfl
theorem wm_532 : Cond.code yX2_tellNumber cX2_tellNumber 2 (some .int) ∈ wsL_law := wm (wt_3 (List.mem_of_getElem? (i := 62) (by decide +kernel))) rfl
theorem wm_533 : Cond.constant RX2 104 (-1000001) ∈ wsL_law := wm (wt_3 (List.mem_of_getElem? (i := 63) (by decide +kernel))) rfl
theorem wm_534 : Cond.methodLink RX5 45 yX2_last ∈ wsL_law := wm (wt_3 (List.mem_of_getElem? (i := 64) (by decide +kernel))) rfl
theorem wm_535 : Cond.methodLink RX5 95 yX5_lookAt ∈ wsL_law := wm (wt_3 (List.mem_of_getElem? (i := 65) (by decide +kernel))) rfl
theorem wm_536 : Cond.instanceMethod yX5_lookAt ∈ wsL_law := wm (wt_3 (List.mem_of_getElem? (i := 67) (by decide +kernel))) rfl
theorem wm_537 : Cond.selects RX5 yX5_lookAt yX5_lookAt ∈ wsL_law := wm (wp_1 (List.mem_of_getElem? (i := 3) (by decide +kernel))) rfl
theorem wm_538 : Cond.code yX5_lookAt cX5_lookAt 6 none ∈ wsL_law := wm (wt_3 (List.mem_of_getElem? (i := 68) (by decide +kernel))) rfl
theorem wm_539 : Cond.methodLink RX5 37 yX5_doAgain ∈ wsL_law := wm (wt_3 (List.mem_of_getElem? (i := 69) (by decide +kernel))) rfl
theorem wm_540 : Cond.instanceMethod yX5_doAgain ∈ wsL_law := wm (wt_3 (List.mem_of_getElem? (i := 71) (by decide +kernel))) rfl
theorem wm_541 : Cond.selects RX5 yX5_doAgain yX5_doAgain ∈ wsL_law := wm (wp_1 (List.mem_of_getElem? (i := 4) (by decide +kernel))) rfl
theorem wm_542 : Cond.code yX5_doAgain cX5_doAgain 9 none ∈ wsL_law := wm (wt_3 (List.mem_of_getElem? (i := 72) (by decide +kernel))) rfl
theorem wm_543 : Cond.methodLink RX5 108 yX5_leastStart ∈ wsL_law := wm (wt_3 (List.mem_of_getElem? (i := 73) (by decide +kernel))) rfl
theorem wm_544 : Cond.instanceMethod yX5_leastStart ∈ wsL_law := wm (wt_3 (List.mem_of_getElem? (i := 75) (by decide +kernel))) rfl
theorem wm_545 : Cond.selects RX5 yX5_leastStart yX5_leastStart ∈ wsL_law := wm (wp_1 (List.mem_of_getElem? (i := 5) (by decide +kernel))) rfl
theorem wm_546 : Cond.code yX5_leastStart cX5_leastStart 3 (some .int) ∈ wsL_law := wm (wt_3 (List.mem_of_getElem? (i := 76) (by decide +kernel))) rfl
theorem wm_547 : Cond.methodLink RX5 111 yX5_isAfterStart ∈ wsL_law := wm (wt_3 (List.mem_of_getElem? (i := 77) (by decide +kernel))) rfl
theorem wm_548 : Cond.instanceMethod yX5_isAfterStart ∈ wsL_law := wm (wt_3 (List.mem_of_getElem? (i := 79) (by decide +kernel))) rfl
theorem wm_549 : Cond.selects RX5 yX5_isAfterStart yX5_isAfterStart ∈ wsL_law := wm (wp_1 (List.mem_of_getElem? (i := 6) (by decide +kernel))) rfl
theorem wm_550 : Cond.code yX5_isAfterStart cX5_isAfterStart 3 (some .boolean) ∈ wsL_law := wm (wt_3 (List.mem_of_getElem? (i := 80) (by decide +kernel))) rfl
theorem wm_551 : Cond.methodLink RX5 115 yX4_markOf ∈ wsL_law := wm (wt_3 (List.mem_of_getElem? (i := 81) (by decide +kernel))) rfl
theorem wm_552 : Cond.methodLink RX5 123 yX4_put ∈ wsL_law := wm (wt_3 (List.mem_of_getElem? (i := 82) (by decide +kernel))) rfl
theorem wm_553 : Cond.methodLink RX5 41 yX5_takeLosersBack ∈ wsL_law := wm (wt_3 (List.mem_of_getElem? (i := 83) (by decide +kernel))) rfl
theorem wm_554 : Cond.instanceMethod yX5_takeLosersBack ∈ wsL_law := wm (wt_3 (List.mem_of_getElem? (i := 85) (by decide +kernel))) rfl
theorem wm_555 : Cond.selects RX5 yX5_takeLosersBack yX5_takeLosersBack ∈ wsL_law := wm (wp_1 (List.mem_of_getElem? (i := 7) (by decide +kernel))) rfl
theorem wm_556 : Cond.code yX5_takeLosersBack cX5_takeLosersBack 8 none ∈ wsL_law := wm (wt_3 (List.mem_of_getElem? (i := 86) (by decide +kernel))) rfl
theorem wm_557 : Cond.fieldLink RX5 60 "SealedGroups$Restarter" "writesTakenBack" "I" ∈ wsL_law := wm (wt_1 (List.mem_of_getElem? (i := 179) (by decide +kernel))) rfl
theorem wm_558 : Cond.methodLink RX5 130 yX5_noteTakenBack ∈ wsL_law := wm (wt_3 (List.mem_of_getElem? (i := 87) (by decide +kernel))) rfl
theorem wm_559 : Cond.instanceMethod yX5_noteTakenBack ∈ wsL_law := wm (wt_3 (List.mem_of_getElem? (i := 89) (by decide +kernel))) rfl
theorem wm_560 : Cond.selects RX5 yX5_noteTakenBack yX5_noteTakenBack ∈ wsL_law := wm (wp_1 (List.mem_of_getElem? (i := 8) (by decide +kernel))) rfl
theorem wm_561 : Cond.code yX5_noteTakenBack cX5_noteTakenBack 2 none ∈ wsL_law := wm (wt_3 (List.mem_of_getElem? (i := 90) (by decide +kernel))) rfl
theorem wm_562 : Cond.methodLink RX5 134 yX6_endGroup ∈ wsL_law := wm (wt_3 (List.mem_of_getElem? (i := 91) (by decide +kernel))) rfl
theorem wm_563 : Cond.methodLink RX5 137 yX5_isTakenBack ∈ wsL_law := wm (wt_3 (List.mem_of_getElem? (i := 92) (by decide +kernel))) rfl
theorem wm_564 : Cond.instanceMethod yX5_isTakenBack ∈ wsL_law := wm (wt_3 (List.mem_of_getElem? (i := 94) (by decide +kernel))) rfl
theorem wm_565 : Cond.selects RX5 yX5_isTakenBack yX5_isTakenBack ∈ wsL_law := wm (wp_1 (List.mem_of_getElem? (i := 9) (by decide +kernel))) rfl
theorem wm_566 : Cond.code yX5_isTakenBack cX5_isTakenBack 2 (some .boolean) ∈ wsL_law := wm (wt_3 (List.mem_of_getElem? (i := 95) (by decide +kernel))) rfl
theorem wm_567 : Cond.methodLink RX5 141 yX6_takeWriteBack ∈ wsL_law := wm (wt_3 (List.mem_of_getElem? (i := 96) (by decide +kernel))) rfl
theorem wm_568 : Cond.methodLink RX5 51 yX2_forceUpTo ∈ wsL_law := wm (wt_3 (List.mem_of_getElem? (i := 97) (by decide +kernel))) rfl
theorem wm_569 : Cond.methodLink RL 59 yX8_restart ∈ wsL_law := wm (wt_4 (List.mem_of_getElem? (i := 196) (by decide +kernel))) rfl
theorem wm_570 : Cond.instanceMethod yX8_restart ∈ wsL_law := wm (wt_4 (List.mem_of_getElem? (i := 197) (by decide +kernel))) rfl
theorem wm_571 : Cond.selects RX8 yX8_restart yX8_restart ∈ wsL_law := wm (wt_4 (List.mem_of_getElem? (i := 198) (by decide +kernel))) rfl
theorem wm_572 : Cond.code yX8_restart cX8_restart 1 (some .int) ∈ wsL_law := wm (wt_4 (List.mem_of_getElem? (i := 199) (by decide +kernel))) rfl
theorem wm_573 : Cond.methodLink RX8 142 yX8_restarts ∈ wsL_law := wm (wt_4 (List.mem_of_getElem? (i := 200) (by decide +kernel))) rfl
theorem wm_574 : Cond.instanceMethod yX8_restarts ∈ wsL_law := wm (wt_4 (List.mem_of_getElem? (i := 202) (by decide +kernel))) rfl
theorem wm_575 : Cond.selects RX8 yX8_restarts yX8_restarts ∈ wsL_law := wm (wp_3 (List.mem_of_getElem? (i := 11) (by decide +kernel))) rfl
theorem wm_576 : Cond.code yX8_restarts cX8_restarts 5 (some .int) ∈ wsL_law := wm (wt_4 (List.mem_of_getElem? (i := 203) (by decide +kernel))) rfl
theorem wm_577 : Cond.fieldLink RX8 133 "SealedGroupsModel" "losers" "I" ∈ wsL_law := wm (wt_4 (List.mem_of_getElem? (i := 6) (by decide +kernel))) rfl
theorem wm_578 : Cond.fieldLink RX8 139 "SealedGroupsModel" "taken" "I" ∈ wsL_law := wm (wt_4 (List.mem_of_getElem? (i := 7) (by decide +kernel))) rfl
theorem wm_579 : Cond.methodLink RX8 136 yX8_looks ∈ wsL_law := wm (wt_4 (List.mem_of_getElem? (i := 204) (by decide +kernel))) rfl
theorem wm_580 : Cond.instanceMethod yX8_looks ∈ wsL_law := wm (wt_4 (List.mem_of_getElem? (i := 206) (by decide +kernel))) rfl
theorem wm_581 : Cond.selects RX8 yX8_looks yX8_looks ∈ wsL_law := wm (wp_3 (List.mem_of_getElem? (i := 12) (by decide +kernel))) rfl
theorem wm_582 : Cond.code yX8_looks cX8_looks 4 none ∈ wsL_law := wm (wt_4 (List.mem_of_getElem? (i := 207) (by decide +kernel))) rfl
theorem wm_583 : Cond.methodLink RL 60 yX7_pageOf ∈ wsL_law := wm (wt_3 (List.mem_of_getElem? (i := 98) (by decide +kernel))) rfl
theorem wm_584 : Cond.instanceMethod yX7_pageOf ∈ wsL_law := wm (wt_3 (List.mem_of_getElem? (i := 99) (by decide +kernel))) rfl
theorem wm_585 : Cond.selects RX7 yX7_pageOf yX7_pageOf ∈ wsL_law := wm (wt_3 (List.mem_of_getElem? (i := 100) (by decide +kernel))) rfl
theorem wm_586 : Cond.code yX7_pageOf cX7_pageOf 3 (some .int) ∈ wsL_law := wm (wt_3 (List.mem_of_getElem? (i := 101) (by decide +kernel))) rfl
theorem wm_587 : Cond.constant RX7 84 (-1000001) ∈ wsL_law := wm (wt_3 (List.mem_of_getElem? (i := 102) (by decide +kernel))) rfl
theorem wm_588 : Cond.methodLink RX7 89 yX0_holderOf ∈ wsL_law := wm (wt_3 (List.mem_of_getElem? (i := 103) (by decide +kernel))) rfl
theorem wm_589 : Cond.methodLink RX7 98 yX2_settledValueOf ∈ wsL_law := wm (wt_3 (List.mem_of_getElem? (i := 104) (by decide +kernel))) rfl
theorem wm_590 : Cond.instanceMethod yX2_settledValueOf ∈ wsL_law := wm (wt_3 (List.mem_of_getElem? (i := 105) (by decide +kernel))) rfl
theorem wm_591 : Cond.selects RX2 yX2_settledValueOf yX2_settledValueOf ∈ wsL_law := wm (wt_3 (List.mem_of_getElem? (i := 106) (by decide +kernel))) rfl
theorem wm_592 : Cond.code yX2_settledValueOf cX2_settledValueOf 5 (some .int) ∈ wsL_law := wm (wt_3 (List.mem_of_getElem? (i := 107) (by decide +kernel))) rfl
theorem wm_593 : Cond.methodLink RX7 107 yX4_tell ∈ wsL_law := wm (wt_3 (List.mem_of_getElem? (i := 108) (by decide +kernel))) rfl
theorem wm_594 : Cond.instanceMethod yX4_tell ∈ wsL_law := wm (wt_3 (List.mem_of_getElem? (i := 109) (by decide +kernel))) rfl
theorem wm_595 : Cond.selects RX4 yX4_tell yX4_tell ∈ wsL_law := wm (wt_3 (List.mem_of_getElem? (i := 110) (by decide +kernel))) rfl
theorem wm_596 : Cond.code yX4_tell cX4_tell 3 (some .int) ∈ wsL_law := wm (wt_3 (List.mem_of_getElem? (i := 111) (by decide +kernel))) rfl
theorem wm_597 : Cond.constant RX4 47 (-1000001) ∈ wsL_law := wm (wt_3 (List.mem_of_getElem? (i := 112) (by decide +kernel))) rfl
theorem wm_598 : Cond.methodLink RX4 48 yX4_valueOf ∈ wsL_law := wm (wt_3 (List.mem_of_getElem? (i := 113) (by decide +kernel))) rfl
theorem wm_599 : Cond.methodLink RX4 52 yX4_markOf ∈ wsL_law := wm (wt_3 (List.mem_of_getElem? (i := 114) (by decide +kernel))) rfl
theorem wm_600 : Cond.methodLink RX4 55 yX4_startOf ∈ wsL_law := wm (wt_3 (List.mem_of_getElem? (i := 115) (by decide +kernel))) rfl
theorem wm_601 : Cond.instanceMethod yX4_startOf ∈ wsL_law := wm (wt_3 (List.mem_of_getElem? (i := 116) (by decide +kernel))) rfl
theorem wm_602 : Cond.selects RX4 yX4_startOf yX4_startOf ∈ wsL_law := wm (wt_3 (List.mem_of_getElem? (i := 117) (by decide +kernel))) rfl
theorem wm_603 : Cond.code yX4_startOf cX4_startOf 2 (some .int) ∈ wsL_law := wm (wt_3 (List.mem_of_getElem? (i := 118) (by decide +kernel))) rfl
theorem wm_604 : Cond.constant RX4 40 (-1000004) ∈ wsL_law := wm (wt_3 (List.mem_of_getElem? (i := 119) (by decide +kernel))) rfl
theorem wm_605 : Cond.methodLink RL 64 yX8_pageOf ∈ wsL_law := wm (wt_4 (List.mem_of_getElem? (i := 208) (by decide +kernel))) rfl
theorem wm_606 : Cond.instanceMethod yX8_pageOf ∈ wsL_law := wm (wt_4 (List.mem_of_getElem? (i := 209) (by decide +kernel))) rfl
theorem wm_607 : Cond.selects RX8 yX8_pageOf yX8_pageOf ∈ wsL_law := wm (wt_4 (List.mem_of_getElem? (i := 210) (by decide +kernel))) rfl
theorem wm_608 : Cond.code yX8_pageOf cX8_pageOf 3 (some .int) ∈ wsL_law := wm (wt_4 (List.mem_of_getElem? (i := 211) (by decide +kernel))) rfl
theorem wm_609 : Cond.methodLink RX8 148 yX8_settledValue ∈ wsL_law := wm (wt_4 (List.mem_of_getElem? (i := 212) (by decide +kernel))) rfl
theorem wm_610 : Cond.instanceMethod yX8_settledValue ∈ wsL_law := wm (wt_4 (List.mem_of_getElem? (i := 214) (by decide +kernel))) rfl
theorem wm_611 : Cond.selects RX8 yX8_settledValue yX8_settledValue ∈ wsL_law := wm (wp_3 (List.mem_of_getElem? (i := 13) (by decide +kernel))) rfl
theorem wm_612 : Cond.code yX8_settledValue cX8_settledValue 4 (some .int) ∈ wsL_law := wm (wt_4 (List.mem_of_getElem? (i := 215) (by decide +kernel))) rfl
theorem wm_613 : Cond.methodLink RX8 145 yX8_nextKind ∈ wsL_law := wm (wt_4 (List.mem_of_getElem? (i := 216) (by decide +kernel))) rfl
theorem wm_614 : Cond.instanceMethod yX8_nextKind ∈ wsL_law := wm (wt_4 (List.mem_of_getElem? (i := 218) (by decide +kernel))) rfl
theorem wm_615 : Cond.selects RX8 yX8_nextKind yX8_nextKind ∈ wsL_law := wm (wp_3 (List.mem_of_getElem? (i := 14) (by decide +kernel))) rfl
theorem wm_616 : Cond.code yX8_nextKind cX8_nextKind 5 (some .int) ∈ wsL_law := wm (wt_4 (List.mem_of_getElem? (i := 219) (by decide +kernel))) rfl
theorem wm_617 : Cond.methodLink RL 65 yX7_recordOf ∈ wsL_law := wm (wt_3 (List.mem_of_getElem? (i := 120) (by decide +kernel))) rfl
theorem wm_618 : Cond.instanceMethod yX7_recordOf ∈ wsL_law := wm (wt_3 (List.mem_of_getElem? (i := 121) (by decide +kernel))) rfl
theorem wm_619 : Cond.selects RX7 yX7_recordOf yX7_recordOf ∈ wsL_law := wm (wt_3 (List.mem_of_getElem? (i := 122) (by decide +kernel))) rfl
theorem wm_620 : Cond.code yX7_recordOf cX7_recordOf 3 (some .int) ∈ wsL_law := wm (wt_3 (List.mem_of_getElem? (i := 123) (by decide +kernel))) rfl
theorem wm_621 : Cond.methodLink RX7 113 yX2_tell ∈ wsL_law := wm (wt_3 (List.mem_of_getElem? (i := 124) (by decide +kernel))) rfl
theorem wm_622 : Cond.instanceMethod yX2_tell ∈ wsL_law := wm (wt_3 (List.mem_of_getElem? (i := 125) (by decide +kernel))) rfl
theorem wm_623 : Cond.selects RX2 yX2_tell yX2_tell ∈ wsL_law := wm (wt_3 (List.mem_of_getElem? (i := 126) (by decide +kernel))) rfl
theorem wm_624 : Cond.code yX2_tell cX2_tell 5 (some .int) ∈ wsL_law := wm (wt_3 (List.mem_of_getElem? (i := 127) (by decide +kernel))) rfl
theorem wm_625 : Cond.methodLink RL 68 yX8_recordOf ∈ wsL_law := wm (wt_4 (List.mem_of_getElem? (i := 220) (by decide +kernel))) rfl
theorem wm_626 : Cond.instanceMethod yX8_recordOf ∈ wsL_law := wm (wt_4 (List.mem_of_getElem? (i := 221) (by decide +kernel))) rfl
theorem wm_627 : Cond.selects RX8 yX8_recordOf yX8_recordOf ∈ wsL_law := wm (wt_4 (List.mem_of_getElem? (i := 222) (by decide +kernel))) rfl
theorem wm_628 : Cond.code yX8_recordOf cX8_recordOf 4 (some .int) ∈ wsL_law := wm (wt_4 (List.mem_of_getElem? (i := 223) (by decide +kernel))) rfl
theorem wm_629 : Cond.methodLink RX8 151 yX8_isRecord ∈ wsL_law := wm (wt_4 (List.mem_of_getElem? (i := 224) (by decide +kernel))) rfl
theorem wm_630 : Cond.instanceMethod yX8_isRecord ∈ wsL_law := wm (wt_4 (List.mem_of_getElem? (i := 226) (by decide +kernel))) rfl
theorem wm_631 : Cond.selects RX8 yX8_isRecord yX8_isRecord ∈ wsL_law := wm (wp_3 (List.mem_of_getElem? (i := 15) (by decide +kernel))) rfl
theorem wm_632 : Cond.code yX8_isRecord cX8_isRecord 2 (some .boolean) ∈ wsL_law := wm (wt_4 (List.mem_of_getElem? (i := 227) (by decide +kernel))) rfl
theorem wm_633 : Cond.methodLink RL 69 yX7_groupOf ∈ wsL_law := wm (wt_3 (List.mem_of_getElem? (i := 128) (by decide +kernel))) rfl
theorem wm_634 : Cond.instanceMethod yX7_groupOf ∈ wsL_law := wm (wt_3 (List.mem_of_getElem? (i := 129) (by decide +kernel))) rfl
theorem wm_635 : Cond.selects RX7 yX7_groupOf yX7_groupOf ∈ wsL_law := wm (wt_3 (List.mem_of_getElem? (i := 130) (by decide +kernel))) rfl
theorem wm_636 : Cond.code yX7_groupOf cX7_groupOf 3 (some .int) ∈ wsL_law := wm (wt_3 (List.mem_of_getElem? (i := 131) (by decide +kernel))) rfl
theorem wm_637 : Cond.methodLink RX7 114 yX0_tell ∈ wsL_law := wm (wt_3 (List.mem_of_getElem? (i := 132) (by decide +kernel))) rfl
theorem wm_638 : Cond.instanceMethod yX0_tell ∈ wsL_law := wm (wt_3 (List.mem_of_getElem? (i := 133) (by decide +kernel))) rfl
theorem wm_639 : Cond.selects RX0 yX0_tell yX0_tell ∈ wsL_law := wm (wt_3 (List.mem_of_getElem? (i := 134) (by decide +kernel))) rfl
theorem wm_640 : Cond.code yX0_tell cX0_tell 3 (some .int) ∈ wsL_law := wm (wt_3 (List.mem_of_getElem? (i := 135) (by decide +kernel))) rfl
theorem wm_641 : Cond.methodLink RX0 32 yX0_isOpen ∈ wsL_law := wm (wt_3 (List.mem_of_getElem? (i := 136) (by decide +kernel))) rfl
theorem wm_642 : Cond.methodLink RX0 36 yX0_beginOf ∈ wsL_law := wm (wt_3 (List.mem_of_getElem? (i := 137) (by decide +kernel))) rfl
theorem wm_643 : Cond.methodLink RX0 40 yX0_writesOf ∈ wsL_law := wm (wt_3 (List.mem_of_getElem? (i := 138) (by decide +kernel))) rfl
theorem wm_644 : Cond.methodLink RX0 43 yX0_heldBy ∈ wsL_law := wm (wt_3 (List.mem_of_getElem? (i := 139) (by decide +kernel))) rfl
theorem wm_645 : Cond.methodLink RL 72 yX8_groupOf ∈ wsL_law := wm (wt_4 (List.mem_of_getElem? (i := 228) (by decide +kernel))) rfl
theorem wm_646 : Cond.instanceMethod yX8_groupOf ∈ wsL_law := wm (wt_4 (List.mem_of_getElem? (i := 229) (by decide +kernel))) rfl
theorem wm_647 : Cond.selects RX8 yX8_groupOf yX8_groupOf ∈ wsL_law := wm (wt_4 (List.mem_of_getElem? (i := 230) (by decide +kernel))) rfl
theorem wm_648 : Cond.code yX8_groupOf cX8_groupOf 3 (some .int) ∈ wsL_law := wm (wt_4 (List.mem_of_getElem? (i := 231) (by decide +kernel))) rfl
theorem wm_649 : Cond.methodLink RL 73 yX7_would ∈ wsL_law := wm (wt_3 (List.mem_of_getElem? (i := 140) (by decide +kernel))) rfl
theorem wm_650 : Cond.instanceMethod yX7_would ∈ wsL_law := wm (wt_3 (List.mem_of_getElem? (i := 141) (by decide +kernel))) rfl
theorem wm_651 : Cond.selects RX7 yX7_would yX7_would ∈ wsL_law := wm (wt_3 (List.mem_of_getElem? (i := 142) (by decide +kernel))) rfl
theorem wm_652 : Cond.code yX7_would cX7_would 5 (some .int) ∈ wsL_law := wm (wt_3 (List.mem_of_getElem? (i := 143) (by decide +kernel))) rfl
theorem wm_653 : Cond.constant RX7 119 (-1000002) ∈ wsL_law := wm (wt_3 (List.mem_of_getElem? (i := 144) (by decide +kernel))) rfl
theorem wm_654 : Cond.methodLink RX7 120 yX6_copyFrom ∈ wsL_law := wm (wt_3 (List.mem_of_getElem? (i := 145) (by decide +kernel))) rfl
theorem wm_655 : Cond.methodLink RX7 123 yX4_valueOf ∈ wsL_law := wm (wt_3 (List.mem_of_getElem? (i := 146) (by decide +kernel))) rfl
theorem wm_656 : Cond.methodLink RX7 126 yX5_tell ∈ wsL_law := wm (wt_3 (List.mem_of_getElem? (i := 147) (by decide +kernel))) rfl
theorem wm_657 : Cond.instanceMethod yX5_tell ∈ wsL_law := wm (wt_3 (List.mem_of_getElem? (i := 148) (by decide +kernel))) rfl
theorem wm_658 : Cond.selects RX5 yX5_tell yX5_tell ∈ wsL_law := wm (wt_3 (List.mem_of_getElem? (i := 149) (by decide +kernel))) rfl
theorem wm_659 : Cond.code yX5_tell cX5_tell 2 (some .int) ∈ wsL_law := wm (wt_3 (List.mem_of_getElem? (i := 150) (by decide +kernel))) rfl
theorem wm_660 : Cond.constant RX5 69 (-1000004) ∈ wsL_law := wm (wt_3 (List.mem_of_getElem? (i := 151) (by decide +kernel))) rfl
theorem wm_661 : Cond.methodLink RL 76 yX8_would ∈ wsL_law := wm (wt_4 (List.mem_of_getElem? (i := 232) (by decide +kernel))) rfl
theorem wm_662 : Cond.instanceMethod yX8_would ∈ wsL_law := wm (wt_4 (List.mem_of_getElem? (i := 233) (by decide +kernel))) rfl
theorem wm_663 : Cond.selects RX8 yX8_would yX8_would ∈ wsL_law := wm (wt_4 (List.mem_of_getElem? (i := 234) (by decide +kernel))) rfl
theorem wm_664 : Cond.code yX8_would cX8_would 8 (some .int) ∈ wsL_law := wm (wt_4 (List.mem_of_getElem? (i := 235) (by decide +kernel))) rfl
theorem wm_665 : Cond.methodLink RX8 154 yX8_copies ∈ wsL_law := wm (wt_4 (List.mem_of_getElem? (i := 236) (by decide +kernel))) rfl
theorem wm_666 : Cond.static yX8_copies ∈ wsL_law := wm (wt_4 (List.mem_of_getElem? (i := 237) (by decide +kernel))) rfl
theorem wm_667 : Cond.code yX8_copies cX8_copies 3 none ∈ wsL_law := wm (wt_4 (List.mem_of_getElem? (i := 238) (by decide +kernel))) rfl
theorem wm_668 : Cond.methodLink RL 77 yX7_count ∈ wsL_law := wm (wt_3 (List.mem_of_getElem? (i := 152) (by decide +kernel))) rfl
theorem wm_669 : Cond.instanceMethod yX7_count ∈ wsL_law := wm (wt_3 (List.mem_of_getElem? (i := 153) (by decide +kernel))) rfl
theorem wm_670 : Cond.selects RX7 yX7_count yX7_count ∈ wsL_law := wm (wt_3 (List.mem_of_getElem? (i := 154) (by decide +kernel))) rfl
theorem wm_671 : Cond.code yX7_count cX7_count 2 (some .int) ∈ wsL_law := wm (wt_3 (List.mem_of_getElem? (i := 155) (by decide +kernel))) rfl
theorem wm_672 : Cond.methodLink RX7 147 yX2_tellNumber ∈ wsL_law := wm (wt_3 (List.mem_of_getElem? (i := 156) (by decide +kernel))) rfl
theorem wm_673 : Cond.methodLink RL 80 yX8_count ∈ wsL_law := wm (wt_4 (List.mem_of_getElem? (i := 239) (by decide +kernel))) rfl
theorem wm_674 : Cond.instanceMethod yX8_count ∈ wsL_law := wm (wt_5 (List.mem_of_getElem? (i := 0) (by decide +kernel))) rfl
theorem wm_675 : Cond.selects RX8 yX8_count yX8_count ∈ wsL_law := wm (wt_5 (List.mem_of_getElem? (i := 1) (by decide +kernel))) rfl
theorem wm_676 : Cond.code yX8_count cX8_count 2 (some .int) ∈ wsL_law := wm (wt_5 (List.mem_of_getElem? (i := 2) (by decide +kernel))) rfl
theorem wm_677 : Cond.fieldLink RX8 158 "SealedGroupsModel" "typed" "I" ∈ wsL_law := wm (wt_4 (List.mem_of_getElem? (i := 4) (by decide +kernel))) rfl
theorem wm_678 : Cond.methodLink RL 81 yX7_undo ∈ wsL_law := wm (wt_3 (List.mem_of_getElem? (i := 157) (by decide +kernel))) rfl
theorem wm_679 : Cond.instanceMethod yX7_undo ∈ wsL_law := wm (wt_3 (List.mem_of_getElem? (i := 158) (by decide +kernel))) rfl
theorem wm_680 : Cond.selects RX7 yX7_undo yX7_undo ∈ wsL_law := wm (wt_3 (List.mem_of_getElem? (i := 159) (by decide +kernel))) rfl
theorem wm_681 : Cond.code yX7_undo cX7_undo 1 (some .int) ∈ wsL_law := wm (wt_3 (List.mem_of_getElem? (i := 160) (by decide +kernel))) rfl
theorem wm_682 : Cond.methodLink RX7 150 yX1_restoreLatest ∈ wsL_law := wm (wt_3 (List.mem_of_getElem? (i := 161) (by decide +kernel))) rfl
theorem wm_683 : Cond.instanceMethod yX1_restoreLatest ∈ wsL_law := wm (wt_3 (List.mem_of_getElem? (i := 162) (by decide +kernel))) rfl
theorem wm_684 : Cond.selects RX1 yX1_restoreLatest yX1_restoreLatest ∈ wsL_law := wm (wt_3 (List.mem_of_getElem? (i := 163) (by decide +kernel))) rfl
theorem wm_685 : Cond.code yX1_restoreLatest cX1_restoreLatest 3 (some .int) ∈ wsL_law := wm (wt_3 (List.mem_of_getElem? (i := 164) (by decide +kernel))) rfl
theorem wm_686 : Cond.constant RX1 39 (-1000002) ∈ wsL_law := wm (wt_3 (List.mem_of_getElem? (i := 165) (by decide +kernel))) rfl
theorem wm_687 : Cond.methodLink RL 84 yX8_undo ∈ wsL_law := wm (wt_5 (List.mem_of_getElem? (i := 3) (by decide +kernel))) rfl
theorem wm_688 : Cond.instanceMethod yX8_undo ∈ wsL_law := wm (wt_5 (List.mem_of_getElem? (i := 4) (by decide +kernel))) rfl
theorem wm_689 : Cond.selects RX8 yX8_undo yX8_undo ∈ wsL_law := wm (wt_5 (List.mem_of_getElem? (i := 5) (by decide +kernel))) rfl
theorem wm_690 : Cond.code yX8_undo cX8_undo 2 (some .int) ∈ wsL_law := wm (wt_5 (List.mem_of_getElem? (i := 6) (by decide +kernel))) rfl
theorem wm_691 : Cond.methodLink RL 85 yX7_type ∈ wsL_law := wm (wt_3 (List.mem_of_getElem? (i := 166) (by decide +kernel))) rfl
theorem wm_692 : Cond.instanceMethod yX7_type ∈ wsL_law := wm (wt_3 (List.mem_of_getElem? (i := 167) (by decide +kernel))) rfl
theorem wm_693 : Cond.selects RX7 yX7_type yX7_type ∈ wsL_law := wm (wt_3 (List.mem_of_getElem? (i := 168) (by decide +kernel))) rfl
theorem wm_694 : Cond.code yX7_type cX7_type 2 (some .int) ∈ wsL_law := wm (wt_3 (List.mem_of_getElem? (i := 169) (by decide +kernel))) rfl
theorem wm_695 : Cond.methodLink RX7 153 yX3_append ∈ wsL_law := wm (wt_3 (List.mem_of_getElem? (i := 170) (by decide +kernel))) rfl
theorem wm_696 : Cond.instanceMethod yX3_append ∈ wsL_law := wm (wt_3 (List.mem_of_getElem? (i := 171) (by decide +kernel))) rfl
theorem wm_697 : Cond.selects RX3 yX3_append yX3_append ∈ wsL_law := wm (wt_3 (List.mem_of_getElem? (i := 172) (by decide +kernel))) rfl
theorem wm_698 : Cond.code yX3_append cX3_append 2 (some .int) ∈ wsL_law := wm (wt_3 (List.mem_of_getElem? (i := 173) (by decide +kernel))) rfl
theorem wm_699 : Cond.fieldLink RX3 15 "SealedGroups$OrderText" "length" "I" ∈ wsL_law := wm (wt_1 (List.mem_of_getElem? (i := 220) (by decide +kernel))) rfl
theorem wm_700 : Cond.constant RX3 19 (-1000003) ∈ wsL_law := wm (wt_3 (List.mem_of_getElem? (i := 174) (by decide +kernel))) rfl
theorem wm_701 : Cond.methodLink RL 88 yX8_type ∈ wsL_law := wm (wt_5 (List.mem_of_getElem? (i := 7) (by decide +kernel))) rfl
theorem wm_702 : Cond.instanceMethod yX8_type ∈ wsL_law := wm (wt_5 (List.mem_of_getElem? (i := 8) (by decide +kernel))) rfl
theorem wm_703 : Cond.selects RX8 yX8_type yX8_type ∈ wsL_law := wm (wt_5 (List.mem_of_getElem? (i := 9) (by decide +kernel))) rfl
theorem wm_704 : Cond.code yX8_type cX8_type 2 (some .int) ∈ wsL_law := wm (wt_5 (List.mem_of_getElem? (i := 10) (by decide +kernel))) rfl
theorem wm_705 : Cond.methodLink RL 89 yX7_clearText ∈ wsL_law := wm (wt_3 (List.mem_of_getElem? (i := 175) (by decide +kernel))) rfl
theorem wm_706 : Cond.instanceMethod yX7_clearText ∈ wsL_law := wm (wt_3 (List.mem_of_getElem? (i := 176) (by decide +kernel))) rfl
theorem wm_707 : Cond.selects RX7 yX7_clearText yX7_clearText ∈ wsL_law := wm (wt_3 (List.mem_of_getElem? (i := 177) (by decide +kernel))) rfl
theorem wm_708 : Cond.code yX7_clearText cX7_clearText 1 (some .int) ∈ wsL_law := wm (wt_3 (List.mem_of_getElem? (i := 178) (by decide +kernel))) rfl
theorem wm_709 : Cond.methodLink RX7 157 yX3_empty ∈ wsL_law := wm (wt_3 (List.mem_of_getElem? (i := 179) (by decide +kernel))) rfl
theorem wm_710 : Cond.instanceMethod yX3_empty ∈ wsL_law := wm (wt_3 (List.mem_of_getElem? (i := 180) (by decide +kernel))) rfl
theorem wm_711 : Cond.selects RX3 yX3_empty yX3_empty ∈ wsL_law := wm (wt_3 (List.mem_of_getElem? (i := 181) (by decide +kernel))) rfl
theorem wm_712 : Cond.code yX3_empty cX3_empty 2 (some .int) ∈ wsL_law := wm (wt_3 (List.mem_of_getElem? (i := 182) (by decide +kernel))) rfl
theorem wm_713 : Cond.methodLink RL 92 yX8_clearText ∈ wsL_law := wm (wt_5 (List.mem_of_getElem? (i := 11) (by decide +kernel))) rfl
theorem wm_714 : Cond.instanceMethod yX8_clearText ∈ wsL_law := wm (wt_5 (List.mem_of_getElem? (i := 12) (by decide +kernel))) rfl
theorem wm_715 : Cond.selects RX8 yX8_clearText yX8_clearText ∈ wsL_law := wm (wt_5 (List.mem_of_getElem? (i := 13) (by decide +kernel))) rfl
theorem wm_716 : Cond.code yX8_clearText cX8_clearText 2 (some .int) ∈ wsL_law := wm (wt_5 (List.mem_of_getElem? (i := 14) (by decide +kernel))) rfl
theorem wm_717 : Cond.methodLink RL 93 yX7_fault ∈ wsL_law := wm (wt_3 (List.mem_of_getElem? (i := 183) (by decide +kernel))) rfl
theorem wm_718 : Cond.instanceMethod yX7_fault ∈ wsL_law := wm (wt_3 (List.mem_of_getElem? (i := 184) (by decide +kernel))) rfl
theorem wm_719 : Cond.selects RX7 yX7_fault yX7_fault ∈ wsL_law := wm (wt_3 (List.mem_of_getElem? (i := 185) (by decide +kernel))) rfl
theorem wm_720 : Cond.code yX7_fault cX7_fault 2 (some .int) ∈ wsL_law := wm (wt_3 (List.mem_of_getElem? (i := 186) (by decide +kernel))) rfl
theorem wm_721 : Cond.fieldLink RX7 163 "SealedGroups" "faultReason" "I" ∈ wsL_law := wm (wt_2 (List.mem_of_getElem? (i := 18) (by decide +kernel))) rfl
theorem wm_722 : Cond.constant RX7 166 (-1000004) ∈ wsL_law := wm (wt_3 (List.mem_of_getElem? (i := 226) (by decide +kernel))) rfl
theorem wm_723 : Cond.fieldLink RX7 167 "SealedGroups" "faultPosition" "I" ∈ wsL_law := wm (wt_2 (List.mem_of_getElem? (i := 17) (by decide +kernel))) rfl
theorem wm_724 : Cond.methodLink RX7 160 yX7_tryText ∈ wsL_law := wm (wt_3 (List.mem_of_getElem? (i := 187) (by decide +kernel))) rfl
theorem wm_725 : Cond.instanceMethod yX7_tryText ∈ wsL_law := wm (wt_3 (List.mem_of_getElem? (i := 189) (by decide +kernel))) rfl
theorem wm_726 : Cond.selects RX7 yX7_tryText yX7_tryText ∈ wsL_law := wm (wp_1 (List.mem_of_getElem? (i := 10) (by decide +kernel))) rfl
theorem wm_727 : Cond.code yX7_tryText cX7_tryText 2 none ∈ wsL_law := wm (wt_3 (List.mem_of_getElem? (i := 190) (by decide +kernel))) rfl
theorem wm_728 : Cond.fieldLink RX7 173 "SealedGroups" "ordersDone" "I" ∈ wsL_law := wm (wt_2 (List.mem_of_getElem? (i := 19) (by decide +kernel))) rfl
theorem wm_729 : Cond.methodLink RX7 179 yX3_readOrder ∈ wsL_law := wm (wt_3 (List.mem_of_getElem? (i := 191) (by decide +kernel))) rfl
theorem wm_730 : Cond.instanceMethod yX3_readOrder ∈ wsL_law := wm (wt_3 (List.mem_of_getElem? (i := 192) (by decide +kernel))) rfl
theorem wm_731 : Cond.selects RX3 yX3_readOrder yX3_readOrder ∈ wsL_law := wm (wt_3 (List.mem_of_getElem? (i := 193) (by decide +kernel))) rfl
theorem wm_732 : Cond.code yX3_readOrder cX3_readOrder 2 (some .boolean) ∈ wsL_law := wm (wt_3 (List.mem_of_getElem? (i := 194) (by decide +kernel))) rfl
theorem wm_733 : Cond.fieldLink RX3 20 "SealedGroups$OrderText" "next" "I" ∈ wsL_law := wm (wt_1 (List.mem_of_getElem? (i := 222) (by decide +kernel))) rfl
theorem wm_734 : Cond.fieldLink RX3 34 "SealedGroups$OrderText" "brokenAt" "I" ∈ wsL_law := wm (wt_1 (List.mem_of_getElem? (i := 232) (by decide +kernel))) rfl
theorem wm_735 : Cond.methodLink RX3 23 yX3_readLetter ∈ wsL_law := wm (wt_3 (List.mem_of_getElem? (i := 195) (by decide +kernel))) rfl
theorem wm_736 : Cond.instanceMethod yX3_readLetter ∈ wsL_law := wm (wt_3 (List.mem_of_getElem? (i := 197) (by decide +kernel))) rfl
theorem wm_737 : Cond.selects RX3 yX3_readLetter yX3_readLetter ∈ wsL_law := wm (wp_1 (List.mem_of_getElem? (i := 11) (by decide +kernel))) rfl
theorem wm_738 : Cond.code yX3_readLetter cX3_readLetter 1 (some .boolean) ∈ wsL_law := wm (wt_3 (List.mem_of_getElem? (i := 198) (by decide +kernel))) rfl
theorem wm_739 : Cond.fieldLink RX3 41 "SealedGroups$OrderText" "letter" "I" ∈ wsL_law := wm (wt_1 (List.mem_of_getElem? (i := 224) (by decide +kernel))) rfl
theorem wm_740 : Cond.methodLink RX3 37 yX3_sign ∈ wsL_law := wm (wt_3 (List.mem_of_getElem? (i := 199) (by decide +kernel))) rfl
theorem wm_741 : Cond.instanceMethod yX3_sign ∈ wsL_law := wm (wt_3 (List.mem_of_getElem? (i := 201) (by decide +kernel))) rfl
theorem wm_742 : Cond.selects RX3 yX3_sign yX3_sign ∈ wsL_law := wm (wp_1 (List.mem_of_getElem? (i := 12) (by decide +kernel))) rfl
theorem wm_743 : Cond.code yX3_sign cX3_sign 1 (some .int) ∈ wsL_law := wm (wt_3 (List.mem_of_getElem? (i := 202) (by decide +kernel))) rfl
theorem wm_744 : Cond.methodLink RX3 27 yX3_readArguments ∈ wsL_law := wm (wt_3 (List.mem_of_getElem? (i := 203) (by decide +kernel))) rfl
theorem wm_745 : Cond.instanceMethod yX3_readArguments ∈ wsL_law := wm (wt_3 (List.mem_of_getElem? (i := 205) (by decide +kernel))) rfl
theorem wm_746 : Cond.selects RX3 yX3_readArguments yX3_readArguments ∈ wsL_law := wm (wp_1 (List.mem_of_getElem? (i := 13) (by decide +kernel))) rfl
theorem wm_747 : Cond.code yX3_readArguments cX3_readArguments 1 (some .boolean) ∈ wsL_law := wm (wt_3 (List.mem_of_getElem? (i := 206) (by decide +kernel))) rfl
theorem wm_748 : Cond.fieldLink RX3 47 "SealedGroups$OrderText" "number" "I" ∈ wsL_law := wm (wt_1 (List.mem_of_getElem? (i := 226) (by decide +kernel))) rfl
theorem wm_749 : Cond.fieldLink RX3 50 "SealedGroups$OrderText" "page" "I" ∈ wsL_law := wm (wt_1 (List.mem_of_getElem? (i := 228) (by decide +kernel))) rfl
theorem wm_750 : Cond.methodLink RX3 44 yX3_readDigit ∈ wsL_law := wm (wt_3 (List.mem_of_getElem? (i := 207) (by decide +kernel))) rfl
theorem wm_751 : Cond.instanceMethod yX3_readDigit ∈ wsL_law := wm (wt_3 (List.mem_of_getElem? (i := 209) (by decide +kernel))) rfl
theorem wm_752 : Cond.selects RX3 yX3_readDigit yX3_readDigit ∈ wsL_law := wm (wp_1 (List.mem_of_getElem? (i := 14) (by decide +kernel))) rfl
theorem wm_753 : Cond.code yX3_readDigit cX3_readDigit 2 (some .int) ∈ wsL_law := wm (wt_3 (List.mem_of_getElem? (i := 210) (by decide +kernel))) rfl
theorem wm_754 : Cond.methodLink RX3 30 yX3_readSign ∈ wsL_law := wm (wt_3 (List.mem_of_getElem? (i := 211) (by decide +kernel))) rfl
theorem wm_755 : Cond.instanceMethod yX3_readSign ∈ wsL_law := wm (wt_3 (List.mem_of_getElem? (i := 213) (by decide +kernel))) rfl
theorem wm_756 : Cond.selects RX3 yX3_readSign yX3_readSign ∈ wsL_law := wm (wp_1 (List.mem_of_getElem? (i := 15) (by decide +kernel))) rfl
theorem wm_757 : Cond.code yX3_readSign cX3_readSign 2 (some .boolean) ∈ wsL_law := wm (wt_3 (List.mem_of_getElem? (i := 214) (by decide +kernel))) rfl
theorem wm_758 : Cond.methodLink RX3 53 yX3_readValue ∈ wsL_law := wm (wt_3 (List.mem_of_getElem? (i := 215) (by decide +kernel))) rfl
theorem wm_759 : Cond.instanceMethod yX3_readValue ∈ wsL_law := wm (wt_3 (List.mem_of_getElem? (i := 217) (by decide +kernel))) rfl
theorem wm_760 : Cond.selects RX3 yX3_readValue yX3_readValue ∈ wsL_law := wm (wp_2 (List.mem_of_getElem? (i := 0) (by decide +kernel))) rfl
theorem wm_761 : Cond.code yX3_readValue cX3_readValue 2 (some .boolean) ∈ wsL_law := wm (wt_3 (List.mem_of_getElem? (i := 218) (by decide +kernel))) rfl
theorem wm_762 : Cond.fieldLink RX3 56 "SealedGroups$OrderText" "value" "I" ∈ wsL_law := wm (wt_1 (List.mem_of_getElem? (i := 230) (by decide +kernel))) rfl
theorem wm_763 : Cond.methodLink RX7 183 yX7_doOrder ∈ wsL_law := wm (wt_3 (List.mem_of_getElem? (i := 219) (by decide +kernel))) rfl
theorem wm_764 : Cond.instanceMethod yX7_doOrder ∈ wsL_law := wm (wt_3 (List.mem_of_getElem? (i := 221) (by decide +kernel))) rfl
theorem wm_765 : Cond.selects RX7 yX7_doOrder yX7_doOrder ∈ wsL_law := wm (wp_2 (List.mem_of_getElem? (i := 1) (by decide +kernel))) rfl
theorem wm_766 : Cond.code yX7_doOrder cX7_doOrder 1 (some .int) ∈ wsL_law := wm (wt_3 (List.mem_of_getElem? (i := 222) (by decide +kernel))) rfl
theorem wm_767 : Cond.methodLink RX7 186 yX7_reasonOf ∈ wsL_law := wm (wt_3 (List.mem_of_getElem? (i := 223) (by decide +kernel))) rfl
theorem wm_768 : Cond.static yX7_reasonOf ∈ wsL_law := wm (wt_3 (List.mem_of_getElem? (i := 224) (by decide +kernel))) rfl
theorem wm_769 : Cond.code yX7_reasonOf cX7_reasonOf 1 (some .int) ∈ wsL_law := wm (wt_3 (List.mem_of_getElem? (i := 225) (by decide +kernel))) rfl
theorem wm_770 : Cond.methodLink RL 96 yX8_fault ∈ wsL_law := wm (wt_5 (List.mem_of_getElem? (i := 15) (by decide +kernel))) rfl
theorem wm_771 : Cond.instanceMethod yX8_fault ∈ wsL_law := wm (wt_5 (List.mem_of_getElem? (i := 16) (by decide +kernel))) rfl
theorem wm_772 : Cond.selects RX8 yX8_fault yX8_fault ∈ wsL_law := wm (wt_5 (List.mem_of_getElem? (i := 17) (by decide +kernel))) rfl
theorem wm_773 : Cond.code yX8_fault cX8_fault 3 (some .int) ∈ wsL_law := wm (wt_5 (List.mem_of_getElem? (i := 18) (by decide +kernel))) rfl
theorem wm_774 : Cond.fieldLink RX8 196 "SealedGroupsModel" "reason" "I" ∈ wsL_law := wm (wt_4 (List.mem_of_getElem? (i := 9) (by decide +kernel))) rfl
theorem wm_775 : Cond.fieldLink RX8 205 "SealedGroupsModel" "cause" "I" ∈ wsL_law := wm (wt_4 (List.mem_of_getElem? (i := 10) (by decide +kernel))) rfl
theorem wm_776 : Cond.methodLink RX8 211 yX8_plays ∈ wsL_law := wm (wt_5 (List.mem_of_getElem? (i := 19) (by decide +kernel))) rfl
theorem wm_777 : Cond.instanceMethod yX8_plays ∈ wsL_law := wm (wt_5 (List.mem_of_getElem? (i := 21) (by decide +kernel))) rfl
theorem wm_778 : Cond.selects RX8 yX8_plays yX8_plays ∈ wsL_law := wm (wp_4 (List.mem_of_getElem? (i := 0) (by decide +kernel))) rfl
theorem wm_779 : Cond.code yX8_plays cX8_plays 5 (some .int) ∈ wsL_law := wm (wt_5 (List.mem_of_getElem? (i := 22) (by decide +kernel))) rfl
theorem wm_780 : Cond.fieldLink RX8 161 "SealedGroupsModel" "spot" "I" ∈ wsL_law := wm (wt_4 (List.mem_of_getElem? (i := 8) (by decide +kernel))) rfl
theorem wm_781 : Cond.fieldLink RX8 199 "SealedGroupsModel" "orders" "I" ∈ wsL_law := wm (wt_4 (List.mem_of_getElem? (i := 11) (by decide +kernel))) rfl
theorem wm_782 : Cond.methodLink RX8 202 yX8_isForm ∈ wsL_law := wm (wt_5 (List.mem_of_getElem? (i := 23) (by decide +kernel))) rfl
theorem wm_783 : Cond.instanceMethod yX8_isForm ∈ wsL_law := wm (wt_5 (List.mem_of_getElem? (i := 25) (by decide +kernel))) rfl
theorem wm_784 : Cond.selects RX8 yX8_isForm yX8_isForm ∈ wsL_law := wm (wp_4 (List.mem_of_getElem? (i := 1) (by decide +kernel))) rfl
theorem wm_785 : Cond.code yX8_isForm cX8_isForm 2 (some .boolean) ∈ wsL_law := wm (wt_5 (List.mem_of_getElem? (i := 26) (by decide +kernel))) rfl
theorem wm_786 : Cond.methodLink RX8 164 yX8_passes ∈ wsL_law := wm (wt_5 (List.mem_of_getElem? (i := 27) (by decide +kernel))) rfl
theorem wm_787 : Cond.instanceMethod yX8_passes ∈ wsL_law := wm (wt_5 (List.mem_of_getElem? (i := 29) (by decide +kernel))) rfl
theorem wm_788 : Cond.selects RX8 yX8_passes yX8_passes ∈ wsL_law := wm (wp_4 (List.mem_of_getElem? (i := 2) (by decide +kernel))) rfl
theorem wm_789 : Cond.code yX8_passes cX8_passes 3 (some .boolean) ∈ wsL_law := wm (wt_5 (List.mem_of_getElem? (i := 30) (by decide +kernel))) rfl
theorem wm_790 : Cond.methodLink RX8 167 yX8_number ∈ wsL_law := wm (wt_5 (List.mem_of_getElem? (i := 31) (by decide +kernel))) rfl
theorem wm_791 : Cond.instanceMethod yX8_number ∈ wsL_law := wm (wt_5 (List.mem_of_getElem? (i := 33) (by decide +kernel))) rfl
theorem wm_792 : Cond.selects RX8 yX8_number yX8_number ∈ wsL_law := wm (wp_4 (List.mem_of_getElem? (i := 3) (by decide +kernel))) rfl
theorem wm_793 : Cond.code yX8_number cX8_number 4 (some .boolean) ∈ wsL_law := wm (wt_5 (List.mem_of_getElem? (i := 34) (by decide +kernel))) rfl
theorem wm_794 : Cond.methodLink RX8 208 yX8_calls ∈ wsL_law := wm (wt_5 (List.mem_of_getElem? (i := 35) (by decide +kernel))) rfl
theorem wm_795 : Cond.instanceMethod yX8_calls ∈ wsL_law := wm (wt_5 (List.mem_of_getElem? (i := 37) (by decide +kernel))) rfl
theorem wm_796 : Cond.selects RX8 yX8_calls yX8_calls ∈ wsL_law := wm (wp_4 (List.mem_of_getElem? (i := 4) (by decide +kernel))) rfl
theorem wm_797 : Cond.code yX8_calls cX8_calls 2 (some .int) ∈ wsL_law := wm (wt_5 (List.mem_of_getElem? (i := 38) (by decide +kernel))) rfl
theorem wm_798 : Cond.methodLink RX8 171 yX8_begin ∈ wsL_law := wm (wt_5 (List.mem_of_getElem? (i := 39) (by decide +kernel))) rfl
theorem wm_799 : Cond.methodLink RX8 174 yX8_write ∈ wsL_law := wm (wt_5 (List.mem_of_getElem? (i := 40) (by decide +kernel))) rfl
theorem wm_800 : Cond.methodLink RX8 178 yX8_settle ∈ wsL_law := wm (wt_5 (List.mem_of_getElem? (i := 41) (by decide +kernel))) rfl
theorem wm_801 : Cond.methodLink RX8 181 yX8_takeBack ∈ wsL_law := wm (wt_5 (List.mem_of_getElem? (i := 42) (by decide +kernel))) rfl
theorem wm_802 : Cond.methodLink RX8 184 yX8_writeOut ∈ wsL_law := wm (wt_5 (List.mem_of_getElem? (i := 43) (by decide +kernel))) rfl
theorem wm_803 : Cond.methodLink RX8 187 yX8_checkpoint ∈ wsL_law := wm (wt_5 (List.mem_of_getElem? (i := 44) (by decide +kernel))) rfl
theorem wm_804 : Cond.methodLink RX8 190 yX8_stop ∈ wsL_law := wm (wt_5 (List.mem_of_getElem? (i := 45) (by decide +kernel))) rfl
theorem wm_805 : Cond.methodLink RX8 193 yX8_restart ∈ wsL_law := wm (wt_5 (List.mem_of_getElem? (i := 46) (by decide +kernel))) rfl
theorem wm_806 : Cond.methodLink RL 97 yX7_play ∈ wsL_law := wm (wt_3 (List.mem_of_getElem? (i := 227) (by decide +kernel))) rfl
theorem wm_807 : Cond.instanceMethod yX7_play ∈ wsL_law := wm (wt_3 (List.mem_of_getElem? (i := 228) (by decide +kernel))) rfl
theorem wm_808 : Cond.selects RX7 yX7_play yX7_play ∈ wsL_law := wm (wt_3 (List.mem_of_getElem? (i := 229) (by decide +kernel))) rfl
theorem wm_809 : Cond.code yX7_play cX7_play 1 (some .int) ∈ wsL_law := wm (wt_3 (List.mem_of_getElem? (i := 230) (by decide +kernel))) rfl
theorem wm_810 : Cond.methodLink RL 100 yX8_play ∈ wsL_law := wm (wt_5 (List.mem_of_getElem? (i := 47) (by decide +kernel))) rfl
theorem wm_811 : Cond.instanceMethod yX8_play ∈ wsL_law := wm (wt_5 (List.mem_of_getElem? (i := 48) (by decide +kernel))) rfl
theorem wm_812 : Cond.selects RX8 yX8_play yX8_play ∈ wsL_law := wm (wt_5 (List.mem_of_getElem? (i := 49) (by decide +kernel))) rfl
theorem wm_813 : Cond.code yX8_play cX8_play 2 (some .int) ∈ wsL_law := wm (wt_5 (List.mem_of_getElem? (i := 50) (by decide +kernel))) rfl
end
section
theorem dX0_init_0 : decode cX0_init 0 = .ok (.aload_n 0, 1) := by decide +kernel
theorem dX0_init_1 : decode cX0_init 1 = .ok (.invokespecial 3, 3) := by decide +kernel
theorem dX0_init_4 : decode cX0_init 4 = .ok (.aload_n 0, 1) := by decide +kernel
theorem dX0_init_5 : decode cX0_init 5 = .ok (.iconst 4, 1) := by decide +kernel
theorem dX0_init_6 : decode cX0_init 6 = .ok (.newarray .int, 2) := by decide +kernel
theorem dX0_init_8 : decode cX0_init 8 = .ok (.putfield 9, 3) := by decide +kernel
theorem dX0_init_11 : decode cX0_init 11 = .ok (.aload_n 0, 1) := by decide +kernel
theorem dX0_init_12 : decode cX0_init 12 = .ok (.iconst 4, 1) := by decide +kernel
theorem dX0_init_13 : decode cX0_init 13 = .ok (.newarray .int, 2) := by decide +kernel
theorem dX0_init_15 : decode cX0_init 15 = .ok (.putfield 15, 3) := by decide +kernel
theorem dX0_init_18 : decode cX0_init 18 = .ok (.aload_n 0, 1) := by decide +kernel
theorem dX0_init_19 : decode cX0_init 19 = .ok (.iconst 4, 1) := by decide +kernel
theorem dX0_init_20 : decode cX0_init 20 = .ok (.newarray .int, 2) := by decide +kernel
theorem dX0_init_22 : decode cX0_init 22 = .ok (.putfield 18, 3) := by decide +kernel
theorem dX0_init_25 : decode cX0_init 25 = .ok (.return_, 1) := by decide +kernel
theorem dX0_copyFrom_0 : decode cX0_copyFrom 0 = .ok (.aload_n 1, 1) := by decide +kernel
theorem dX0_copyFrom_1 : decode cX0_copyFrom 1 = .ok (.getfield 9, 3) := by decide +kernel
theorem dX0_copyFrom_4 : decode cX0_copyFrom 4 = .ok (.iconst 0, 1) := by decide +kernel
theorem dX0_copyFrom_5 : decode cX0_copyFrom 5 = .ok (.aload_n 0, 1) := by decide +kernel
theorem dX0_copyFrom_6 : decode cX0_copyFrom 6 = .ok (.getfield 9, 3) := by decide +kernel
theorem dX0_copyFrom_9 : decode cX0_copyFrom 9 = .ok (.iconst 0, 1) := by decide +kernel
theorem dX0_copyFrom_10 : decode cX0_copyFrom 10 = .ok (.iconst 4, 1) := by decide +kernel
theorem dX0_copyFrom_11 : decode cX0_copyFrom 11 = .ok (.invokestatic 21, 3) := by decide +kernel
theorem dX0_copyFrom_14 : decode cX0_copyFrom 14 = .ok (.aload_n 1, 1) := by decide +kernel
theorem dX0_copyFrom_15 : decode cX0_copyFrom 15 = .ok (.getfield 15, 3) := by decide +kernel
theorem dX0_copyFrom_18 : decode cX0_copyFrom 18 = .ok (.iconst 0, 1) := by decide +kernel
theorem dX0_copyFrom_19 : decode cX0_copyFrom 19 = .ok (.aload_n 0, 1) := by decide +kernel
theorem dX0_copyFrom_20 : decode cX0_copyFrom 20 = .ok (.getfield 15, 3) := by decide +kernel
theorem dX0_copyFrom_23 : decode cX0_copyFrom 23 = .ok (.iconst 0, 1) := by decide +kernel
theorem dX0_copyFrom_24 : decode cX0_copyFrom 24 = .ok (.iconst 4, 1) := by decide +kernel
theorem dX0_copyFrom_25 : decode cX0_copyFrom 25 = .ok (.invokestatic 21, 3) := by decide +kernel
theorem dX0_copyFrom_28 : decode cX0_copyFrom 28 = .ok (.aload_n 1, 1) := by decide +kernel
theorem dX0_copyFrom_29 : decode cX0_copyFrom 29 = .ok (.getfield 18, 3) := by decide +kernel
theorem dX0_copyFrom_32 : decode cX0_copyFrom 32 = .ok (.iconst 0, 1) := by decide +kernel
theorem dX0_copyFrom_33 : decode cX0_copyFrom 33 = .ok (.aload_n 0, 1) := by decide +kernel
theorem dX0_copyFrom_34 : decode cX0_copyFrom 34 = .ok (.getfield 18, 3) := by decide +kernel
theorem dX0_copyFrom_37 : decode cX0_copyFrom 37 = .ok (.iconst 0, 1) := by decide +kernel
theorem dX0_copyFrom_38 : decode cX0_copyFrom 38 = .ok (.iconst 4, 1) := by decide +kernel
theorem dX0_copyFrom_39 : decode cX0_copyFrom 39 = .ok (.invokestatic 21, 3) := by decide +kernel
theorem dX0_copyFrom_42 : decode cX0_copyFrom 42 = .ok (.aload_n 0, 1) := by decide +kernel
theorem dX0_copyFrom_43 : decode cX0_copyFrom 43 = .ok (.aload_n 1, 1) := by decide +kernel
theorem dX0_copyFrom_44 : decode cX0_copyFrom 44 = .ok (.getfield 27, 3) := by decide +kernel
theorem dX0_copyFrom_47 : decode cX0_copyFrom 47 = .ok (.putfield 27, 3) := by decide +kernel
theorem dX0_copyFrom_50 : decode cX0_copyFrom 50 = .ok (.return_, 1) := by decide +kernel
theorem dX0_isOpen_0 : decode cX0_isOpen 0 = .ok (.iload_n 1, 1) := by decide +kernel
theorem dX0_isOpen_1 : decode cX0_isOpen 1 = .ok (.ifCond .lt 24, 3) := by decide +kernel
theorem dX0_isOpen_4 : decode cX0_isOpen 4 = .ok (.iload_n 1, 1) := by decide +kernel
theorem dX0_isOpen_5 : decode cX0_isOpen 5 = .ok (.iconst 4, 1) := by decide +kernel
theorem dX0_isOpen_6 : decode cX0_isOpen 6 = .ok (.if_icmp .ge 19, 3) := by decide +kernel
theorem dX0_isOpen_9 : decode cX0_isOpen 9 = .ok (.aload_n 0, 1) := by decide +kernel
theorem dX0_isOpen_10 : decode cX0_isOpen 10 = .ok (.getfield 27, 3) := by decide +kernel
theorem dX0_isOpen_13 : decode cX0_isOpen 13 = .ok (.iload_n 1, 1) := by decide +kernel
theorem dX0_isOpen_14 : decode cX0_isOpen 14 = .ok (.ishr, 1) := by decide +kernel
theorem dX0_isOpen_15 : decode cX0_isOpen 15 = .ok (.iconst 1, 1) := by decide +kernel
theorem dX0_isOpen_16 : decode cX0_isOpen 16 = .ok (.iand, 1) := by decide +kernel
theorem dX0_isOpen_17 : decode cX0_isOpen 17 = .ok (.iconst 1, 1) := by decide +kernel
theorem dX0_isOpen_18 : decode cX0_isOpen 18 = .ok (.if_icmp .ne 7, 3) := by decide +kernel
theorem dX0_isOpen_21 : decode cX0_isOpen 21 = .ok (.iconst 1, 1) := by decide +kernel
theorem dX0_isOpen_22 : decode cX0_isOpen 22 = .ok (.goto 4, 3) := by decide +kernel
theorem dX0_isOpen_25 : decode cX0_isOpen 25 = .ok (.iconst 0, 1) := by decide +kernel
theorem dX0_isOpen_26 : decode cX0_isOpen 26 = .ok (.ireturn, 1) := by decide +kernel
theorem dX0_enter_0 : decode cX0_enter 0 = .ok (.iload_n 1, 1) := by decide +kernel
theorem dX0_enter_1 : decode cX0_enter 1 = .ok (.ifCond .lt 8, 3) := by decide +kernel
theorem dX0_enter_4 : decode cX0_enter 4 = .ok (.iload_n 1, 1) := by decide +kernel
theorem dX0_enter_5 : decode cX0_enter 5 = .ok (.iconst 4, 1) := by decide +kernel
theorem dX0_enter_6 : decode cX0_enter 6 = .ok (.if_icmp .lt 4, 3) := by decide +kernel
theorem dX0_enter_9 : decode cX0_enter 9 = .ok (.return_, 1) := by decide +kernel
theorem dX0_enter_10 : decode cX0_enter 10 = .ok (.aload_n 0, 1) := by decide +kernel
theorem dX0_enter_11 : decode cX0_enter 11 = .ok (.getfield 9, 3) := by decide +kernel
theorem dX0_enter_14 : decode cX0_enter 14 = .ok (.iload_n 1, 1) := by decide +kernel
theorem dX0_enter_15 : decode cX0_enter 15 = .ok (.iload_n 2, 1) := by decide +kernel
theorem dX0_enter_16 : decode cX0_enter 16 = .ok (.iastore, 1) := by decide +kernel
theorem dX0_enter_17 : decode cX0_enter 17 = .ok (.aload_n 0, 1) := by decide +kernel
theorem dX0_enter_18 : decode cX0_enter 18 = .ok (.getfield 15, 3) := by decide +kernel
theorem dX0_enter_21 : decode cX0_enter 21 = .ok (.iload_n 1, 1) := by decide +kernel
theorem dX0_enter_22 : decode cX0_enter 22 = .ok (.iconst 0, 1) := by decide +kernel
theorem dX0_enter_23 : decode cX0_enter 23 = .ok (.iastore, 1) := by decide +kernel
theorem dX0_enter_24 : decode cX0_enter 24 = .ok (.aload_n 0, 1) := by decide +kernel
theorem dX0_enter_25 : decode cX0_enter 25 = .ok (.getfield 18, 3) := by decide +kernel
theorem dX0_enter_28 : decode cX0_enter 28 = .ok (.iload_n 1, 1) := by decide +kernel
theorem dX0_enter_29 : decode cX0_enter 29 = .ok (.iconst 0, 1) := by decide +kernel
theorem dX0_enter_30 : decode cX0_enter 30 = .ok (.iastore, 1) := by decide +kernel
theorem dX0_enter_31 : decode cX0_enter 31 = .ok (.aload_n 0, 1) := by decide +kernel
theorem dX0_enter_32 : decode cX0_enter 32 = .ok (.dup, 1) := by decide +kernel
theorem dX0_enter_33 : decode cX0_enter 33 = .ok (.getfield 27, 3) := by decide +kernel
theorem dX0_enter_36 : decode cX0_enter 36 = .ok (.iconst 1, 1) := by decide +kernel
theorem dX0_enter_37 : decode cX0_enter 37 = .ok (.iload_n 1, 1) := by decide +kernel
theorem dX0_enter_38 : decode cX0_enter 38 = .ok (.ishl, 1) := by decide +kernel
theorem dX0_enter_39 : decode cX0_enter 39 = .ok (.ior, 1) := by decide +kernel
theorem dX0_enter_40 : decode cX0_enter 40 = .ok (.putfield 27, 3) := by decide +kernel
theorem dX0_enter_43 : decode cX0_enter 43 = .ok (.return_, 1) := by decide +kernel
theorem dX0_hold_0 : decode cX0_hold 0 = .ok (.iload_n 1, 1) := by decide +kernel
theorem dX0_hold_1 : decode cX0_hold 1 = .ok (.ifCond .lt 8, 3) := by decide +kernel
theorem dX0_hold_4 : decode cX0_hold 4 = .ok (.iload_n 1, 1) := by decide +kernel
theorem dX0_hold_5 : decode cX0_hold 5 = .ok (.iconst 4, 1) := by decide +kernel
theorem dX0_hold_6 : decode cX0_hold 6 = .ok (.if_icmp .lt 4, 3) := by decide +kernel
theorem dX0_hold_9 : decode cX0_hold 9 = .ok (.return_, 1) := by decide +kernel
theorem dX0_hold_10 : decode cX0_hold 10 = .ok (.aload_n 0, 1) := by decide +kernel
theorem dX0_hold_11 : decode cX0_hold 11 = .ok (.getfield 15, 3) := by decide +kernel
theorem dX0_hold_14 : decode cX0_hold 14 = .ok (.iload_n 1, 1) := by decide +kernel
theorem dX0_hold_15 : decode cX0_hold 15 = .ok (.dup2, 1) := by decide +kernel
theorem dX0_hold_16 : decode cX0_hold 16 = .ok (.iaload, 1) := by decide +kernel
theorem dX0_hold_17 : decode cX0_hold 17 = .ok (.iconst 1, 1) := by decide +kernel
theorem dX0_hold_18 : decode cX0_hold 18 = .ok (.iadd, 1) := by decide +kernel
theorem dX0_hold_19 : decode cX0_hold 19 = .ok (.iastore, 1) := by decide +kernel
theorem dX0_hold_20 : decode cX0_hold 20 = .ok (.aload_n 0, 1) := by decide +kernel
theorem dX0_hold_21 : decode cX0_hold 21 = .ok (.getfield 18, 3) := by decide +kernel
theorem dX0_hold_24 : decode cX0_hold 24 = .ok (.iload_n 1, 1) := by decide +kernel
theorem dX0_hold_25 : decode cX0_hold 25 = .ok (.dup2, 1) := by decide +kernel
theorem dX0_hold_26 : decode cX0_hold 26 = .ok (.iaload, 1) := by decide +kernel
theorem dX0_hold_27 : decode cX0_hold 27 = .ok (.iconst 1, 1) := by decide +kernel
theorem dX0_hold_28 : decode cX0_hold 28 = .ok (.iload_n 2, 1) := by decide +kernel
theorem dX0_hold_29 : decode cX0_hold 29 = .ok (.ishl, 1) := by decide +kernel
theorem dX0_hold_30 : decode cX0_hold 30 = .ok (.ior, 1) := by decide +kernel
theorem dX0_hold_31 : decode cX0_hold 31 = .ok (.iastore, 1) := by decide +kernel
theorem dX0_hold_32 : decode cX0_hold 32 = .ok (.return_, 1) := by decide +kernel
theorem dX0_leave_0 : decode cX0_leave 0 = .ok (.iload_n 1, 1) := by decide +kernel
theorem dX0_leave_1 : decode cX0_leave 1 = .ok (.ifCond .lt 22, 3) := by decide +kernel
theorem dX0_leave_4 : decode cX0_leave 4 = .ok (.iload_n 1, 1) := by decide +kernel
theorem dX0_leave_5 : decode cX0_leave 5 = .ok (.iconst 4, 1) := by decide +kernel
theorem dX0_leave_6 : decode cX0_leave 6 = .ok (.if_icmp .ge 17, 3) := by decide +kernel
theorem dX0_leave_9 : decode cX0_leave 9 = .ok (.aload_n 0, 1) := by decide +kernel
theorem dX0_leave_10 : decode cX0_leave 10 = .ok (.dup, 1) := by decide +kernel
theorem dX0_leave_11 : decode cX0_leave 11 = .ok (.getfield 27, 3) := by decide +kernel
theorem dX0_leave_14 : decode cX0_leave 14 = .ok (.iconst 1, 1) := by decide +kernel
theorem dX0_leave_15 : decode cX0_leave 15 = .ok (.iload_n 1, 1) := by decide +kernel
theorem dX0_leave_16 : decode cX0_leave 16 = .ok (.ishl, 1) := by decide +kernel
theorem dX0_leave_17 : decode cX0_leave 17 = .ok (.iconst (-1), 1) := by decide +kernel
theorem dX0_leave_18 : decode cX0_leave 18 = .ok (.ixor, 1) := by decide +kernel
theorem dX0_leave_19 : decode cX0_leave 19 = .ok (.iand, 1) := by decide +kernel
theorem dX0_leave_20 : decode cX0_leave 20 = .ok (.putfield 27, 3) := by decide +kernel
theorem dX0_leave_23 : decode cX0_leave 23 = .ok (.return_, 1) := by decide +kernel
theorem dX0_holderOf_0 : decode cX0_holderOf 0 = .ok (.iconst 0, 1) := by decide +kernel
theorem dX0_holderOf_1 : decode cX0_holderOf 1 = .ok (.istore_n 2, 1) := by decide +kernel
theorem dX0_holderOf_2 : decode cX0_holderOf 2 = .ok (.iload_n 2, 1) := by decide +kernel
theorem dX0_holderOf_3 : decode cX0_holderOf 3 = .ok (.iconst 4, 1) := by decide +kernel
theorem dX0_holderOf_4 : decode cX0_holderOf 4 = .ok (.if_icmp .ge 37, 3) := by decide +kernel
theorem dX0_holderOf_7 : decode cX0_holderOf 7 = .ok (.aload_n 0, 1) := by decide +kernel
theorem dX0_holderOf_8 : decode cX0_holderOf 8 = .ok (.getfield 27, 3) := by decide +kernel
theorem dX0_holderOf_11 : decode cX0_holderOf 11 = .ok (.iload_n 2, 1) := by decide +kernel
theorem dX0_holderOf_12 : decode cX0_holderOf 12 = .ok (.ishr, 1) := by decide +kernel
theorem dX0_holderOf_13 : decode cX0_holderOf 13 = .ok (.iconst 1, 1) := by decide +kernel
theorem dX0_holderOf_14 : decode cX0_holderOf 14 = .ok (.iand, 1) := by decide +kernel
theorem dX0_holderOf_15 : decode cX0_holderOf 15 = .ok (.iconst 1, 1) := by decide +kernel
theorem dX0_holderOf_16 : decode cX0_holderOf 16 = .ok (.if_icmp .ne 19, 3) := by decide +kernel
theorem dX0_holderOf_19 : decode cX0_holderOf 19 = .ok (.aload_n 0, 1) := by decide +kernel
theorem dX0_holderOf_20 : decode cX0_holderOf 20 = .ok (.getfield 18, 3) := by decide +kernel
theorem dX0_holderOf_23 : decode cX0_holderOf 23 = .ok (.iload_n 2, 1) := by decide +kernel
theorem dX0_holderOf_24 : decode cX0_holderOf 24 = .ok (.iaload, 1) := by decide +kernel
theorem dX0_holderOf_25 : decode cX0_holderOf 25 = .ok (.iload_n 1, 1) := by decide +kernel
theorem dX0_holderOf_26 : decode cX0_holderOf 26 = .ok (.ishr, 1) := by decide +kernel
theorem dX0_holderOf_27 : decode cX0_holderOf 27 = .ok (.iconst 1, 1) := by decide +kernel
theorem dX0_holderOf_28 : decode cX0_holderOf 28 = .ok (.iand, 1) := by decide +kernel
theorem dX0_holderOf_29 : decode cX0_holderOf 29 = .ok (.iconst 1, 1) := by decide +kernel
theorem dX0_holderOf_30 : decode cX0_holderOf 30 = .ok (.if_icmp .ne 5, 3) := by decide +kernel
theorem dX0_holderOf_33 : decode cX0_holderOf 33 = .ok (.iload_n 2, 1) := by decide +kernel
theorem dX0_holderOf_34 : decode cX0_holderOf 34 = .ok (.ireturn, 1) := by decide +kernel
theorem dX0_holderOf_35 : decode cX0_holderOf 35 = .ok (.iinc 2 1, 3) := by decide +kernel
theorem dX0_holderOf_38 : decode cX0_holderOf 38 = .ok (.goto (-36), 3) := by decide +kernel
theorem dX0_holderOf_41 : decode cX0_holderOf 41 = .ok (.ldc 31, 2) := by decide +kernel
theorem dX0_holderOf_43 : decode cX0_holderOf 43 = .ok (.ireturn, 1) := by decide +kernel
theorem dX0_beginOf_0 : decode cX0_beginOf 0 = .ok (.iload_n 1, 1) := by decide +kernel
theorem dX0_beginOf_1 : decode cX0_beginOf 1 = .ok (.ifCond .lt 17, 3) := by decide +kernel
theorem dX0_beginOf_4 : decode cX0_beginOf 4 = .ok (.iload_n 1, 1) := by decide +kernel
theorem dX0_beginOf_5 : decode cX0_beginOf 5 = .ok (.iconst 4, 1) := by decide +kernel
theorem dX0_beginOf_6 : decode cX0_beginOf 6 = .ok (.if_icmp .ge 12, 3) := by decide +kernel
theorem dX0_beginOf_9 : decode cX0_beginOf 9 = .ok (.aload_n 0, 1) := by decide +kernel
theorem dX0_beginOf_10 : decode cX0_beginOf 10 = .ok (.getfield 9, 3) := by decide +kernel
theorem dX0_beginOf_13 : decode cX0_beginOf 13 = .ok (.iload_n 1, 1) := by decide +kernel
theorem dX0_beginOf_14 : decode cX0_beginOf 14 = .ok (.iaload, 1) := by decide +kernel
theorem dX0_beginOf_15 : decode cX0_beginOf 15 = .ok (.goto 4, 3) := by decide +kernel
theorem dX0_beginOf_18 : decode cX0_beginOf 18 = .ok (.iconst 0, 1) := by decide +kernel
theorem dX0_beginOf_19 : decode cX0_beginOf 19 = .ok (.ireturn, 1) := by decide +kernel
theorem dX0_writesOf_0 : decode cX0_writesOf 0 = .ok (.iload_n 1, 1) := by decide +kernel
theorem dX0_writesOf_1 : decode cX0_writesOf 1 = .ok (.ifCond .lt 17, 3) := by decide +kernel
theorem dX0_writesOf_4 : decode cX0_writesOf 4 = .ok (.iload_n 1, 1) := by decide +kernel
theorem dX0_writesOf_5 : decode cX0_writesOf 5 = .ok (.iconst 4, 1) := by decide +kernel
theorem dX0_writesOf_6 : decode cX0_writesOf 6 = .ok (.if_icmp .ge 12, 3) := by decide +kernel
theorem dX0_writesOf_9 : decode cX0_writesOf 9 = .ok (.aload_n 0, 1) := by decide +kernel
theorem dX0_writesOf_10 : decode cX0_writesOf 10 = .ok (.getfield 15, 3) := by decide +kernel
theorem dX0_writesOf_13 : decode cX0_writesOf 13 = .ok (.iload_n 1, 1) := by decide +kernel
theorem dX0_writesOf_14 : decode cX0_writesOf 14 = .ok (.iaload, 1) := by decide +kernel
theorem dX0_writesOf_15 : decode cX0_writesOf 15 = .ok (.goto 4, 3) := by decide +kernel
theorem dX0_writesOf_18 : decode cX0_writesOf 18 = .ok (.iconst 0, 1) := by decide +kernel
theorem dX0_writesOf_19 : decode cX0_writesOf 19 = .ok (.ireturn, 1) := by decide +kernel
theorem dX0_heldBy_0 : decode cX0_heldBy 0 = .ok (.iload_n 1, 1) := by decide +kernel
theorem dX0_heldBy_1 : decode cX0_heldBy 1 = .ok (.ifCond .lt 17, 3) := by decide +kernel
theorem dX0_heldBy_4 : decode cX0_heldBy 4 = .ok (.iload_n 1, 1) := by decide +kernel
theorem dX0_heldBy_5 : decode cX0_heldBy 5 = .ok (.iconst 4, 1) := by decide +kernel
theorem dX0_heldBy_6 : decode cX0_heldBy 6 = .ok (.if_icmp .ge 12, 3) := by decide +kernel
theorem dX0_heldBy_9 : decode cX0_heldBy 9 = .ok (.aload_n 0, 1) := by decide +kernel
theorem dX0_heldBy_10 : decode cX0_heldBy 10 = .ok (.getfield 18, 3) := by decide +kernel
theorem dX0_heldBy_13 : decode cX0_heldBy 13 = .ok (.iload_n 1, 1) := by decide +kernel
theorem dX0_heldBy_14 : decode cX0_heldBy 14 = .ok (.iaload, 1) := by decide +kernel
theorem dX0_heldBy_15 : decode cX0_heldBy 15 = .ok (.goto 4, 3) := by decide +kernel
theorem dX0_heldBy_18 : decode cX0_heldBy 18 = .ok (.iconst 0, 1) := by decide +kernel
theorem dX0_heldBy_19 : decode cX0_heldBy 19 = .ok (.ireturn, 1) := by decide +kernel
theorem dX0_tell_0 : decode cX0_tell 0 = .ok (.iload_n 2, 1) := by decide +kernel
theorem dX0_tell_1 : decode cX0_tell 1 = .ok (.ifCond .ne 17, 3) := by decide +kernel
theorem dX0_tell_4 : decode cX0_tell 4 = .ok (.aload_n 0, 1) := by decide +kernel
theorem dX0_tell_5 : decode cX0_tell 5 = .ok (.iload_n 1, 1) := by decide +kernel
theorem dX0_tell_6 : decode cX0_tell 6 = .ok (.invokevirtual 32, 3) := by decide +kernel
theorem dX0_tell_9 : decode cX0_tell 9 = .ok (.ifCond .eq 7, 3) := by decide +kernel
theorem dX0_tell_12 : decode cX0_tell 12 = .ok (.iconst 1, 1) := by decide +kernel
theorem dX0_tell_13 : decode cX0_tell 13 = .ok (.goto 4, 3) := by decide +kernel
theorem dX0_tell_16 : decode cX0_tell 16 = .ok (.iconst 0, 1) := by decide +kernel
theorem dX0_tell_17 : decode cX0_tell 17 = .ok (.ireturn, 1) := by decide +kernel
theorem dX0_tell_18 : decode cX0_tell 18 = .ok (.aload_n 0, 1) := by decide +kernel
theorem dX0_tell_19 : decode cX0_tell 19 = .ok (.iload_n 1, 1) := by decide +kernel
theorem dX0_tell_20 : decode cX0_tell 20 = .ok (.invokevirtual 32, 3) := by decide +kernel
theorem dX0_tell_23 : decode cX0_tell 23 = .ok (.ifCond .ne 6, 3) := by decide +kernel
theorem dX0_tell_26 : decode cX0_tell 26 = .ok (.ldc 31, 2) := by decide +kernel
theorem dX0_tell_28 : decode cX0_tell 28 = .ok (.ireturn, 1) := by decide +kernel
theorem dX0_tell_29 : decode cX0_tell 29 = .ok (.iload_n 2, 1) := by decide +kernel
theorem dX0_tell_30 : decode cX0_tell 30 = .ok (.lookupswitch 38 #[(1, 26), (2, 32)], 26) := by decide +kernel
theorem dX0_tell_56 : decode cX0_tell 56 = .ok (.aload_n 0, 1) := by decide +kernel
theorem dX0_tell_57 : decode cX0_tell 57 = .ok (.iload_n 1, 1) := by decide +kernel
theorem dX0_tell_58 : decode cX0_tell 58 = .ok (.invokevirtual 36, 3) := by decide +kernel
theorem dX0_tell_61 : decode cX0_tell 61 = .ok (.ireturn, 1) := by decide +kernel
theorem dX0_tell_62 : decode cX0_tell 62 = .ok (.aload_n 0, 1) := by decide +kernel
theorem dX0_tell_63 : decode cX0_tell 63 = .ok (.iload_n 1, 1) := by decide +kernel
theorem dX0_tell_64 : decode cX0_tell 64 = .ok (.invokevirtual 40, 3) := by decide +kernel
theorem dX0_tell_67 : decode cX0_tell 67 = .ok (.ireturn, 1) := by decide +kernel
theorem dX0_tell_68 : decode cX0_tell 68 = .ok (.aload_n 0, 1) := by decide +kernel
theorem dX0_tell_69 : decode cX0_tell 69 = .ok (.iload_n 1, 1) := by decide +kernel
theorem dX0_tell_70 : decode cX0_tell 70 = .ok (.invokevirtual 43, 3) := by decide +kernel
theorem dX0_tell_73 : decode cX0_tell 73 = .ok (.ireturn, 1) := by decide +kernel
theorem dX1_init_0 : decode cX1_init 0 = .ok (.aload_n 0, 1) := by decide +kernel
theorem dX1_init_1 : decode cX1_init 1 = .ok (.invokespecial 3, 3) := by decide +kernel
theorem dX1_init_4 : decode cX1_init 4 = .ok (.aload_n 0, 1) := by decide +kernel
theorem dX1_init_5 : decode cX1_init 5 = .ok (.iconst 5, 1) := by decide +kernel
theorem dX1_init_6 : decode cX1_init 6 = .ok (.anewarray 9, 3) := by decide +kernel
theorem dX1_init_9 : decode cX1_init 9 = .ok (.putfield 11, 3) := by decide +kernel
theorem dX1_init_12 : decode cX1_init 12 = .ok (.iconst 0, 1) := by decide +kernel
theorem dX1_init_13 : decode cX1_init 13 = .ok (.istore_n 1, 1) := by decide +kernel
theorem dX1_init_14 : decode cX1_init 14 = .ok (.iload_n 1, 1) := by decide +kernel
theorem dX1_init_15 : decode cX1_init 15 = .ok (.iconst 5, 1) := by decide +kernel
theorem dX1_init_16 : decode cX1_init 16 = .ok (.if_icmp .ge 22, 3) := by decide +kernel
theorem dX1_init_19 : decode cX1_init 19 = .ok (.aload_n 0, 1) := by decide +kernel
theorem dX1_init_20 : decode cX1_init 20 = .ok (.getfield 11, 3) := by decide +kernel
theorem dX1_init_23 : decode cX1_init 23 = .ok (.iload_n 1, 1) := by decide +kernel
theorem dX1_init_24 : decode cX1_init 24 = .ok (.new 9, 3) := by decide +kernel
theorem dX1_init_27 : decode cX1_init 27 = .ok (.dup, 1) := by decide +kernel
theorem dX1_init_28 : decode cX1_init 28 = .ok (.invokespecial 17, 3) := by decide +kernel
theorem dX1_init_31 : decode cX1_init 31 = .ok (.aastore, 1) := by decide +kernel
theorem dX1_init_32 : decode cX1_init 32 = .ok (.iinc 1 1, 3) := by decide +kernel
theorem dX1_init_35 : decode cX1_init 35 = .ok (.goto (-21), 3) := by decide +kernel
theorem dX1_init_38 : decode cX1_init 38 = .ok (.return_, 1) := by decide +kernel
theorem dX1_rowAt_0 : decode cX1_rowAt 0 = .ok (.aload_n 0, 1) := by decide +kernel
theorem dX1_rowAt_1 : decode cX1_rowAt 1 = .ok (.getfield 18, 3) := by decide +kernel
theorem dX1_rowAt_4 : decode cX1_rowAt 4 = .ok (.iload_n 1, 1) := by decide +kernel
theorem dX1_rowAt_5 : decode cX1_rowAt 5 = .ok (.iadd, 1) := by decide +kernel
theorem dX1_rowAt_6 : decode cX1_rowAt 6 = .ok (.iconst 5, 1) := by decide +kernel
theorem dX1_rowAt_7 : decode cX1_rowAt 7 = .ok (.invokestatic 22, 3) := by decide +kernel
theorem dX1_rowAt_10 : decode cX1_rowAt 10 = .ok (.istore_n 2, 1) := by decide +kernel
theorem dX1_rowAt_11 : decode cX1_rowAt 11 = .ok (.iload_n 2, 1) := by decide +kernel
theorem dX1_rowAt_12 : decode cX1_rowAt 12 = .ok (.iconst 5, 1) := by decide +kernel
theorem dX1_rowAt_13 : decode cX1_rowAt 13 = .ok (.if_icmp .ge 12, 3) := by decide +kernel
theorem dX1_rowAt_16 : decode cX1_rowAt 16 = .ok (.aload_n 0, 1) := by decide +kernel
theorem dX1_rowAt_17 : decode cX1_rowAt 17 = .ok (.getfield 11, 3) := by decide +kernel
theorem dX1_rowAt_20 : decode cX1_rowAt 20 = .ok (.iload_n 2, 1) := by decide +kernel
theorem dX1_rowAt_21 : decode cX1_rowAt 21 = .ok (.aaload, 1) := by decide +kernel
theorem dX1_rowAt_22 : decode cX1_rowAt 22 = .ok (.goto 4, 3) := by decide +kernel
theorem dX1_rowAt_25 : decode cX1_rowAt 25 = .ok (.aconst_null, 1) := by decide +kernel
theorem dX1_rowAt_26 : decode cX1_rowAt 26 = .ok (.areturn, 1) := by decide +kernel
theorem dX1_prepare_0 : decode cX1_prepare 0 = .ok (.aload_n 0, 1) := by decide +kernel
theorem dX1_prepare_1 : decode cX1_prepare 1 = .ok (.aload_n 0, 1) := by decide +kernel
theorem dX1_prepare_2 : decode cX1_prepare 2 = .ok (.getfield 28, 3) := by decide +kernel
theorem dX1_prepare_5 : decode cX1_prepare 5 = .ok (.invokevirtual 31, 3) := by decide +kernel
theorem dX1_prepare_8 : decode cX1_prepare 8 = .ok (.astore_n 2, 1) := by decide +kernel
theorem dX1_prepare_9 : decode cX1_prepare 9 = .ok (.aload_n 2, 1) := by decide +kernel
theorem dX1_prepare_10 : decode cX1_prepare 10 = .ok (.ifnull 8, 3) := by decide +kernel
theorem dX1_prepare_13 : decode cX1_prepare 13 = .ok (.aload_n 2, 1) := by decide +kernel
theorem dX1_prepare_14 : decode cX1_prepare 14 = .ok (.aload_n 1, 1) := by decide +kernel
theorem dX1_prepare_15 : decode cX1_prepare 15 = .ok (.invokevirtual 35, 3) := by decide +kernel
theorem dX1_prepare_18 : decode cX1_prepare 18 = .ok (.return_, 1) := by decide +kernel
theorem dX1_keepUnlessError_0 : decode cX1_keepUnlessError 0 = .ok (.iload_n 1, 1) := by decide +kernel
theorem dX1_keepUnlessError_1 : decode cX1_keepUnlessError 1 = .ok (.ifCond .ge 5, 3) := by decide +kernel
theorem dX1_keepUnlessError_4 : decode cX1_keepUnlessError 4 = .ok (.iload_n 1, 1) := by decide +kernel
theorem dX1_keepUnlessError_5 : decode cX1_keepUnlessError 5 = .ok (.ireturn, 1) := by decide +kernel
theorem dX1_keepUnlessError_6 : decode cX1_keepUnlessError 6 = .ok (.aload_n 0, 1) := by decide +kernel
theorem dX1_keepUnlessError_7 : decode cX1_keepUnlessError 7 = .ok (.getfield 28, 3) := by decide +kernel
theorem dX1_keepUnlessError_10 : decode cX1_keepUnlessError 10 = .ok (.iconst 4, 1) := by decide +kernel
theorem dX1_keepUnlessError_11 : decode cX1_keepUnlessError 11 = .ok (.if_icmp .ge 16, 3) := by decide +kernel
theorem dX1_keepUnlessError_14 : decode cX1_keepUnlessError 14 = .ok (.aload_n 0, 1) := by decide +kernel
theorem dX1_keepUnlessError_15 : decode cX1_keepUnlessError 15 = .ok (.dup, 1) := by decide +kernel
theorem dX1_keepUnlessError_16 : decode cX1_keepUnlessError 16 = .ok (.getfield 28, 3) := by decide +kernel
theorem dX1_keepUnlessError_19 : decode cX1_keepUnlessError 19 = .ok (.iconst 1, 1) := by decide +kernel
theorem dX1_keepUnlessError_20 : decode cX1_keepUnlessError 20 = .ok (.iadd, 1) := by decide +kernel
theorem dX1_keepUnlessError_21 : decode cX1_keepUnlessError 21 = .ok (.putfield 28, 3) := by decide +kernel
theorem dX1_keepUnlessError_24 : decode cX1_keepUnlessError 24 = .ok (.goto 15, 3) := by decide +kernel
theorem dX1_keepUnlessError_27 : decode cX1_keepUnlessError 27 = .ok (.aload_n 0, 1) := by decide +kernel
theorem dX1_keepUnlessError_28 : decode cX1_keepUnlessError 28 = .ok (.aload_n 0, 1) := by decide +kernel
theorem dX1_keepUnlessError_29 : decode cX1_keepUnlessError 29 = .ok (.getfield 18, 3) := by decide +kernel
theorem dX1_keepUnlessError_32 : decode cX1_keepUnlessError 32 = .ok (.iconst 1, 1) := by decide +kernel
theorem dX1_keepUnlessError_33 : decode cX1_keepUnlessError 33 = .ok (.iadd, 1) := by decide +kernel
theorem dX1_keepUnlessError_34 : decode cX1_keepUnlessError 34 = .ok (.iconst 5, 1) := by decide +kernel
theorem dX1_keepUnlessError_35 : decode cX1_keepUnlessError 35 = .ok (.irem, 1) := by decide +kernel
theorem dX1_keepUnlessError_36 : decode cX1_keepUnlessError 36 = .ok (.putfield 18, 3) := by decide +kernel
theorem dX1_keepUnlessError_39 : decode cX1_keepUnlessError 39 = .ok (.iload_n 1, 1) := by decide +kernel
theorem dX1_keepUnlessError_40 : decode cX1_keepUnlessError 40 = .ok (.ireturn, 1) := by decide +kernel
theorem dX1_restoreLatest_0 : decode cX1_restoreLatest 0 = .ok (.aload_n 0, 1) := by decide +kernel
theorem dX1_restoreLatest_1 : decode cX1_restoreLatest 1 = .ok (.getfield 28, 3) := by decide +kernel
theorem dX1_restoreLatest_4 : decode cX1_restoreLatest 4 = .ok (.ifCond .ne 6, 3) := by decide +kernel
theorem dX1_restoreLatest_7 : decode cX1_restoreLatest 7 = .ok (.ldc 39, 2) := by decide +kernel
theorem dX1_restoreLatest_9 : decode cX1_restoreLatest 9 = .ok (.ireturn, 1) := by decide +kernel
theorem dX1_restoreLatest_10 : decode cX1_restoreLatest 10 = .ok (.aload_n 0, 1) := by decide +kernel
theorem dX1_restoreLatest_11 : decode cX1_restoreLatest 11 = .ok (.dup, 1) := by decide +kernel
theorem dX1_restoreLatest_12 : decode cX1_restoreLatest 12 = .ok (.getfield 28, 3) := by decide +kernel
theorem dX1_restoreLatest_15 : decode cX1_restoreLatest 15 = .ok (.iconst 1, 1) := by decide +kernel
theorem dX1_restoreLatest_16 : decode cX1_restoreLatest 16 = .ok (.isub, 1) := by decide +kernel
theorem dX1_restoreLatest_17 : decode cX1_restoreLatest 17 = .ok (.putfield 28, 3) := by decide +kernel
theorem dX1_restoreLatest_20 : decode cX1_restoreLatest 20 = .ok (.aload_n 0, 1) := by decide +kernel
theorem dX1_restoreLatest_21 : decode cX1_restoreLatest 21 = .ok (.aload_n 0, 1) := by decide +kernel
theorem dX1_restoreLatest_22 : decode cX1_restoreLatest 22 = .ok (.getfield 28, 3) := by decide +kernel
theorem dX1_restoreLatest_25 : decode cX1_restoreLatest 25 = .ok (.invokevirtual 31, 3) := by decide +kernel
theorem dX1_restoreLatest_28 : decode cX1_restoreLatest 28 = .ok (.astore_n 2, 1) := by decide +kernel
theorem dX1_restoreLatest_29 : decode cX1_restoreLatest 29 = .ok (.aload_n 2, 1) := by decide +kernel
theorem dX1_restoreLatest_30 : decode cX1_restoreLatest 30 = .ok (.ifnull 8, 3) := by decide +kernel
theorem dX1_restoreLatest_33 : decode cX1_restoreLatest 33 = .ok (.aload_n 1, 1) := by decide +kernel
theorem dX1_restoreLatest_34 : decode cX1_restoreLatest 34 = .ok (.aload_n 2, 1) := by decide +kernel
theorem dX1_restoreLatest_35 : decode cX1_restoreLatest 35 = .ok (.invokevirtual 35, 3) := by decide +kernel
theorem dX1_restoreLatest_38 : decode cX1_restoreLatest 38 = .ok (.aload_n 0, 1) := by decide +kernel
theorem dX1_restoreLatest_39 : decode cX1_restoreLatest 39 = .ok (.getfield 28, 3) := by decide +kernel
theorem dX1_restoreLatest_42 : decode cX1_restoreLatest 42 = .ok (.ireturn, 1) := by decide +kernel
theorem dX2_init_0 : decode cX2_init 0 = .ok (.aload_n 0, 1) := by decide +kernel
theorem dX2_init_1 : decode cX2_init 1 = .ok (.invokespecial 3, 3) := by decide +kernel
theorem dX2_init_4 : decode cX2_init 4 = .ok (.aload_n 0, 1) := by decide +kernel
theorem dX2_init_5 : decode cX2_init 5 = .ok (.sipush 128, 3) := by decide +kernel
theorem dX2_init_8 : decode cX2_init 8 = .ok (.newarray .int, 2) := by decide +kernel
theorem dX2_init_10 : decode cX2_init 10 = .ok (.putfield 9, 3) := by decide +kernel
theorem dX2_init_13 : decode cX2_init 13 = .ok (.aload_n 0, 1) := by decide +kernel
theorem dX2_init_14 : decode cX2_init 14 = .ok (.sipush 128, 3) := by decide +kernel
theorem dX2_init_17 : decode cX2_init 17 = .ok (.newarray .int, 2) := by decide +kernel
theorem dX2_init_19 : decode cX2_init 19 = .ok (.putfield 15, 3) := by decide +kernel
theorem dX2_init_22 : decode cX2_init 22 = .ok (.aload_n 0, 1) := by decide +kernel
theorem dX2_init_23 : decode cX2_init 23 = .ok (.sipush 128, 3) := by decide +kernel
theorem dX2_init_26 : decode cX2_init 26 = .ok (.newarray .int, 2) := by decide +kernel
theorem dX2_init_28 : decode cX2_init 28 = .ok (.putfield 18, 3) := by decide +kernel
theorem dX2_init_31 : decode cX2_init 31 = .ok (.aload_n 0, 1) := by decide +kernel
theorem dX2_init_32 : decode cX2_init 32 = .ok (.sipush 128, 3) := by decide +kernel
theorem dX2_init_35 : decode cX2_init 35 = .ok (.newarray .int, 2) := by decide +kernel
theorem dX2_init_37 : decode cX2_init 37 = .ok (.putfield 21, 3) := by decide +kernel
theorem dX2_init_40 : decode cX2_init 40 = .ok (.aload_n 0, 1) := by decide +kernel
theorem dX2_init_41 : decode cX2_init 41 = .ok (.sipush 128, 3) := by decide +kernel
theorem dX2_init_44 : decode cX2_init 44 = .ok (.newarray .int, 2) := by decide +kernel
theorem dX2_init_46 : decode cX2_init 46 = .ok (.putfield 24, 3) := by decide +kernel
theorem dX2_init_49 : decode cX2_init 49 = .ok (.aload_n 0, 1) := by decide +kernel
theorem dX2_init_50 : decode cX2_init 50 = .ok (.sipush 128, 3) := by decide +kernel
theorem dX2_init_53 : decode cX2_init 53 = .ok (.newarray .int, 2) := by decide +kernel
theorem dX2_init_55 : decode cX2_init 55 = .ok (.putfield 27, 3) := by decide +kernel
theorem dX2_init_58 : decode cX2_init 58 = .ok (.aload_n 0, 1) := by decide +kernel
theorem dX2_init_59 : decode cX2_init 59 = .ok (.bipush 8, 2) := by decide +kernel
theorem dX2_init_61 : decode cX2_init 61 = .ok (.newarray .int, 2) := by decide +kernel
theorem dX2_init_63 : decode cX2_init 63 = .ok (.putfield 30, 3) := by decide +kernel
theorem dX2_init_66 : decode cX2_init 66 = .ok (.aload_n 0, 1) := by decide +kernel
theorem dX2_init_67 : decode cX2_init 67 = .ok (.iconst 1, 1) := by decide +kernel
theorem dX2_init_68 : decode cX2_init 68 = .ok (.putfield 33, 3) := by decide +kernel
theorem dX2_init_71 : decode cX2_init 71 = .ok (.return_, 1) := by decide +kernel
theorem dX2_copyFrom_0 : decode cX2_copyFrom 0 = .ok (.aload_n 1, 1) := by decide +kernel
theorem dX2_copyFrom_1 : decode cX2_copyFrom 1 = .ok (.getfield 9, 3) := by decide +kernel
theorem dX2_copyFrom_4 : decode cX2_copyFrom 4 = .ok (.iconst 0, 1) := by decide +kernel
theorem dX2_copyFrom_5 : decode cX2_copyFrom 5 = .ok (.aload_n 0, 1) := by decide +kernel
theorem dX2_copyFrom_6 : decode cX2_copyFrom 6 = .ok (.getfield 9, 3) := by decide +kernel
theorem dX2_copyFrom_9 : decode cX2_copyFrom 9 = .ok (.iconst 0, 1) := by decide +kernel
theorem dX2_copyFrom_10 : decode cX2_copyFrom 10 = .ok (.sipush 128, 3) := by decide +kernel
theorem dX2_copyFrom_13 : decode cX2_copyFrom 13 = .ok (.invokestatic 37, 3) := by decide +kernel
theorem dX2_copyFrom_16 : decode cX2_copyFrom 16 = .ok (.aload_n 1, 1) := by decide +kernel
theorem dX2_copyFrom_17 : decode cX2_copyFrom 17 = .ok (.getfield 15, 3) := by decide +kernel
theorem dX2_copyFrom_20 : decode cX2_copyFrom 20 = .ok (.iconst 0, 1) := by decide +kernel
theorem dX2_copyFrom_21 : decode cX2_copyFrom 21 = .ok (.aload_n 0, 1) := by decide +kernel
theorem dX2_copyFrom_22 : decode cX2_copyFrom 22 = .ok (.getfield 15, 3) := by decide +kernel
theorem dX2_copyFrom_25 : decode cX2_copyFrom 25 = .ok (.iconst 0, 1) := by decide +kernel
theorem dX2_copyFrom_26 : decode cX2_copyFrom 26 = .ok (.sipush 128, 3) := by decide +kernel
theorem dX2_copyFrom_29 : decode cX2_copyFrom 29 = .ok (.invokestatic 37, 3) := by decide +kernel
theorem dX2_copyFrom_32 : decode cX2_copyFrom 32 = .ok (.aload_n 1, 1) := by decide +kernel
theorem dX2_copyFrom_33 : decode cX2_copyFrom 33 = .ok (.getfield 18, 3) := by decide +kernel
theorem dX2_copyFrom_36 : decode cX2_copyFrom 36 = .ok (.iconst 0, 1) := by decide +kernel
theorem dX2_copyFrom_37 : decode cX2_copyFrom 37 = .ok (.aload_n 0, 1) := by decide +kernel
theorem dX2_copyFrom_38 : decode cX2_copyFrom 38 = .ok (.getfield 18, 3) := by decide +kernel
theorem dX2_copyFrom_41 : decode cX2_copyFrom 41 = .ok (.iconst 0, 1) := by decide +kernel
theorem dX2_copyFrom_42 : decode cX2_copyFrom 42 = .ok (.sipush 128, 3) := by decide +kernel
theorem dX2_copyFrom_45 : decode cX2_copyFrom 45 = .ok (.invokestatic 37, 3) := by decide +kernel
theorem dX2_copyFrom_48 : decode cX2_copyFrom 48 = .ok (.aload_n 1, 1) := by decide +kernel
theorem dX2_copyFrom_49 : decode cX2_copyFrom 49 = .ok (.getfield 21, 3) := by decide +kernel
theorem dX2_copyFrom_52 : decode cX2_copyFrom 52 = .ok (.iconst 0, 1) := by decide +kernel
theorem dX2_copyFrom_53 : decode cX2_copyFrom 53 = .ok (.aload_n 0, 1) := by decide +kernel
theorem dX2_copyFrom_54 : decode cX2_copyFrom 54 = .ok (.getfield 21, 3) := by decide +kernel
theorem dX2_copyFrom_57 : decode cX2_copyFrom 57 = .ok (.iconst 0, 1) := by decide +kernel
theorem dX2_copyFrom_58 : decode cX2_copyFrom 58 = .ok (.sipush 128, 3) := by decide +kernel
theorem dX2_copyFrom_61 : decode cX2_copyFrom 61 = .ok (.invokestatic 37, 3) := by decide +kernel
theorem dX2_copyFrom_64 : decode cX2_copyFrom 64 = .ok (.aload_n 1, 1) := by decide +kernel
theorem dX2_copyFrom_65 : decode cX2_copyFrom 65 = .ok (.getfield 24, 3) := by decide +kernel
theorem dX2_copyFrom_68 : decode cX2_copyFrom 68 = .ok (.iconst 0, 1) := by decide +kernel
theorem dX2_copyFrom_69 : decode cX2_copyFrom 69 = .ok (.aload_n 0, 1) := by decide +kernel
theorem dX2_copyFrom_70 : decode cX2_copyFrom 70 = .ok (.getfield 24, 3) := by decide +kernel
theorem dX2_copyFrom_73 : decode cX2_copyFrom 73 = .ok (.iconst 0, 1) := by decide +kernel
theorem dX2_copyFrom_74 : decode cX2_copyFrom 74 = .ok (.sipush 128, 3) := by decide +kernel
theorem dX2_copyFrom_77 : decode cX2_copyFrom 77 = .ok (.invokestatic 37, 3) := by decide +kernel
theorem dX2_copyFrom_80 : decode cX2_copyFrom 80 = .ok (.aload_n 1, 1) := by decide +kernel
theorem dX2_copyFrom_81 : decode cX2_copyFrom 81 = .ok (.getfield 27, 3) := by decide +kernel
theorem dX2_copyFrom_84 : decode cX2_copyFrom 84 = .ok (.iconst 0, 1) := by decide +kernel
theorem dX2_copyFrom_85 : decode cX2_copyFrom 85 = .ok (.aload_n 0, 1) := by decide +kernel
theorem dX2_copyFrom_86 : decode cX2_copyFrom 86 = .ok (.getfield 27, 3) := by decide +kernel
theorem dX2_copyFrom_89 : decode cX2_copyFrom 89 = .ok (.iconst 0, 1) := by decide +kernel
theorem dX2_copyFrom_90 : decode cX2_copyFrom 90 = .ok (.sipush 128, 3) := by decide +kernel
theorem dX2_copyFrom_93 : decode cX2_copyFrom 93 = .ok (.invokestatic 37, 3) := by decide +kernel
theorem dX2_copyFrom_96 : decode cX2_copyFrom 96 = .ok (.aload_n 1, 1) := by decide +kernel
theorem dX2_copyFrom_97 : decode cX2_copyFrom 97 = .ok (.getfield 30, 3) := by decide +kernel
theorem dX2_copyFrom_100 : decode cX2_copyFrom 100 = .ok (.iconst 0, 1) := by decide +kernel
theorem dX2_copyFrom_101 : decode cX2_copyFrom 101 = .ok (.aload_n 0, 1) := by decide +kernel
theorem dX2_copyFrom_102 : decode cX2_copyFrom 102 = .ok (.getfield 30, 3) := by decide +kernel
theorem dX2_copyFrom_105 : decode cX2_copyFrom 105 = .ok (.iconst 0, 1) := by decide +kernel
theorem dX2_copyFrom_106 : decode cX2_copyFrom 106 = .ok (.bipush 8, 2) := by decide +kernel
theorem dX2_copyFrom_108 : decode cX2_copyFrom 108 = .ok (.invokestatic 37, 3) := by decide +kernel
theorem dX2_copyFrom_111 : decode cX2_copyFrom 111 = .ok (.aload_n 0, 1) := by decide +kernel
theorem dX2_copyFrom_112 : decode cX2_copyFrom 112 = .ok (.aload_n 1, 1) := by decide +kernel
theorem dX2_copyFrom_113 : decode cX2_copyFrom 113 = .ok (.getfield 33, 3) := by decide +kernel
theorem dX2_copyFrom_116 : decode cX2_copyFrom 116 = .ok (.putfield 33, 3) := by decide +kernel
theorem dX2_copyFrom_119 : decode cX2_copyFrom 119 = .ok (.aload_n 0, 1) := by decide +kernel
theorem dX2_copyFrom_120 : decode cX2_copyFrom 120 = .ok (.aload_n 1, 1) := by decide +kernel
theorem dX2_copyFrom_121 : decode cX2_copyFrom 121 = .ok (.getfield 43, 3) := by decide +kernel
theorem dX2_copyFrom_124 : decode cX2_copyFrom 124 = .ok (.putfield 43, 3) := by decide +kernel
theorem dX2_copyFrom_127 : decode cX2_copyFrom 127 = .ok (.aload_n 0, 1) := by decide +kernel
theorem dX2_copyFrom_128 : decode cX2_copyFrom 128 = .ok (.aload_n 1, 1) := by decide +kernel
theorem dX2_copyFrom_129 : decode cX2_copyFrom 129 = .ok (.getfield 46, 3) := by decide +kernel
theorem dX2_copyFrom_132 : decode cX2_copyFrom 132 = .ok (.putfield 46, 3) := by decide +kernel
theorem dX2_copyFrom_135 : decode cX2_copyFrom 135 = .ok (.aload_n 0, 1) := by decide +kernel
theorem dX2_copyFrom_136 : decode cX2_copyFrom 136 = .ok (.aload_n 1, 1) := by decide +kernel
theorem dX2_copyFrom_137 : decode cX2_copyFrom 137 = .ok (.getfield 49, 3) := by decide +kernel
theorem dX2_copyFrom_140 : decode cX2_copyFrom 140 = .ok (.putfield 49, 3) := by decide +kernel
theorem dX2_copyFrom_143 : decode cX2_copyFrom 143 = .ok (.aload_n 0, 1) := by decide +kernel
theorem dX2_copyFrom_144 : decode cX2_copyFrom 144 = .ok (.aload_n 1, 1) := by decide +kernel
theorem dX2_copyFrom_145 : decode cX2_copyFrom 145 = .ok (.getfield 52, 3) := by decide +kernel
theorem dX2_copyFrom_148 : decode cX2_copyFrom 148 = .ok (.putfield 52, 3) := by decide +kernel
theorem dX2_copyFrom_151 : decode cX2_copyFrom 151 = .ok (.return_, 1) := by decide +kernel
theorem dX2_isFull_0 : decode cX2_isFull 0 = .ok (.aload_n 0, 1) := by decide +kernel
theorem dX2_isFull_1 : decode cX2_isFull 1 = .ok (.getfield 43, 3) := by decide +kernel
theorem dX2_isFull_4 : decode cX2_isFull 4 = .ok (.bipush 60, 2) := by decide +kernel
theorem dX2_isFull_6 : decode cX2_isFull 6 = .ok (.if_icmp .lt 7, 3) := by decide +kernel
theorem dX2_isFull_9 : decode cX2_isFull 9 = .ok (.iconst 1, 1) := by decide +kernel
theorem dX2_isFull_10 : decode cX2_isFull 10 = .ok (.goto 4, 3) := by decide +kernel
theorem dX2_isFull_13 : decode cX2_isFull 13 = .ok (.iconst 0, 1) := by decide +kernel
theorem dX2_isFull_14 : decode cX2_isFull 14 = .ok (.ireturn, 1) := by decide +kernel
theorem dX2_last_0 : decode cX2_last 0 = .ok (.aload_n 0, 1) := by decide +kernel
theorem dX2_last_1 : decode cX2_last 1 = .ok (.getfield 43, 3) := by decide +kernel
theorem dX2_last_4 : decode cX2_last 4 = .ok (.ifCond .ne 7, 3) := by decide +kernel
theorem dX2_last_7 : decode cX2_last 7 = .ok (.iconst 0, 1) := by decide +kernel
theorem dX2_last_8 : decode cX2_last 8 = .ok (.goto 14, 3) := by decide +kernel
theorem dX2_last_11 : decode cX2_last 11 = .ok (.aload_n 0, 1) := by decide +kernel
theorem dX2_last_12 : decode cX2_last 12 = .ok (.getfield 33, 3) := by decide +kernel
theorem dX2_last_15 : decode cX2_last 15 = .ok (.aload_n 0, 1) := by decide +kernel
theorem dX2_last_16 : decode cX2_last 16 = .ok (.getfield 43, 3) := by decide +kernel
theorem dX2_last_19 : decode cX2_last 19 = .ok (.iadd, 1) := by decide +kernel
theorem dX2_last_20 : decode cX2_last 20 = .ok (.iconst 1, 1) := by decide +kernel
theorem dX2_last_21 : decode cX2_last 21 = .ok (.isub, 1) := by decide +kernel
theorem dX2_last_22 : decode cX2_last 22 = .ok (.ireturn, 1) := by decide +kernel
theorem dX2_has_0 : decode cX2_has 0 = .ok (.iload_n 1, 1) := by decide +kernel
theorem dX2_has_1 : decode cX2_has 1 = .ok (.aload_n 0, 1) := by decide +kernel
theorem dX2_has_2 : decode cX2_has 2 = .ok (.getfield 33, 3) := by decide +kernel
theorem dX2_has_5 : decode cX2_has 5 = .ok (.if_icmp .lt 32, 3) := by decide +kernel
theorem dX2_has_8 : decode cX2_has 8 = .ok (.iload_n 1, 1) := by decide +kernel
theorem dX2_has_9 : decode cX2_has 9 = .ok (.aload_n 0, 1) := by decide +kernel
theorem dX2_has_10 : decode cX2_has 10 = .ok (.getfield 33, 3) := by decide +kernel
theorem dX2_has_13 : decode cX2_has 13 = .ok (.isub, 1) := by decide +kernel
theorem dX2_has_14 : decode cX2_has 14 = .ok (.aload_n 0, 1) := by decide +kernel
theorem dX2_has_15 : decode cX2_has 15 = .ok (.getfield 43, 3) := by decide +kernel
theorem dX2_has_18 : decode cX2_has 18 = .ok (.if_icmp .ge 19, 3) := by decide +kernel
theorem dX2_has_21 : decode cX2_has 21 = .ok (.iload_n 1, 1) := by decide +kernel
theorem dX2_has_22 : decode cX2_has 22 = .ok (.aload_n 0, 1) := by decide +kernel
theorem dX2_has_23 : decode cX2_has 23 = .ok (.getfield 33, 3) := by decide +kernel
theorem dX2_has_26 : decode cX2_has 26 = .ok (.isub, 1) := by decide +kernel
theorem dX2_has_27 : decode cX2_has 27 = .ok (.sipush 128, 3) := by decide +kernel
theorem dX2_has_30 : decode cX2_has 30 = .ok (.if_icmp .ge 7, 3) := by decide +kernel
theorem dX2_has_33 : decode cX2_has 33 = .ok (.iconst 1, 1) := by decide +kernel
theorem dX2_has_34 : decode cX2_has 34 = .ok (.goto 4, 3) := by decide +kernel
theorem dX2_has_37 : decode cX2_has 37 = .ok (.iconst 0, 1) := by decide +kernel
theorem dX2_has_38 : decode cX2_has 38 = .ok (.ireturn, 1) := by decide +kernel
theorem dX2_at_0 : decode cX2_at 0 = .ok (.iload_n 2, 1) := by decide +kernel
theorem dX2_at_1 : decode cX2_at 1 = .ok (.aload_n 0, 1) := by decide +kernel
theorem dX2_at_2 : decode cX2_at 2 = .ok (.getfield 33, 3) := by decide +kernel
theorem dX2_at_5 : decode cX2_at 5 = .ok (.isub, 1) := by decide +kernel
theorem dX2_at_6 : decode cX2_at 6 = .ok (.istore_n 3, 1) := by decide +kernel
theorem dX2_at_7 : decode cX2_at 7 = .ok (.iload_n 3, 1) := by decide +kernel
theorem dX2_at_8 : decode cX2_at 8 = .ok (.ifCond .lt 23, 3) := by decide +kernel
theorem dX2_at_11 : decode cX2_at 11 = .ok (.iload_n 3, 1) := by decide +kernel
theorem dX2_at_12 : decode cX2_at 12 = .ok (.aload_n 0, 1) := by decide +kernel
theorem dX2_at_13 : decode cX2_at 13 = .ok (.getfield 43, 3) := by decide +kernel
theorem dX2_at_16 : decode cX2_at 16 = .ok (.if_icmp .ge 15, 3) := by decide +kernel
theorem dX2_at_19 : decode cX2_at 19 = .ok (.iload_n 3, 1) := by decide +kernel
theorem dX2_at_20 : decode cX2_at 20 = .ok (.aload_n 1, 1) := by decide +kernel
theorem dX2_at_21 : decode cX2_at 21 = .ok (.arraylength, 1) := by decide +kernel
theorem dX2_at_22 : decode cX2_at 22 = .ok (.if_icmp .ge 9, 3) := by decide +kernel
theorem dX2_at_25 : decode cX2_at 25 = .ok (.aload_n 1, 1) := by decide +kernel
theorem dX2_at_26 : decode cX2_at 26 = .ok (.iload_n 3, 1) := by decide +kernel
theorem dX2_at_27 : decode cX2_at 27 = .ok (.iaload, 1) := by decide +kernel
theorem dX2_at_28 : decode cX2_at 28 = .ok (.goto 5, 3) := by decide +kernel
theorem dX2_at_31 : decode cX2_at 31 = .ok (.ldc 55, 2) := by decide +kernel
theorem dX2_at_33 : decode cX2_at 33 = .ok (.ireturn, 1) := by decide +kernel
theorem dX2_append_0 : decode cX2_append 0 = .ok (.aload_n 0, 1) := by decide +kernel
theorem dX2_append_1 : decode cX2_append 1 = .ok (.getfield 43, 3) := by decide +kernel
theorem dX2_append_4 : decode cX2_append 4 = .ok (.ifCond .lt 13, 3) := by decide +kernel
theorem dX2_append_7 : decode cX2_append 7 = .ok (.aload_n 0, 1) := by decide +kernel
theorem dX2_append_8 : decode cX2_append 8 = .ok (.getfield 43, 3) := by decide +kernel
theorem dX2_append_11 : decode cX2_append 11 = .ok (.sipush 128, 3) := by decide +kernel
theorem dX2_append_14 : decode cX2_append 14 = .ok (.if_icmp .lt 6, 3) := by decide +kernel
theorem dX2_append_17 : decode cX2_append 17 = .ok (.ldc 55, 2) := by decide +kernel
theorem dX2_append_19 : decode cX2_append 19 = .ok (.ireturn, 1) := by decide +kernel
theorem dX2_append_20 : decode cX2_append 20 = .ok (.aload_n 0, 1) := by decide +kernel
theorem dX2_append_21 : decode cX2_append 21 = .ok (.getfield 9, 3) := by decide +kernel
theorem dX2_append_24 : decode cX2_append 24 = .ok (.aload_n 0, 1) := by decide +kernel
theorem dX2_append_25 : decode cX2_append 25 = .ok (.getfield 43, 3) := by decide +kernel
theorem dX2_append_28 : decode cX2_append 28 = .ok (.iload_n 1, 1) := by decide +kernel
theorem dX2_append_29 : decode cX2_append 29 = .ok (.iastore, 1) := by decide +kernel
theorem dX2_append_30 : decode cX2_append 30 = .ok (.aload_n 0, 1) := by decide +kernel
theorem dX2_append_31 : decode cX2_append 31 = .ok (.getfield 15, 3) := by decide +kernel
theorem dX2_append_34 : decode cX2_append 34 = .ok (.aload_n 0, 1) := by decide +kernel
theorem dX2_append_35 : decode cX2_append 35 = .ok (.getfield 43, 3) := by decide +kernel
theorem dX2_append_38 : decode cX2_append 38 = .ok (.iload_n 2, 1) := by decide +kernel
theorem dX2_append_39 : decode cX2_append 39 = .ok (.iastore, 1) := by decide +kernel
theorem dX2_append_40 : decode cX2_append 40 = .ok (.aload_n 0, 1) := by decide +kernel
theorem dX2_append_41 : decode cX2_append 41 = .ok (.getfield 18, 3) := by decide +kernel
theorem dX2_append_44 : decode cX2_append 44 = .ok (.aload_n 0, 1) := by decide +kernel
theorem dX2_append_45 : decode cX2_append 45 = .ok (.getfield 43, 3) := by decide +kernel
theorem dX2_append_48 : decode cX2_append 48 = .ok (.iload_n 3, 1) := by decide +kernel
theorem dX2_append_49 : decode cX2_append 49 = .ok (.iastore, 1) := by decide +kernel
theorem dX2_append_50 : decode cX2_append 50 = .ok (.aload_n 0, 1) := by decide +kernel
theorem dX2_append_51 : decode cX2_append 51 = .ok (.getfield 21, 3) := by decide +kernel
theorem dX2_append_54 : decode cX2_append 54 = .ok (.aload_n 0, 1) := by decide +kernel
theorem dX2_append_55 : decode cX2_append 55 = .ok (.getfield 43, 3) := by decide +kernel
theorem dX2_append_58 : decode cX2_append 58 = .ok (.iload 4, 2) := by decide +kernel
theorem dX2_append_60 : decode cX2_append 60 = .ok (.iastore, 1) := by decide +kernel
theorem dX2_append_61 : decode cX2_append 61 = .ok (.aload_n 0, 1) := by decide +kernel
theorem dX2_append_62 : decode cX2_append 62 = .ok (.getfield 24, 3) := by decide +kernel
theorem dX2_append_65 : decode cX2_append 65 = .ok (.aload_n 0, 1) := by decide +kernel
theorem dX2_append_66 : decode cX2_append 66 = .ok (.getfield 43, 3) := by decide +kernel
theorem dX2_append_69 : decode cX2_append 69 = .ok (.iload 5, 2) := by decide +kernel
theorem dX2_append_71 : decode cX2_append 71 = .ok (.iastore, 1) := by decide +kernel
theorem dX2_append_72 : decode cX2_append 72 = .ok (.aload_n 0, 1) := by decide +kernel
theorem dX2_append_73 : decode cX2_append 73 = .ok (.getfield 27, 3) := by decide +kernel
theorem dX2_append_76 : decode cX2_append 76 = .ok (.aload_n 0, 1) := by decide +kernel
theorem dX2_append_77 : decode cX2_append 77 = .ok (.getfield 43, 3) := by decide +kernel
theorem dX2_append_80 : decode cX2_append 80 = .ok (.iload 6, 2) := by decide +kernel
theorem dX2_append_82 : decode cX2_append 82 = .ok (.iastore, 1) := by decide +kernel
theorem dX2_append_83 : decode cX2_append 83 = .ok (.aload_n 0, 1) := by decide +kernel
theorem dX2_append_84 : decode cX2_append 84 = .ok (.dup, 1) := by decide +kernel
theorem dX2_append_85 : decode cX2_append 85 = .ok (.getfield 43, 3) := by decide +kernel
theorem dX2_append_88 : decode cX2_append 88 = .ok (.iconst 1, 1) := by decide +kernel
theorem dX2_append_89 : decode cX2_append 89 = .ok (.iadd, 1) := by decide +kernel
theorem dX2_append_90 : decode cX2_append 90 = .ok (.putfield 43, 3) := by decide +kernel
theorem dX2_append_93 : decode cX2_append 93 = .ok (.aload_n 0, 1) := by decide +kernel
theorem dX2_append_94 : decode cX2_append 94 = .ok (.getfield 33, 3) := by decide +kernel
theorem dX2_append_97 : decode cX2_append 97 = .ok (.aload_n 0, 1) := by decide +kernel
theorem dX2_append_98 : decode cX2_append 98 = .ok (.getfield 43, 3) := by decide +kernel
theorem dX2_append_101 : decode cX2_append 101 = .ok (.iadd, 1) := by decide +kernel
theorem dX2_append_102 : decode cX2_append 102 = .ok (.iconst 1, 1) := by decide +kernel
theorem dX2_append_103 : decode cX2_append 103 = .ok (.isub, 1) := by decide +kernel
theorem dX2_append_104 : decode cX2_append 104 = .ok (.ireturn, 1) := by decide +kernel
theorem dX2_forceUpTo_0 : decode cX2_forceUpTo 0 = .ok (.iconst 0, 1) := by decide +kernel
theorem dX2_forceUpTo_1 : decode cX2_forceUpTo 1 = .ok (.iload_n 1, 1) := by decide +kernel
theorem dX2_forceUpTo_2 : decode cX2_forceUpTo 2 = .ok (.aload_n 0, 1) := by decide +kernel
theorem dX2_forceUpTo_3 : decode cX2_forceUpTo 3 = .ok (.getfield 46, 3) := by decide +kernel
theorem dX2_forceUpTo_6 : decode cX2_forceUpTo 6 = .ok (.isub, 1) := by decide +kernel
theorem dX2_forceUpTo_7 : decode cX2_forceUpTo 7 = .ok (.invokestatic 56, 3) := by decide +kernel
theorem dX2_forceUpTo_10 : decode cX2_forceUpTo 10 = .ok (.istore_n 2, 1) := by decide +kernel
theorem dX2_forceUpTo_11 : decode cX2_forceUpTo 11 = .ok (.aload_n 0, 1) := by decide +kernel
theorem dX2_forceUpTo_12 : decode cX2_forceUpTo 12 = .ok (.dup, 1) := by decide +kernel
theorem dX2_forceUpTo_13 : decode cX2_forceUpTo 13 = .ok (.getfield 46, 3) := by decide +kernel
theorem dX2_forceUpTo_16 : decode cX2_forceUpTo 16 = .ok (.iload_n 2, 1) := by decide +kernel
theorem dX2_forceUpTo_17 : decode cX2_forceUpTo 17 = .ok (.iadd, 1) := by decide +kernel
theorem dX2_forceUpTo_18 : decode cX2_forceUpTo 18 = .ok (.putfield 46, 3) := by decide +kernel
theorem dX2_forceUpTo_21 : decode cX2_forceUpTo 21 = .ok (.iload_n 2, 1) := by decide +kernel
theorem dX2_forceUpTo_22 : decode cX2_forceUpTo 22 = .ok (.ireturn, 1) := by decide +kernel
theorem dX2_appendCheckpoint_0 : decode cX2_appendCheckpoint 0 = .ok (.aload_n 0, 1) := by decide +kernel
theorem dX2_appendCheckpoint_1 : decode cX2_appendCheckpoint 1 = .ok (.iconst 5, 1) := by decide +kernel
theorem dX2_appendCheckpoint_2 : decode cX2_appendCheckpoint 2 = .ok (.ldc 55, 2) := by decide +kernel
theorem dX2_appendCheckpoint_4 : decode cX2_appendCheckpoint 4 = .ok (.ldc 55, 2) := by decide +kernel
theorem dX2_appendCheckpoint_6 : decode cX2_appendCheckpoint 6 = .ok (.aload_n 1, 1) := by decide +kernel
theorem dX2_appendCheckpoint_7 : decode cX2_appendCheckpoint 7 = .ok (.getfield 62, 3) := by decide +kernel
theorem dX2_appendCheckpoint_10 : decode cX2_appendCheckpoint 10 = .ok (.aload_n 2, 1) := by decide +kernel
theorem dX2_appendCheckpoint_11 : decode cX2_appendCheckpoint 11 = .ok (.getfield 67, 3) := by decide +kernel
theorem dX2_appendCheckpoint_14 : decode cX2_appendCheckpoint 14 = .ok (.iconst 0, 1) := by decide +kernel
theorem dX2_appendCheckpoint_15 : decode cX2_appendCheckpoint 15 = .ok (.invokevirtual 72, 3) := by decide +kernel
theorem dX2_appendCheckpoint_18 : decode cX2_appendCheckpoint 18 = .ok (.istore_n 3, 1) := by decide +kernel
theorem dX2_appendCheckpoint_19 : decode cX2_appendCheckpoint 19 = .ok (.aload_n 0, 1) := by decide +kernel
theorem dX2_appendCheckpoint_20 : decode cX2_appendCheckpoint 20 = .ok (.iload_n 3, 1) := by decide +kernel
theorem dX2_appendCheckpoint_21 : decode cX2_appendCheckpoint 21 = .ok (.putfield 49, 3) := by decide +kernel
theorem dX2_appendCheckpoint_24 : decode cX2_appendCheckpoint 24 = .ok (.aload_n 0, 1) := by decide +kernel
theorem dX2_appendCheckpoint_25 : decode cX2_appendCheckpoint 25 = .ok (.iload_n 3, 1) := by decide +kernel
theorem dX2_appendCheckpoint_26 : decode cX2_appendCheckpoint 26 = .ok (.putfield 52, 3) := by decide +kernel
theorem dX2_appendCheckpoint_29 : decode cX2_appendCheckpoint 29 = .ok (.iconst 0, 1) := by decide +kernel
theorem dX2_appendCheckpoint_30 : decode cX2_appendCheckpoint 30 = .ok (.istore 4, 2) := by decide +kernel
theorem dX2_appendCheckpoint_32 : decode cX2_appendCheckpoint 32 = .ok (.iload 4, 2) := by decide +kernel
theorem dX2_appendCheckpoint_34 : decode cX2_appendCheckpoint 34 = .ok (.iconst 4, 1) := by decide +kernel
theorem dX2_appendCheckpoint_35 : decode cX2_appendCheckpoint 35 = .ok (.if_icmp .ge 40, 3) := by decide +kernel
theorem dX2_appendCheckpoint_38 : decode cX2_appendCheckpoint 38 = .ok (.aload_n 1, 1) := by decide +kernel
theorem dX2_appendCheckpoint_39 : decode cX2_appendCheckpoint 39 = .ok (.getfield 62, 3) := by decide +kernel
theorem dX2_appendCheckpoint_42 : decode cX2_appendCheckpoint 42 = .ok (.iload 4, 2) := by decide +kernel
theorem dX2_appendCheckpoint_44 : decode cX2_appendCheckpoint 44 = .ok (.ishr, 1) := by decide +kernel
theorem dX2_appendCheckpoint_45 : decode cX2_appendCheckpoint 45 = .ok (.iconst 1, 1) := by decide +kernel
theorem dX2_appendCheckpoint_46 : decode cX2_appendCheckpoint 46 = .ok (.iand, 1) := by decide +kernel
theorem dX2_appendCheckpoint_47 : decode cX2_appendCheckpoint 47 = .ok (.iconst 1, 1) := by decide +kernel
theorem dX2_appendCheckpoint_48 : decode cX2_appendCheckpoint 48 = .ok (.if_icmp .ne 21, 3) := by decide +kernel
theorem dX2_appendCheckpoint_51 : decode cX2_appendCheckpoint 51 = .ok (.aload_n 0, 1) := by decide +kernel
theorem dX2_appendCheckpoint_52 : decode cX2_appendCheckpoint 52 = .ok (.aload_n 0, 1) := by decide +kernel
theorem dX2_appendCheckpoint_53 : decode cX2_appendCheckpoint 53 = .ok (.getfield 52, 3) := by decide +kernel
theorem dX2_appendCheckpoint_56 : decode cX2_appendCheckpoint 56 = .ok (.aload_n 1, 1) := by decide +kernel
theorem dX2_appendCheckpoint_57 : decode cX2_appendCheckpoint 57 = .ok (.getfield 76, 3) := by decide +kernel
theorem dX2_appendCheckpoint_60 : decode cX2_appendCheckpoint 60 = .ok (.iload 4, 2) := by decide +kernel
theorem dX2_appendCheckpoint_62 : decode cX2_appendCheckpoint 62 = .ok (.iaload, 1) := by decide +kernel
theorem dX2_appendCheckpoint_63 : decode cX2_appendCheckpoint 63 = .ok (.invokestatic 79, 3) := by decide +kernel
theorem dX2_appendCheckpoint_66 : decode cX2_appendCheckpoint 66 = .ok (.putfield 52, 3) := by decide +kernel
theorem dX2_appendCheckpoint_69 : decode cX2_appendCheckpoint 69 = .ok (.iinc 4 1, 3) := by decide +kernel
theorem dX2_appendCheckpoint_72 : decode cX2_appendCheckpoint 72 = .ok (.goto (-40), 3) := by decide +kernel
theorem dX2_appendCheckpoint_75 : decode cX2_appendCheckpoint 75 = .ok (.iconst 0, 1) := by decide +kernel
theorem dX2_appendCheckpoint_76 : decode cX2_appendCheckpoint 76 = .ok (.istore 4, 2) := by decide +kernel
theorem dX2_appendCheckpoint_78 : decode cX2_appendCheckpoint 78 = .ok (.iload 4, 2) := by decide +kernel
theorem dX2_appendCheckpoint_80 : decode cX2_appendCheckpoint 80 = .ok (.bipush 8, 2) := by decide +kernel
theorem dX2_appendCheckpoint_82 : decode cX2_appendCheckpoint 82 = .ok (.if_icmp .ge 75, 3) := by decide +kernel
theorem dX2_appendCheckpoint_85 : decode cX2_appendCheckpoint 85 = .ok (.aload_n 2, 1) := by decide +kernel
theorem dX2_appendCheckpoint_86 : decode cX2_appendCheckpoint 86 = .ok (.getfield 67, 3) := by decide +kernel
theorem dX2_appendCheckpoint_89 : decode cX2_appendCheckpoint 89 = .ok (.iload 4, 2) := by decide +kernel
theorem dX2_appendCheckpoint_91 : decode cX2_appendCheckpoint 91 = .ok (.ishr, 1) := by decide +kernel
theorem dX2_appendCheckpoint_92 : decode cX2_appendCheckpoint 92 = .ok (.iconst 1, 1) := by decide +kernel
theorem dX2_appendCheckpoint_93 : decode cX2_appendCheckpoint 93 = .ok (.iand, 1) := by decide +kernel
theorem dX2_appendCheckpoint_94 : decode cX2_appendCheckpoint 94 = .ok (.iconst 1, 1) := by decide +kernel
theorem dX2_appendCheckpoint_95 : decode cX2_appendCheckpoint 95 = .ok (.if_icmp .ne 7, 3) := by decide +kernel
theorem dX2_appendCheckpoint_98 : decode cX2_appendCheckpoint 98 = .ok (.iconst 1, 1) := by decide +kernel
theorem dX2_appendCheckpoint_99 : decode cX2_appendCheckpoint 99 = .ok (.goto 4, 3) := by decide +kernel
theorem dX2_appendCheckpoint_102 : decode cX2_appendCheckpoint 102 = .ok (.iconst 0, 1) := by decide +kernel
theorem dX2_appendCheckpoint_103 : decode cX2_appendCheckpoint 103 = .ok (.istore 5, 2) := by decide +kernel
theorem dX2_appendCheckpoint_105 : decode cX2_appendCheckpoint 105 = .ok (.aload_n 0, 1) := by decide +kernel
theorem dX2_appendCheckpoint_106 : decode cX2_appendCheckpoint 106 = .ok (.getfield 30, 3) := by decide +kernel
theorem dX2_appendCheckpoint_109 : decode cX2_appendCheckpoint 109 = .ok (.iload 4, 2) := by decide +kernel
theorem dX2_appendCheckpoint_111 : decode cX2_appendCheckpoint 111 = .ok (.iload 5, 2) := by decide +kernel
theorem dX2_appendCheckpoint_113 : decode cX2_appendCheckpoint 113 = .ok (.ifCond .eq 13, 3) := by decide +kernel
theorem dX2_appendCheckpoint_116 : decode cX2_appendCheckpoint 116 = .ok (.aload_n 2, 1) := by decide +kernel
theorem dX2_appendCheckpoint_117 : decode cX2_appendCheckpoint 117 = .ok (.getfield 82, 3) := by decide +kernel
theorem dX2_appendCheckpoint_120 : decode cX2_appendCheckpoint 120 = .ok (.iload 4, 2) := by decide +kernel
theorem dX2_appendCheckpoint_122 : decode cX2_appendCheckpoint 122 = .ok (.iaload, 1) := by decide +kernel
theorem dX2_appendCheckpoint_123 : decode cX2_appendCheckpoint 123 = .ok (.goto 4, 3) := by decide +kernel
theorem dX2_appendCheckpoint_126 : decode cX2_appendCheckpoint 126 = .ok (.iconst 0, 1) := by decide +kernel
theorem dX2_appendCheckpoint_127 : decode cX2_appendCheckpoint 127 = .ok (.iastore, 1) := by decide +kernel
theorem dX2_appendCheckpoint_128 : decode cX2_appendCheckpoint 128 = .ok (.iload 5, 2) := by decide +kernel
theorem dX2_appendCheckpoint_130 : decode cX2_appendCheckpoint 130 = .ok (.ifCond .eq 21, 3) := by decide +kernel
theorem dX2_appendCheckpoint_133 : decode cX2_appendCheckpoint 133 = .ok (.aload_n 0, 1) := by decide +kernel
theorem dX2_appendCheckpoint_134 : decode cX2_appendCheckpoint 134 = .ok (.aload_n 0, 1) := by decide +kernel
theorem dX2_appendCheckpoint_135 : decode cX2_appendCheckpoint 135 = .ok (.getfield 52, 3) := by decide +kernel
theorem dX2_appendCheckpoint_138 : decode cX2_appendCheckpoint 138 = .ok (.aload_n 2, 1) := by decide +kernel
theorem dX2_appendCheckpoint_139 : decode cX2_appendCheckpoint 139 = .ok (.getfield 82, 3) := by decide +kernel
theorem dX2_appendCheckpoint_142 : decode cX2_appendCheckpoint 142 = .ok (.iload 4, 2) := by decide +kernel
theorem dX2_appendCheckpoint_144 : decode cX2_appendCheckpoint 144 = .ok (.iaload, 1) := by decide +kernel
theorem dX2_appendCheckpoint_145 : decode cX2_appendCheckpoint 145 = .ok (.invokestatic 79, 3) := by decide +kernel
theorem dX2_appendCheckpoint_148 : decode cX2_appendCheckpoint 148 = .ok (.putfield 52, 3) := by decide +kernel
theorem dX2_appendCheckpoint_151 : decode cX2_appendCheckpoint 151 = .ok (.iinc 4 1, 3) := by decide +kernel
theorem dX2_appendCheckpoint_154 : decode cX2_appendCheckpoint 154 = .ok (.goto (-76), 3) := by decide +kernel
theorem dX2_appendCheckpoint_157 : decode cX2_appendCheckpoint 157 = .ok (.aload_n 0, 1) := by decide +kernel
theorem dX2_appendCheckpoint_158 : decode cX2_appendCheckpoint 158 = .ok (.iload_n 3, 1) := by decide +kernel
theorem dX2_appendCheckpoint_159 : decode cX2_appendCheckpoint 159 = .ok (.invokevirtual 85, 3) := by decide +kernel
theorem dX2_appendCheckpoint_162 : decode cX2_appendCheckpoint 162 = .ok (.pop, 1) := by decide +kernel
theorem dX2_appendCheckpoint_163 : decode cX2_appendCheckpoint 163 = .ok (.iload_n 3, 1) := by decide +kernel
theorem dX2_appendCheckpoint_164 : decode cX2_appendCheckpoint 164 = .ok (.ireturn, 1) := by decide +kernel
theorem dX2_droppable_0 : decode cX2_droppable 0 = .ok (.aload_n 0, 1) := by decide +kernel
theorem dX2_droppable_1 : decode cX2_droppable 1 = .ok (.getfield 49, 3) := by decide +kernel
theorem dX2_droppable_4 : decode cX2_droppable 4 = .ok (.ifCond .ne 7, 3) := by decide +kernel
theorem dX2_droppable_7 : decode cX2_droppable 7 = .ok (.iconst 0, 1) := by decide +kernel
theorem dX2_droppable_8 : decode cX2_droppable 8 = .ok (.goto 16, 3) := by decide +kernel
theorem dX2_droppable_11 : decode cX2_droppable 11 = .ok (.iconst 0, 1) := by decide +kernel
theorem dX2_droppable_12 : decode cX2_droppable 12 = .ok (.aload_n 0, 1) := by decide +kernel
theorem dX2_droppable_13 : decode cX2_droppable 13 = .ok (.getfield 52, 3) := by decide +kernel
theorem dX2_droppable_16 : decode cX2_droppable 16 = .ok (.aload_n 0, 1) := by decide +kernel
theorem dX2_droppable_17 : decode cX2_droppable 17 = .ok (.getfield 33, 3) := by decide +kernel
theorem dX2_droppable_20 : decode cX2_droppable 20 = .ok (.isub, 1) := by decide +kernel
theorem dX2_droppable_21 : decode cX2_droppable 21 = .ok (.invokestatic 56, 3) := by decide +kernel
theorem dX2_droppable_24 : decode cX2_droppable 24 = .ok (.ireturn, 1) := by decide +kernel
theorem dX2_dropFirst_0 : decode cX2_dropFirst 0 = .ok (.aload_n 0, 1) := by decide +kernel
theorem dX2_dropFirst_1 : decode cX2_dropFirst 1 = .ok (.invokevirtual 89, 3) := by decide +kernel
theorem dX2_dropFirst_4 : decode cX2_dropFirst 4 = .ok (.istore_n 1, 1) := by decide +kernel
theorem dX2_dropFirst_5 : decode cX2_dropFirst 5 = .ok (.aload_n 0, 1) := by decide +kernel
theorem dX2_dropFirst_6 : decode cX2_dropFirst 6 = .ok (.getfield 43, 3) := by decide +kernel
theorem dX2_dropFirst_9 : decode cX2_dropFirst 9 = .ok (.iload_n 1, 1) := by decide +kernel
theorem dX2_dropFirst_10 : decode cX2_dropFirst 10 = .ok (.isub, 1) := by decide +kernel
theorem dX2_dropFirst_11 : decode cX2_dropFirst 11 = .ok (.istore_n 2, 1) := by decide +kernel
theorem dX2_dropFirst_12 : decode cX2_dropFirst 12 = .ok (.iload_n 1, 1) := by decide +kernel
theorem dX2_dropFirst_13 : decode cX2_dropFirst 13 = .ok (.ifCond .le 17, 3) := by decide +kernel
theorem dX2_dropFirst_16 : decode cX2_dropFirst 16 = .ok (.iload_n 2, 1) := by decide +kernel
theorem dX2_dropFirst_17 : decode cX2_dropFirst 17 = .ok (.ifCond .lt 13, 3) := by decide +kernel
theorem dX2_dropFirst_20 : decode cX2_dropFirst 20 = .ok (.aload_n 0, 1) := by decide +kernel
theorem dX2_dropFirst_21 : decode cX2_dropFirst 21 = .ok (.getfield 43, 3) := by decide +kernel
theorem dX2_dropFirst_24 : decode cX2_dropFirst 24 = .ok (.sipush 128, 3) := by decide +kernel
theorem dX2_dropFirst_27 : decode cX2_dropFirst 27 = .ok (.if_icmp .le 5, 3) := by decide +kernel
theorem dX2_dropFirst_30 : decode cX2_dropFirst 30 = .ok (.iconst 0, 1) := by decide +kernel
theorem dX2_dropFirst_31 : decode cX2_dropFirst 31 = .ok (.ireturn, 1) := by decide +kernel
theorem dX2_dropFirst_32 : decode cX2_dropFirst 32 = .ok (.aload_n 0, 1) := by decide +kernel
theorem dX2_dropFirst_33 : decode cX2_dropFirst 33 = .ok (.getfield 9, 3) := by decide +kernel
theorem dX2_dropFirst_36 : decode cX2_dropFirst 36 = .ok (.iload_n 1, 1) := by decide +kernel
theorem dX2_dropFirst_37 : decode cX2_dropFirst 37 = .ok (.aload_n 0, 1) := by decide +kernel
theorem dX2_dropFirst_38 : decode cX2_dropFirst 38 = .ok (.getfield 9, 3) := by decide +kernel
theorem dX2_dropFirst_41 : decode cX2_dropFirst 41 = .ok (.iconst 0, 1) := by decide +kernel
theorem dX2_dropFirst_42 : decode cX2_dropFirst 42 = .ok (.iload_n 2, 1) := by decide +kernel
theorem dX2_dropFirst_43 : decode cX2_dropFirst 43 = .ok (.invokestatic 37, 3) := by decide +kernel
theorem dX2_dropFirst_46 : decode cX2_dropFirst 46 = .ok (.aload_n 0, 1) := by decide +kernel
theorem dX2_dropFirst_47 : decode cX2_dropFirst 47 = .ok (.getfield 15, 3) := by decide +kernel
theorem dX2_dropFirst_50 : decode cX2_dropFirst 50 = .ok (.iload_n 1, 1) := by decide +kernel
theorem dX2_dropFirst_51 : decode cX2_dropFirst 51 = .ok (.aload_n 0, 1) := by decide +kernel
theorem dX2_dropFirst_52 : decode cX2_dropFirst 52 = .ok (.getfield 15, 3) := by decide +kernel
theorem dX2_dropFirst_55 : decode cX2_dropFirst 55 = .ok (.iconst 0, 1) := by decide +kernel
theorem dX2_dropFirst_56 : decode cX2_dropFirst 56 = .ok (.iload_n 2, 1) := by decide +kernel
theorem dX2_dropFirst_57 : decode cX2_dropFirst 57 = .ok (.invokestatic 37, 3) := by decide +kernel
theorem dX2_dropFirst_60 : decode cX2_dropFirst 60 = .ok (.aload_n 0, 1) := by decide +kernel
theorem dX2_dropFirst_61 : decode cX2_dropFirst 61 = .ok (.getfield 18, 3) := by decide +kernel
theorem dX2_dropFirst_64 : decode cX2_dropFirst 64 = .ok (.iload_n 1, 1) := by decide +kernel
theorem dX2_dropFirst_65 : decode cX2_dropFirst 65 = .ok (.aload_n 0, 1) := by decide +kernel
theorem dX2_dropFirst_66 : decode cX2_dropFirst 66 = .ok (.getfield 18, 3) := by decide +kernel
theorem dX2_dropFirst_69 : decode cX2_dropFirst 69 = .ok (.iconst 0, 1) := by decide +kernel
theorem dX2_dropFirst_70 : decode cX2_dropFirst 70 = .ok (.iload_n 2, 1) := by decide +kernel
theorem dX2_dropFirst_71 : decode cX2_dropFirst 71 = .ok (.invokestatic 37, 3) := by decide +kernel
theorem dX2_dropFirst_74 : decode cX2_dropFirst 74 = .ok (.aload_n 0, 1) := by decide +kernel
theorem dX2_dropFirst_75 : decode cX2_dropFirst 75 = .ok (.getfield 21, 3) := by decide +kernel
theorem dX2_dropFirst_78 : decode cX2_dropFirst 78 = .ok (.iload_n 1, 1) := by decide +kernel
theorem dX2_dropFirst_79 : decode cX2_dropFirst 79 = .ok (.aload_n 0, 1) := by decide +kernel
theorem dX2_dropFirst_80 : decode cX2_dropFirst 80 = .ok (.getfield 21, 3) := by decide +kernel
theorem dX2_dropFirst_83 : decode cX2_dropFirst 83 = .ok (.iconst 0, 1) := by decide +kernel
theorem dX2_dropFirst_84 : decode cX2_dropFirst 84 = .ok (.iload_n 2, 1) := by decide +kernel
theorem dX2_dropFirst_85 : decode cX2_dropFirst 85 = .ok (.invokestatic 37, 3) := by decide +kernel
theorem dX2_dropFirst_88 : decode cX2_dropFirst 88 = .ok (.aload_n 0, 1) := by decide +kernel
theorem dX2_dropFirst_89 : decode cX2_dropFirst 89 = .ok (.getfield 24, 3) := by decide +kernel
theorem dX2_dropFirst_92 : decode cX2_dropFirst 92 = .ok (.iload_n 1, 1) := by decide +kernel
theorem dX2_dropFirst_93 : decode cX2_dropFirst 93 = .ok (.aload_n 0, 1) := by decide +kernel
theorem dX2_dropFirst_94 : decode cX2_dropFirst 94 = .ok (.getfield 24, 3) := by decide +kernel
theorem dX2_dropFirst_97 : decode cX2_dropFirst 97 = .ok (.iconst 0, 1) := by decide +kernel
theorem dX2_dropFirst_98 : decode cX2_dropFirst 98 = .ok (.iload_n 2, 1) := by decide +kernel
theorem dX2_dropFirst_99 : decode cX2_dropFirst 99 = .ok (.invokestatic 37, 3) := by decide +kernel
theorem dX2_dropFirst_102 : decode cX2_dropFirst 102 = .ok (.aload_n 0, 1) := by decide +kernel
theorem dX2_dropFirst_103 : decode cX2_dropFirst 103 = .ok (.getfield 27, 3) := by decide +kernel
theorem dX2_dropFirst_106 : decode cX2_dropFirst 106 = .ok (.iload_n 1, 1) := by decide +kernel
theorem dX2_dropFirst_107 : decode cX2_dropFirst 107 = .ok (.aload_n 0, 1) := by decide +kernel
theorem dX2_dropFirst_108 : decode cX2_dropFirst 108 = .ok (.getfield 27, 3) := by decide +kernel
theorem dX2_dropFirst_111 : decode cX2_dropFirst 111 = .ok (.iconst 0, 1) := by decide +kernel
theorem dX2_dropFirst_112 : decode cX2_dropFirst 112 = .ok (.iload_n 2, 1) := by decide +kernel
theorem dX2_dropFirst_113 : decode cX2_dropFirst 113 = .ok (.invokestatic 37, 3) := by decide +kernel
theorem dX2_dropFirst_116 : decode cX2_dropFirst 116 = .ok (.aload_n 0, 1) := by decide +kernel
theorem dX2_dropFirst_117 : decode cX2_dropFirst 117 = .ok (.iload_n 2, 1) := by decide +kernel
theorem dX2_dropFirst_118 : decode cX2_dropFirst 118 = .ok (.putfield 43, 3) := by decide +kernel
theorem dX2_dropFirst_121 : decode cX2_dropFirst 121 = .ok (.aload_n 0, 1) := by decide +kernel
theorem dX2_dropFirst_122 : decode cX2_dropFirst 122 = .ok (.dup, 1) := by decide +kernel
theorem dX2_dropFirst_123 : decode cX2_dropFirst 123 = .ok (.getfield 33, 3) := by decide +kernel
theorem dX2_dropFirst_126 : decode cX2_dropFirst 126 = .ok (.iload_n 1, 1) := by decide +kernel
theorem dX2_dropFirst_127 : decode cX2_dropFirst 127 = .ok (.iadd, 1) := by decide +kernel
theorem dX2_dropFirst_128 : decode cX2_dropFirst 128 = .ok (.putfield 33, 3) := by decide +kernel
theorem dX2_dropFirst_131 : decode cX2_dropFirst 131 = .ok (.iload_n 1, 1) := by decide +kernel
theorem dX2_dropFirst_132 : decode cX2_dropFirst 132 = .ok (.ireturn, 1) := by decide +kernel
theorem dX2_loseRecords_0 : decode cX2_loseRecords 0 = .ok (.aload_n 0, 1) := by decide +kernel
theorem dX2_loseRecords_1 : decode cX2_loseRecords 1 = .ok (.getfield 43, 3) := by decide +kernel
theorem dX2_loseRecords_4 : decode cX2_loseRecords 4 = .ok (.istore_n 3, 1) := by decide +kernel
theorem dX2_loseRecords_5 : decode cX2_loseRecords 5 = .ok (.aload_n 0, 1) := by decide +kernel
theorem dX2_loseRecords_6 : decode cX2_loseRecords 6 = .ok (.invokevirtual 93, 3) := by decide +kernel
theorem dX2_loseRecords_9 : decode cX2_loseRecords 9 = .ok (.aload_n 0, 1) := by decide +kernel
theorem dX2_loseRecords_10 : decode cX2_loseRecords 10 = .ok (.getfield 46, 3) := by decide +kernel
theorem dX2_loseRecords_13 : decode cX2_loseRecords 13 = .ok (.invokestatic 79, 3) := by decide +kernel
theorem dX2_loseRecords_16 : decode cX2_loseRecords 16 = .ok (.istore 4, 2) := by decide +kernel
theorem dX2_loseRecords_18 : decode cX2_loseRecords 18 = .ok (.iload_n 1, 1) := by decide +kernel
theorem dX2_loseRecords_19 : decode cX2_loseRecords 19 = .ok (.ifCond .eq 45, 3) := by decide +kernel
theorem dX2_loseRecords_22 : decode cX2_loseRecords 22 = .ok (.aload_n 0, 1) := by decide +kernel
theorem dX2_loseRecords_23 : decode cX2_loseRecords 23 = .ok (.iload 4, 2) := by decide +kernel
theorem dX2_loseRecords_25 : decode cX2_loseRecords 25 = .ok (.invokevirtual 96, 3) := by decide +kernel
theorem dX2_loseRecords_28 : decode cX2_loseRecords 28 = .ok (.ifCond .eq 36, 3) := by decide +kernel
theorem dX2_loseRecords_31 : decode cX2_loseRecords 31 = .ok (.iload 4, 2) := by decide +kernel
theorem dX2_loseRecords_33 : decode cX2_loseRecords 33 = .ok (.iload_n 2, 1) := by decide +kernel
theorem dX2_loseRecords_34 : decode cX2_loseRecords 34 = .ok (.if_icmp .le 30, 3) := by decide +kernel
theorem dX2_loseRecords_37 : decode cX2_loseRecords 37 = .ok (.aload_n 0, 1) := by decide +kernel
theorem dX2_loseRecords_38 : decode cX2_loseRecords 38 = .ok (.aload_n 0, 1) := by decide +kernel
theorem dX2_loseRecords_39 : decode cX2_loseRecords 39 = .ok (.getfield 9, 3) := by decide +kernel
theorem dX2_loseRecords_42 : decode cX2_loseRecords 42 = .ok (.iload 4, 2) := by decide +kernel
theorem dX2_loseRecords_44 : decode cX2_loseRecords 44 = .ok (.invokevirtual 100, 3) := by decide +kernel
theorem dX2_loseRecords_47 : decode cX2_loseRecords 47 = .ok (.istore 5, 2) := by decide +kernel
theorem dX2_loseRecords_49 : decode cX2_loseRecords 49 = .ok (.iload 5, 2) := by decide +kernel
theorem dX2_loseRecords_51 : decode cX2_loseRecords 51 = .ok (.iconst 2, 1) := by decide +kernel
theorem dX2_loseRecords_52 : decode cX2_loseRecords 52 = .ok (.if_icmp .eq 12, 3) := by decide +kernel
theorem dX2_loseRecords_55 : decode cX2_loseRecords 55 = .ok (.iload 5, 2) := by decide +kernel
theorem dX2_loseRecords_57 : decode cX2_loseRecords 57 = .ok (.iconst 5, 1) := by decide +kernel
theorem dX2_loseRecords_58 : decode cX2_loseRecords 58 = .ok (.if_icmp .eq 6, 3) := by decide +kernel
theorem dX2_loseRecords_61 : decode cX2_loseRecords 61 = .ok (.iinc 4 (-1), 3) := by decide +kernel
theorem dX2_loseRecords_64 : decode cX2_loseRecords 64 = .ok (.aload_n 0, 1) := by decide +kernel
theorem dX2_loseRecords_65 : decode cX2_loseRecords 65 = .ok (.iconst 0, 1) := by decide +kernel
theorem dX2_loseRecords_66 : decode cX2_loseRecords 66 = .ok (.iload 4, 2) := by decide +kernel
theorem dX2_loseRecords_68 : decode cX2_loseRecords 68 = .ok (.aload_n 0, 1) := by decide +kernel
theorem dX2_loseRecords_69 : decode cX2_loseRecords 69 = .ok (.getfield 33, 3) := by decide +kernel
theorem dX2_loseRecords_72 : decode cX2_loseRecords 72 = .ok (.isub, 1) := by decide +kernel
theorem dX2_loseRecords_73 : decode cX2_loseRecords 73 = .ok (.iconst 1, 1) := by decide +kernel
theorem dX2_loseRecords_74 : decode cX2_loseRecords 74 = .ok (.iadd, 1) := by decide +kernel
theorem dX2_loseRecords_75 : decode cX2_loseRecords 75 = .ok (.invokestatic 56, 3) := by decide +kernel
theorem dX2_loseRecords_78 : decode cX2_loseRecords 78 = .ok (.putfield 43, 3) := by decide +kernel
theorem dX2_loseRecords_81 : decode cX2_loseRecords 81 = .ok (.aload_n 0, 1) := by decide +kernel
theorem dX2_loseRecords_82 : decode cX2_loseRecords 82 = .ok (.iload 4, 2) := by decide +kernel
theorem dX2_loseRecords_84 : decode cX2_loseRecords 84 = .ok (.putfield 46, 3) := by decide +kernel
theorem dX2_loseRecords_87 : decode cX2_loseRecords 87 = .ok (.iload_n 3, 1) := by decide +kernel
theorem dX2_loseRecords_88 : decode cX2_loseRecords 88 = .ok (.aload_n 0, 1) := by decide +kernel
theorem dX2_loseRecords_89 : decode cX2_loseRecords 89 = .ok (.getfield 43, 3) := by decide +kernel
theorem dX2_loseRecords_92 : decode cX2_loseRecords 92 = .ok (.isub, 1) := by decide +kernel
theorem dX2_loseRecords_93 : decode cX2_loseRecords 93 = .ok (.ireturn, 1) := by decide +kernel
theorem dX2_settledValueOf_0 : decode cX2_settledValueOf 0 = .ok (.iconst 0, 1) := by decide +kernel
theorem dX2_settledValueOf_1 : decode cX2_settledValueOf 1 = .ok (.istore_n 2, 1) := by decide +kernel
theorem dX2_settledValueOf_2 : decode cX2_settledValueOf 2 = .ok (.aload_n 0, 1) := by decide +kernel
theorem dX2_settledValueOf_3 : decode cX2_settledValueOf 3 = .ok (.getfield 43, 3) := by decide +kernel
theorem dX2_settledValueOf_6 : decode cX2_settledValueOf 6 = .ok (.sipush 128, 3) := by decide +kernel
theorem dX2_settledValueOf_9 : decode cX2_settledValueOf 9 = .ok (.invokestatic 79, 3) := by decide +kernel
theorem dX2_settledValueOf_12 : decode cX2_settledValueOf 12 = .ok (.iconst 1, 1) := by decide +kernel
theorem dX2_settledValueOf_13 : decode cX2_settledValueOf 13 = .ok (.isub, 1) := by decide +kernel
theorem dX2_settledValueOf_14 : decode cX2_settledValueOf 14 = .ok (.istore_n 3, 1) := by decide +kernel
theorem dX2_settledValueOf_15 : decode cX2_settledValueOf 15 = .ok (.iload_n 3, 1) := by decide +kernel
theorem dX2_settledValueOf_16 : decode cX2_settledValueOf 16 = .ok (.ifCond .lt 116, 3) := by decide +kernel
theorem dX2_settledValueOf_19 : decode cX2_settledValueOf 19 = .ok (.aload_n 0, 1) := by decide +kernel
theorem dX2_settledValueOf_20 : decode cX2_settledValueOf 20 = .ok (.getfield 15, 3) := by decide +kernel
theorem dX2_settledValueOf_23 : decode cX2_settledValueOf 23 = .ok (.iload_n 3, 1) := by decide +kernel
theorem dX2_settledValueOf_24 : decode cX2_settledValueOf 24 = .ok (.iaload, 1) := by decide +kernel
theorem dX2_settledValueOf_25 : decode cX2_settledValueOf 25 = .ok (.ifCond .lt 24, 3) := by decide +kernel
theorem dX2_settledValueOf_28 : decode cX2_settledValueOf 28 = .ok (.aload_n 0, 1) := by decide +kernel
theorem dX2_settledValueOf_29 : decode cX2_settledValueOf 29 = .ok (.getfield 15, 3) := by decide +kernel
theorem dX2_settledValueOf_32 : decode cX2_settledValueOf 32 = .ok (.iload_n 3, 1) := by decide +kernel
theorem dX2_settledValueOf_33 : decode cX2_settledValueOf 33 = .ok (.iaload, 1) := by decide +kernel
theorem dX2_settledValueOf_34 : decode cX2_settledValueOf 34 = .ok (.iconst 4, 1) := by decide +kernel
theorem dX2_settledValueOf_35 : decode cX2_settledValueOf 35 = .ok (.if_icmp .ge 14, 3) := by decide +kernel
theorem dX2_settledValueOf_38 : decode cX2_settledValueOf 38 = .ok (.iconst 1, 1) := by decide +kernel
theorem dX2_settledValueOf_39 : decode cX2_settledValueOf 39 = .ok (.aload_n 0, 1) := by decide +kernel
theorem dX2_settledValueOf_40 : decode cX2_settledValueOf 40 = .ok (.getfield 15, 3) := by decide +kernel
theorem dX2_settledValueOf_43 : decode cX2_settledValueOf 43 = .ok (.iload_n 3, 1) := by decide +kernel
theorem dX2_settledValueOf_44 : decode cX2_settledValueOf 44 = .ok (.iaload, 1) := by decide +kernel
theorem dX2_settledValueOf_45 : decode cX2_settledValueOf 45 = .ok (.ishl, 1) := by decide +kernel
theorem dX2_settledValueOf_46 : decode cX2_settledValueOf 46 = .ok (.goto 4, 3) := by decide +kernel
theorem dX2_settledValueOf_49 : decode cX2_settledValueOf 49 = .ok (.iconst 0, 1) := by decide +kernel
theorem dX2_settledValueOf_50 : decode cX2_settledValueOf 50 = .ok (.istore 4, 2) := by decide +kernel
theorem dX2_settledValueOf_52 : decode cX2_settledValueOf 52 = .ok (.aload_n 0, 1) := by decide +kernel
theorem dX2_settledValueOf_53 : decode cX2_settledValueOf 53 = .ok (.getfield 9, 3) := by decide +kernel
theorem dX2_settledValueOf_56 : decode cX2_settledValueOf 56 = .ok (.iload_n 3, 1) := by decide +kernel
theorem dX2_settledValueOf_57 : decode cX2_settledValueOf 57 = .ok (.iaload, 1) := by decide +kernel
theorem dX2_settledValueOf_58 : decode cX2_settledValueOf 58 = .ok (.tableswitch 68 0 2 #[34, 44, 26], 26) := by decide +kernel
theorem dX2_settledValueOf_84 : decode cX2_settledValueOf 84 = .ok (.iload_n 2, 1) := by decide +kernel
theorem dX2_settledValueOf_85 : decode cX2_settledValueOf 85 = .ok (.iload 4, 2) := by decide +kernel
theorem dX2_settledValueOf_87 : decode cX2_settledValueOf 87 = .ok (.ior, 1) := by decide +kernel
theorem dX2_settledValueOf_88 : decode cX2_settledValueOf 88 = .ok (.istore_n 2, 1) := by decide +kernel
theorem dX2_settledValueOf_89 : decode cX2_settledValueOf 89 = .ok (.goto 37, 3) := by decide +kernel
theorem dX2_settledValueOf_92 : decode cX2_settledValueOf 92 = .ok (.iload_n 2, 1) := by decide +kernel
theorem dX2_settledValueOf_93 : decode cX2_settledValueOf 93 = .ok (.iload 4, 2) := by decide +kernel
theorem dX2_settledValueOf_95 : decode cX2_settledValueOf 95 = .ok (.iconst (-1), 1) := by decide +kernel
theorem dX2_settledValueOf_96 : decode cX2_settledValueOf 96 = .ok (.ixor, 1) := by decide +kernel
theorem dX2_settledValueOf_97 : decode cX2_settledValueOf 97 = .ok (.iand, 1) := by decide +kernel
theorem dX2_settledValueOf_98 : decode cX2_settledValueOf 98 = .ok (.istore_n 2, 1) := by decide +kernel
theorem dX2_settledValueOf_99 : decode cX2_settledValueOf 99 = .ok (.goto 27, 3) := by decide +kernel
theorem dX2_settledValueOf_102 : decode cX2_settledValueOf 102 = .ok (.aload_n 0, 1) := by decide +kernel
theorem dX2_settledValueOf_103 : decode cX2_settledValueOf 103 = .ok (.getfield 18, 3) := by decide +kernel
theorem dX2_settledValueOf_106 : decode cX2_settledValueOf 106 = .ok (.iload_n 3, 1) := by decide +kernel
theorem dX2_settledValueOf_107 : decode cX2_settledValueOf 107 = .ok (.iaload, 1) := by decide +kernel
theorem dX2_settledValueOf_108 : decode cX2_settledValueOf 108 = .ok (.iload_n 1, 1) := by decide +kernel
theorem dX2_settledValueOf_109 : decode cX2_settledValueOf 109 = .ok (.if_icmp .ne 17, 3) := by decide +kernel
theorem dX2_settledValueOf_112 : decode cX2_settledValueOf 112 = .ok (.iload_n 2, 1) := by decide +kernel
theorem dX2_settledValueOf_113 : decode cX2_settledValueOf 113 = .ok (.iload 4, 2) := by decide +kernel
theorem dX2_settledValueOf_115 : decode cX2_settledValueOf 115 = .ok (.iand, 1) := by decide +kernel
theorem dX2_settledValueOf_116 : decode cX2_settledValueOf 116 = .ok (.ifCond .eq 10, 3) := by decide +kernel
theorem dX2_settledValueOf_119 : decode cX2_settledValueOf 119 = .ok (.aload_n 0, 1) := by decide +kernel
theorem dX2_settledValueOf_120 : decode cX2_settledValueOf 120 = .ok (.getfield 24, 3) := by decide +kernel
theorem dX2_settledValueOf_123 : decode cX2_settledValueOf 123 = .ok (.iload_n 3, 1) := by decide +kernel
theorem dX2_settledValueOf_124 : decode cX2_settledValueOf 124 = .ok (.iaload, 1) := by decide +kernel
theorem dX2_settledValueOf_125 : decode cX2_settledValueOf 125 = .ok (.ireturn, 1) := by decide +kernel
theorem dX2_settledValueOf_126 : decode cX2_settledValueOf 126 = .ok (.iinc 3 (-1), 3) := by decide +kernel
theorem dX2_settledValueOf_129 : decode cX2_settledValueOf 129 = .ok (.goto (-114), 3) := by decide +kernel
theorem dX2_settledValueOf_132 : decode cX2_settledValueOf 132 = .ok (.ldc 55, 2) := by decide +kernel
theorem dX2_settledValueOf_134 : decode cX2_settledValueOf 134 = .ok (.ireturn, 1) := by decide +kernel
theorem dX2_tell_0 : decode cX2_tell 0 = .ok (.aload_n 0, 1) := by decide +kernel
theorem dX2_tell_1 : decode cX2_tell 1 = .ok (.iload_n 1, 1) := by decide +kernel
theorem dX2_tell_2 : decode cX2_tell 2 = .ok (.invokevirtual 96, 3) := by decide +kernel
theorem dX2_tell_5 : decode cX2_tell 5 = .ok (.ifCond .ne 6, 3) := by decide +kernel
theorem dX2_tell_8 : decode cX2_tell 8 = .ok (.ldc 55, 2) := by decide +kernel
theorem dX2_tell_10 : decode cX2_tell 10 = .ok (.ireturn, 1) := by decide +kernel
theorem dX2_tell_11 : decode cX2_tell 11 = .ok (.aload_n 0, 1) := by decide +kernel
theorem dX2_tell_12 : decode cX2_tell 12 = .ok (.aload_n 0, 1) := by decide +kernel
theorem dX2_tell_13 : decode cX2_tell 13 = .ok (.getfield 9, 3) := by decide +kernel
theorem dX2_tell_16 : decode cX2_tell 16 = .ok (.iload_n 1, 1) := by decide +kernel
theorem dX2_tell_17 : decode cX2_tell 17 = .ok (.invokevirtual 100, 3) := by decide +kernel
theorem dX2_tell_20 : decode cX2_tell 20 = .ok (.istore_n 3, 1) := by decide +kernel
theorem dX2_tell_21 : decode cX2_tell 21 = .ok (.iload_n 3, 1) := by decide +kernel
theorem dX2_tell_22 : decode cX2_tell 22 = .ok (.iconst 1, 1) := by decide +kernel
theorem dX2_tell_23 : decode cX2_tell 23 = .ok (.if_icmp .eq 8, 3) := by decide +kernel
theorem dX2_tell_26 : decode cX2_tell 26 = .ok (.iload_n 3, 1) := by decide +kernel
theorem dX2_tell_27 : decode cX2_tell 27 = .ok (.iconst 3, 1) := by decide +kernel
theorem dX2_tell_28 : decode cX2_tell 28 = .ok (.if_icmp .ne 7, 3) := by decide +kernel
theorem dX2_tell_31 : decode cX2_tell 31 = .ok (.iconst 1, 1) := by decide +kernel
theorem dX2_tell_32 : decode cX2_tell 32 = .ok (.goto 4, 3) := by decide +kernel
theorem dX2_tell_35 : decode cX2_tell 35 = .ok (.iconst 0, 1) := by decide +kernel
theorem dX2_tell_36 : decode cX2_tell 36 = .ok (.istore 4, 2) := by decide +kernel
theorem dX2_tell_38 : decode cX2_tell 38 = .ok (.iload_n 2, 1) := by decide +kernel
theorem dX2_tell_39 : decode cX2_tell 39 = .ok (.tableswitch 161 0 7 #[45, 47, 57, 67, 87, 107, 121, 141], 45) := by decide +kernel
theorem dX2_tell_84 : decode cX2_tell 84 = .ok (.iload_n 3, 1) := by decide +kernel
theorem dX2_tell_85 : decode cX2_tell 85 = .ok (.ireturn, 1) := by decide +kernel
theorem dX2_tell_86 : decode cX2_tell 86 = .ok (.aload_n 0, 1) := by decide +kernel
theorem dX2_tell_87 : decode cX2_tell 87 = .ok (.aload_n 0, 1) := by decide +kernel
theorem dX2_tell_88 : decode cX2_tell 88 = .ok (.getfield 15, 3) := by decide +kernel
theorem dX2_tell_91 : decode cX2_tell 91 = .ok (.iload_n 1, 1) := by decide +kernel
theorem dX2_tell_92 : decode cX2_tell 92 = .ok (.invokevirtual 100, 3) := by decide +kernel
theorem dX2_tell_95 : decode cX2_tell 95 = .ok (.ireturn, 1) := by decide +kernel
theorem dX2_tell_96 : decode cX2_tell 96 = .ok (.aload_n 0, 1) := by decide +kernel
theorem dX2_tell_97 : decode cX2_tell 97 = .ok (.aload_n 0, 1) := by decide +kernel
theorem dX2_tell_98 : decode cX2_tell 98 = .ok (.getfield 18, 3) := by decide +kernel
theorem dX2_tell_101 : decode cX2_tell 101 = .ok (.iload_n 1, 1) := by decide +kernel
theorem dX2_tell_102 : decode cX2_tell 102 = .ok (.invokevirtual 100, 3) := by decide +kernel
theorem dX2_tell_105 : decode cX2_tell 105 = .ok (.ireturn, 1) := by decide +kernel
theorem dX2_tell_106 : decode cX2_tell 106 = .ok (.iload 4, 2) := by decide +kernel
theorem dX2_tell_108 : decode cX2_tell 108 = .ok (.ifCond .eq 15, 3) := by decide +kernel
theorem dX2_tell_111 : decode cX2_tell 111 = .ok (.aload_n 0, 1) := by decide +kernel
theorem dX2_tell_112 : decode cX2_tell 112 = .ok (.aload_n 0, 1) := by decide +kernel
theorem dX2_tell_113 : decode cX2_tell 113 = .ok (.getfield 21, 3) := by decide +kernel
theorem dX2_tell_116 : decode cX2_tell 116 = .ok (.iload_n 1, 1) := by decide +kernel
theorem dX2_tell_117 : decode cX2_tell 117 = .ok (.invokevirtual 100, 3) := by decide +kernel
theorem dX2_tell_120 : decode cX2_tell 120 = .ok (.goto 5, 3) := by decide +kernel
theorem dX2_tell_123 : decode cX2_tell 123 = .ok (.ldc 55, 2) := by decide +kernel
theorem dX2_tell_125 : decode cX2_tell 125 = .ok (.ireturn, 1) := by decide +kernel
theorem dX2_tell_126 : decode cX2_tell 126 = .ok (.iload 4, 2) := by decide +kernel
theorem dX2_tell_128 : decode cX2_tell 128 = .ok (.ifCond .eq 15, 3) := by decide +kernel
theorem dX2_tell_131 : decode cX2_tell 131 = .ok (.aload_n 0, 1) := by decide +kernel
theorem dX2_tell_132 : decode cX2_tell 132 = .ok (.aload_n 0, 1) := by decide +kernel
theorem dX2_tell_133 : decode cX2_tell 133 = .ok (.getfield 24, 3) := by decide +kernel
theorem dX2_tell_136 : decode cX2_tell 136 = .ok (.iload_n 1, 1) := by decide +kernel
theorem dX2_tell_137 : decode cX2_tell 137 = .ok (.invokevirtual 100, 3) := by decide +kernel
theorem dX2_tell_140 : decode cX2_tell 140 = .ok (.goto 5, 3) := by decide +kernel
theorem dX2_tell_143 : decode cX2_tell 143 = .ok (.ldc 55, 2) := by decide +kernel
theorem dX2_tell_145 : decode cX2_tell 145 = .ok (.ireturn, 1) := by decide +kernel
theorem dX2_tell_146 : decode cX2_tell 146 = .ok (.iload_n 1, 1) := by decide +kernel
theorem dX2_tell_147 : decode cX2_tell 147 = .ok (.aload_n 0, 1) := by decide +kernel
theorem dX2_tell_148 : decode cX2_tell 148 = .ok (.getfield 46, 3) := by decide +kernel
theorem dX2_tell_151 : decode cX2_tell 151 = .ok (.if_icmp .gt 7, 3) := by decide +kernel
theorem dX2_tell_154 : decode cX2_tell 154 = .ok (.iconst 1, 1) := by decide +kernel
theorem dX2_tell_155 : decode cX2_tell 155 = .ok (.goto 4, 3) := by decide +kernel
theorem dX2_tell_158 : decode cX2_tell 158 = .ok (.iconst 0, 1) := by decide +kernel
theorem dX2_tell_159 : decode cX2_tell 159 = .ok (.ireturn, 1) := by decide +kernel
theorem dX2_tell_160 : decode cX2_tell 160 = .ok (.iload_n 3, 1) := by decide +kernel
theorem dX2_tell_161 : decode cX2_tell 161 = .ok (.iconst 5, 1) := by decide +kernel
theorem dX2_tell_162 : decode cX2_tell 162 = .ok (.if_icmp .ne 15, 3) := by decide +kernel
theorem dX2_tell_165 : decode cX2_tell 165 = .ok (.aload_n 0, 1) := by decide +kernel
theorem dX2_tell_166 : decode cX2_tell 166 = .ok (.aload_n 0, 1) := by decide +kernel
theorem dX2_tell_167 : decode cX2_tell 167 = .ok (.getfield 21, 3) := by decide +kernel
theorem dX2_tell_170 : decode cX2_tell 170 = .ok (.iload_n 1, 1) := by decide +kernel
theorem dX2_tell_171 : decode cX2_tell 171 = .ok (.invokevirtual 100, 3) := by decide +kernel
theorem dX2_tell_174 : decode cX2_tell 174 = .ok (.goto 5, 3) := by decide +kernel
theorem dX2_tell_177 : decode cX2_tell 177 = .ok (.ldc 55, 2) := by decide +kernel
theorem dX2_tell_179 : decode cX2_tell 179 = .ok (.ireturn, 1) := by decide +kernel
theorem dX2_tell_180 : decode cX2_tell 180 = .ok (.iload_n 3, 1) := by decide +kernel
theorem dX2_tell_181 : decode cX2_tell 181 = .ok (.iconst 5, 1) := by decide +kernel
theorem dX2_tell_182 : decode cX2_tell 182 = .ok (.if_icmp .ne 15, 3) := by decide +kernel
theorem dX2_tell_185 : decode cX2_tell 185 = .ok (.aload_n 0, 1) := by decide +kernel
theorem dX2_tell_186 : decode cX2_tell 186 = .ok (.aload_n 0, 1) := by decide +kernel
theorem dX2_tell_187 : decode cX2_tell 187 = .ok (.getfield 24, 3) := by decide +kernel
theorem dX2_tell_190 : decode cX2_tell 190 = .ok (.iload_n 1, 1) := by decide +kernel
theorem dX2_tell_191 : decode cX2_tell 191 = .ok (.invokevirtual 100, 3) := by decide +kernel
theorem dX2_tell_194 : decode cX2_tell 194 = .ok (.goto 5, 3) := by decide +kernel
theorem dX2_tell_197 : decode cX2_tell 197 = .ok (.ldc 55, 2) := by decide +kernel
theorem dX2_tell_199 : decode cX2_tell 199 = .ok (.ireturn, 1) := by decide +kernel
theorem dX2_tell_200 : decode cX2_tell 200 = .ok (.iload_n 3, 1) := by decide +kernel
theorem dX2_tell_201 : decode cX2_tell 201 = .ok (.iconst 3, 1) := by decide +kernel
theorem dX2_tell_202 : decode cX2_tell 202 = .ok (.if_icmp .ne 15, 3) := by decide +kernel
theorem dX2_tell_205 : decode cX2_tell 205 = .ok (.aload_n 0, 1) := by decide +kernel
theorem dX2_tell_206 : decode cX2_tell 206 = .ok (.aload_n 0, 1) := by decide +kernel
theorem dX2_tell_207 : decode cX2_tell 207 = .ok (.getfield 27, 3) := by decide +kernel
theorem dX2_tell_210 : decode cX2_tell 210 = .ok (.iload_n 1, 1) := by decide +kernel
theorem dX2_tell_211 : decode cX2_tell 211 = .ok (.invokevirtual 100, 3) := by decide +kernel
theorem dX2_tell_214 : decode cX2_tell 214 = .ok (.goto 5, 3) := by decide +kernel
theorem dX2_tell_217 : decode cX2_tell 217 = .ok (.ldc 55, 2) := by decide +kernel
theorem dX2_tell_219 : decode cX2_tell 219 = .ok (.ireturn, 1) := by decide +kernel
theorem dX2_tellNumber_0 : decode cX2_tellNumber 0 = .ok (.iload_n 1, 1) := by decide +kernel
theorem dX2_tellNumber_1 : decode cX2_tellNumber 1 = .ok (.tableswitch 118 0 9 #[55, 60, 76, 81, 118, 118, 118, 118, 108, 113], 55) := by decide +kernel
theorem dX2_tellNumber_56 : decode cX2_tellNumber 56 = .ok (.aload_n 0, 1) := by decide +kernel
theorem dX2_tellNumber_57 : decode cX2_tellNumber 57 = .ok (.getfield 43, 3) := by decide +kernel
theorem dX2_tellNumber_60 : decode cX2_tellNumber 60 = .ok (.ireturn, 1) := by decide +kernel
theorem dX2_tellNumber_61 : decode cX2_tellNumber 61 = .ok (.aload_n 0, 1) := by decide +kernel
theorem dX2_tellNumber_62 : decode cX2_tellNumber 62 = .ok (.getfield 43, 3) := by decide +kernel
theorem dX2_tellNumber_65 : decode cX2_tellNumber 65 = .ok (.ifCond .ne 7, 3) := by decide +kernel
theorem dX2_tellNumber_68 : decode cX2_tellNumber 68 = .ok (.iconst 0, 1) := by decide +kernel
theorem dX2_tellNumber_69 : decode cX2_tellNumber 69 = .ok (.goto 7, 3) := by decide +kernel
theorem dX2_tellNumber_72 : decode cX2_tellNumber 72 = .ok (.aload_n 0, 1) := by decide +kernel
theorem dX2_tellNumber_73 : decode cX2_tellNumber 73 = .ok (.getfield 33, 3) := by decide +kernel
theorem dX2_tellNumber_76 : decode cX2_tellNumber 76 = .ok (.ireturn, 1) := by decide +kernel
theorem dX2_tellNumber_77 : decode cX2_tellNumber 77 = .ok (.aload_n 0, 1) := by decide +kernel
theorem dX2_tellNumber_78 : decode cX2_tellNumber 78 = .ok (.invokevirtual 93, 3) := by decide +kernel
theorem dX2_tellNumber_81 : decode cX2_tellNumber 81 = .ok (.ireturn, 1) := by decide +kernel
theorem dX2_tellNumber_82 : decode cX2_tellNumber 82 = .ok (.aload_n 0, 1) := by decide +kernel
theorem dX2_tellNumber_83 : decode cX2_tellNumber 83 = .ok (.getfield 43, 3) := by decide +kernel
theorem dX2_tellNumber_86 : decode cX2_tellNumber 86 = .ok (.ifCond .ne 7, 3) := by decide +kernel
theorem dX2_tellNumber_89 : decode cX2_tellNumber 89 = .ok (.iconst 0, 1) := by decide +kernel
theorem dX2_tellNumber_90 : decode cX2_tellNumber 90 = .ok (.goto 18, 3) := by decide +kernel
theorem dX2_tellNumber_93 : decode cX2_tellNumber 93 = .ok (.iconst 0, 1) := by decide +kernel
theorem dX2_tellNumber_94 : decode cX2_tellNumber 94 = .ok (.aload_n 0, 1) := by decide +kernel
theorem dX2_tellNumber_95 : decode cX2_tellNumber 95 = .ok (.getfield 46, 3) := by decide +kernel
theorem dX2_tellNumber_98 : decode cX2_tellNumber 98 = .ok (.aload_n 0, 1) := by decide +kernel
theorem dX2_tellNumber_99 : decode cX2_tellNumber 99 = .ok (.getfield 33, 3) := by decide +kernel
theorem dX2_tellNumber_102 : decode cX2_tellNumber 102 = .ok (.isub, 1) := by decide +kernel
theorem dX2_tellNumber_103 : decode cX2_tellNumber 103 = .ok (.iconst 1, 1) := by decide +kernel
theorem dX2_tellNumber_104 : decode cX2_tellNumber 104 = .ok (.iadd, 1) := by decide +kernel
theorem dX2_tellNumber_105 : decode cX2_tellNumber 105 = .ok (.invokestatic 56, 3) := by decide +kernel
theorem dX2_tellNumber_108 : decode cX2_tellNumber 108 = .ok (.ireturn, 1) := by decide +kernel
theorem dX2_tellNumber_109 : decode cX2_tellNumber 109 = .ok (.aload_n 0, 1) := by decide +kernel
theorem dX2_tellNumber_110 : decode cX2_tellNumber 110 = .ok (.getfield 49, 3) := by decide +kernel
end
section
theorem dX2_tellNumber_113 : decode cX2_tellNumber 113 = .ok (.ireturn, 1) := by decide +kernel
theorem dX2_tellNumber_114 : decode cX2_tellNumber 114 = .ok (.aload_n 0, 1) := by decide +kernel
theorem dX2_tellNumber_115 : decode cX2_tellNumber 115 = .ok (.invokevirtual 89, 3) := by decide +kernel
theorem dX2_tellNumber_118 : decode cX2_tellNumber 118 = .ok (.ireturn, 1) := by decide +kernel
theorem dX2_tellNumber_119 : decode cX2_tellNumber 119 = .ok (.ldc 104, 2) := by decide +kernel
theorem dX2_tellNumber_121 : decode cX2_tellNumber 121 = .ok (.ireturn, 1) := by decide +kernel
theorem dX3_init_0 : decode cX3_init 0 = .ok (.aload_n 0, 1) := by decide +kernel
theorem dX3_init_1 : decode cX3_init 1 = .ok (.invokespecial 3, 3) := by decide +kernel
theorem dX3_init_4 : decode cX3_init 4 = .ok (.aload_n 0, 1) := by decide +kernel
theorem dX3_init_5 : decode cX3_init 5 = .ok (.bipush 80, 2) := by decide +kernel
theorem dX3_init_7 : decode cX3_init 7 = .ok (.newarray .char, 2) := by decide +kernel
theorem dX3_init_9 : decode cX3_init 9 = .ok (.putfield 9, 3) := by decide +kernel
theorem dX3_init_12 : decode cX3_init 12 = .ok (.return_, 1) := by decide +kernel
theorem dX3_append_0 : decode cX3_append 0 = .ok (.aload_n 0, 1) := by decide +kernel
theorem dX3_append_1 : decode cX3_append 1 = .ok (.getfield 15, 3) := by decide +kernel
theorem dX3_append_4 : decode cX3_append 4 = .ok (.ifCond .lt 12, 3) := by decide +kernel
theorem dX3_append_7 : decode cX3_append 7 = .ok (.aload_n 0, 1) := by decide +kernel
theorem dX3_append_8 : decode cX3_append 8 = .ok (.getfield 15, 3) := by decide +kernel
theorem dX3_append_11 : decode cX3_append 11 = .ok (.bipush 80, 2) := by decide +kernel
theorem dX3_append_13 : decode cX3_append 13 = .ok (.if_icmp .lt 6, 3) := by decide +kernel
theorem dX3_append_16 : decode cX3_append 16 = .ok (.ldc 19, 2) := by decide +kernel
theorem dX3_append_18 : decode cX3_append 18 = .ok (.ireturn, 1) := by decide +kernel
theorem dX3_append_19 : decode cX3_append 19 = .ok (.aload_n 0, 1) := by decide +kernel
theorem dX3_append_20 : decode cX3_append 20 = .ok (.getfield 9, 3) := by decide +kernel
theorem dX3_append_23 : decode cX3_append 23 = .ok (.aload_n 0, 1) := by decide +kernel
theorem dX3_append_24 : decode cX3_append 24 = .ok (.getfield 15, 3) := by decide +kernel
theorem dX3_append_27 : decode cX3_append 27 = .ok (.iload_n 1, 1) := by decide +kernel
theorem dX3_append_28 : decode cX3_append 28 = .ok (.castore, 1) := by decide +kernel
theorem dX3_append_29 : decode cX3_append 29 = .ok (.aload_n 0, 1) := by decide +kernel
theorem dX3_append_30 : decode cX3_append 30 = .ok (.dup, 1) := by decide +kernel
theorem dX3_append_31 : decode cX3_append 31 = .ok (.getfield 15, 3) := by decide +kernel
theorem dX3_append_34 : decode cX3_append 34 = .ok (.iconst 1, 1) := by decide +kernel
theorem dX3_append_35 : decode cX3_append 35 = .ok (.iadd, 1) := by decide +kernel
theorem dX3_append_36 : decode cX3_append 36 = .ok (.putfield 15, 3) := by decide +kernel
theorem dX3_append_39 : decode cX3_append 39 = .ok (.aload_n 0, 1) := by decide +kernel
theorem dX3_append_40 : decode cX3_append 40 = .ok (.getfield 15, 3) := by decide +kernel
theorem dX3_append_43 : decode cX3_append 43 = .ok (.ireturn, 1) := by decide +kernel
theorem dX3_empty_0 : decode cX3_empty 0 = .ok (.aload_n 0, 1) := by decide +kernel
theorem dX3_empty_1 : decode cX3_empty 1 = .ok (.getfield 15, 3) := by decide +kernel
theorem dX3_empty_4 : decode cX3_empty 4 = .ok (.istore_n 1, 1) := by decide +kernel
theorem dX3_empty_5 : decode cX3_empty 5 = .ok (.aload_n 0, 1) := by decide +kernel
theorem dX3_empty_6 : decode cX3_empty 6 = .ok (.iconst 0, 1) := by decide +kernel
theorem dX3_empty_7 : decode cX3_empty 7 = .ok (.putfield 15, 3) := by decide +kernel
theorem dX3_empty_10 : decode cX3_empty 10 = .ok (.iload_n 1, 1) := by decide +kernel
theorem dX3_empty_11 : decode cX3_empty 11 = .ok (.ireturn, 1) := by decide +kernel
theorem dX3_readOrder_0 : decode cX3_readOrder 0 = .ok (.aload_n 0, 1) := by decide +kernel
theorem dX3_readOrder_1 : decode cX3_readOrder 1 = .ok (.getfield 20, 3) := by decide +kernel
theorem dX3_readOrder_4 : decode cX3_readOrder 4 = .ok (.istore_n 1, 1) := by decide +kernel
theorem dX3_readOrder_5 : decode cX3_readOrder 5 = .ok (.aload_n 0, 1) := by decide +kernel
theorem dX3_readOrder_6 : decode cX3_readOrder 6 = .ok (.invokevirtual 23, 3) := by decide +kernel
theorem dX3_readOrder_9 : decode cX3_readOrder 9 = .ok (.ifCond .eq 21, 3) := by decide +kernel
theorem dX3_readOrder_12 : decode cX3_readOrder 12 = .ok (.aload_n 0, 1) := by decide +kernel
theorem dX3_readOrder_13 : decode cX3_readOrder 13 = .ok (.invokevirtual 27, 3) := by decide +kernel
theorem dX3_readOrder_16 : decode cX3_readOrder 16 = .ok (.ifCond .eq 14, 3) := by decide +kernel
theorem dX3_readOrder_19 : decode cX3_readOrder 19 = .ok (.aload_n 0, 1) := by decide +kernel
theorem dX3_readOrder_20 : decode cX3_readOrder 20 = .ok (.bipush 59, 2) := by decide +kernel
theorem dX3_readOrder_22 : decode cX3_readOrder 22 = .ok (.invokevirtual 30, 3) := by decide +kernel
theorem dX3_readOrder_25 : decode cX3_readOrder 25 = .ok (.ifCond .eq 5, 3) := by decide +kernel
theorem dX3_readOrder_28 : decode cX3_readOrder 28 = .ok (.iconst 1, 1) := by decide +kernel
theorem dX3_readOrder_29 : decode cX3_readOrder 29 = .ok (.ireturn, 1) := by decide +kernel
theorem dX3_readOrder_30 : decode cX3_readOrder 30 = .ok (.aload_n 0, 1) := by decide +kernel
theorem dX3_readOrder_31 : decode cX3_readOrder 31 = .ok (.aload_n 0, 1) := by decide +kernel
theorem dX3_readOrder_32 : decode cX3_readOrder 32 = .ok (.getfield 20, 3) := by decide +kernel
theorem dX3_readOrder_35 : decode cX3_readOrder 35 = .ok (.iload_n 1, 1) := by decide +kernel
theorem dX3_readOrder_36 : decode cX3_readOrder 36 = .ok (.isub, 1) := by decide +kernel
theorem dX3_readOrder_37 : decode cX3_readOrder 37 = .ok (.putfield 34, 3) := by decide +kernel
theorem dX3_readOrder_40 : decode cX3_readOrder 40 = .ok (.iconst 0, 1) := by decide +kernel
theorem dX3_readOrder_41 : decode cX3_readOrder 41 = .ok (.ireturn, 1) := by decide +kernel
theorem dX3_sign_0 : decode cX3_sign 0 = .ok (.aload_n 0, 1) := by decide +kernel
theorem dX3_sign_1 : decode cX3_sign 1 = .ok (.getfield 20, 3) := by decide +kernel
theorem dX3_sign_4 : decode cX3_sign 4 = .ok (.ifCond .lt 35, 3) := by decide +kernel
theorem dX3_sign_7 : decode cX3_sign 7 = .ok (.aload_n 0, 1) := by decide +kernel
theorem dX3_sign_8 : decode cX3_sign 8 = .ok (.getfield 20, 3) := by decide +kernel
theorem dX3_sign_11 : decode cX3_sign 11 = .ok (.aload_n 0, 1) := by decide +kernel
theorem dX3_sign_12 : decode cX3_sign 12 = .ok (.getfield 15, 3) := by decide +kernel
theorem dX3_sign_15 : decode cX3_sign 15 = .ok (.if_icmp .ge 24, 3) := by decide +kernel
theorem dX3_sign_18 : decode cX3_sign 18 = .ok (.aload_n 0, 1) := by decide +kernel
theorem dX3_sign_19 : decode cX3_sign 19 = .ok (.getfield 20, 3) := by decide +kernel
theorem dX3_sign_22 : decode cX3_sign 22 = .ok (.bipush 80, 2) := by decide +kernel
theorem dX3_sign_24 : decode cX3_sign 24 = .ok (.if_icmp .ge 15, 3) := by decide +kernel
theorem dX3_sign_27 : decode cX3_sign 27 = .ok (.aload_n 0, 1) := by decide +kernel
theorem dX3_sign_28 : decode cX3_sign 28 = .ok (.getfield 9, 3) := by decide +kernel
theorem dX3_sign_31 : decode cX3_sign 31 = .ok (.aload_n 0, 1) := by decide +kernel
theorem dX3_sign_32 : decode cX3_sign 32 = .ok (.getfield 20, 3) := by decide +kernel
theorem dX3_sign_35 : decode cX3_sign 35 = .ok (.caload, 1) := by decide +kernel
theorem dX3_sign_36 : decode cX3_sign 36 = .ok (.goto 4, 3) := by decide +kernel
theorem dX3_sign_39 : decode cX3_sign 39 = .ok (.iconst 0, 1) := by decide +kernel
theorem dX3_sign_40 : decode cX3_sign 40 = .ok (.ireturn, 1) := by decide +kernel
theorem dX3_readLetter_0 : decode cX3_readLetter 0 = .ok (.aload_n 0, 1) := by decide +kernel
theorem dX3_readLetter_1 : decode cX3_readLetter 1 = .ok (.aload_n 0, 1) := by decide +kernel
theorem dX3_readLetter_2 : decode cX3_readLetter 2 = .ok (.invokevirtual 37, 3) := by decide +kernel
theorem dX3_readLetter_5 : decode cX3_readLetter 5 = .ok (.putfield 41, 3) := by decide +kernel
theorem dX3_readLetter_8 : decode cX3_readLetter 8 = .ok (.aload_n 0, 1) := by decide +kernel
theorem dX3_readLetter_9 : decode cX3_readLetter 9 = .ok (.getfield 41, 3) := by decide +kernel
theorem dX3_readLetter_12 : decode cX3_readLetter 12 = .ok (.tableswitch 120 98 120 #[108, 108, 120, 120, 120, 120, 120, 120, 120, 120, 120, 120, 120, 108, 120, 120, 108, 108, 108, 120, 120, 108, 108], 108) := by decide +kernel
theorem dX3_readLetter_120 : decode cX3_readLetter 120 = .ok (.aload_n 0, 1) := by decide +kernel
theorem dX3_readLetter_121 : decode cX3_readLetter 121 = .ok (.dup, 1) := by decide +kernel
theorem dX3_readLetter_122 : decode cX3_readLetter 122 = .ok (.getfield 20, 3) := by decide +kernel
theorem dX3_readLetter_125 : decode cX3_readLetter 125 = .ok (.iconst 1, 1) := by decide +kernel
theorem dX3_readLetter_126 : decode cX3_readLetter 126 = .ok (.iadd, 1) := by decide +kernel
theorem dX3_readLetter_127 : decode cX3_readLetter 127 = .ok (.putfield 20, 3) := by decide +kernel
theorem dX3_readLetter_130 : decode cX3_readLetter 130 = .ok (.iconst 1, 1) := by decide +kernel
theorem dX3_readLetter_131 : decode cX3_readLetter 131 = .ok (.ireturn, 1) := by decide +kernel
theorem dX3_readLetter_132 : decode cX3_readLetter 132 = .ok (.iconst 0, 1) := by decide +kernel
theorem dX3_readLetter_133 : decode cX3_readLetter 133 = .ok (.ireturn, 1) := by decide +kernel
theorem dX3_readArguments_0 : decode cX3_readArguments 0 = .ok (.aload_n 0, 1) := by decide +kernel
theorem dX3_readArguments_1 : decode cX3_readArguments 1 = .ok (.getfield 41, 3) := by decide +kernel
theorem dX3_readArguments_4 : decode cX3_readArguments 4 = .ok (.bipush 99, 2) := by decide +kernel
theorem dX3_readArguments_6 : decode cX3_readArguments 6 = .ok (.if_icmp .eq 21, 3) := by decide +kernel
theorem dX3_readArguments_9 : decode cX3_readArguments 9 = .ok (.aload_n 0, 1) := by decide +kernel
theorem dX3_readArguments_10 : decode cX3_readArguments 10 = .ok (.getfield 41, 3) := by decide +kernel
theorem dX3_readArguments_13 : decode cX3_readArguments 13 = .ok (.bipush 120, 2) := by decide +kernel
theorem dX3_readArguments_15 : decode cX3_readArguments 15 = .ok (.if_icmp .eq 12, 3) := by decide +kernel
theorem dX3_readArguments_18 : decode cX3_readArguments 18 = .ok (.aload_n 0, 1) := by decide +kernel
theorem dX3_readArguments_19 : decode cX3_readArguments 19 = .ok (.getfield 41, 3) := by decide +kernel
theorem dX3_readArguments_22 : decode cX3_readArguments 22 = .ok (.bipush 114, 2) := by decide +kernel
theorem dX3_readArguments_24 : decode cX3_readArguments 24 = .ok (.if_icmp .ne 5, 3) := by decide +kernel
theorem dX3_readArguments_27 : decode cX3_readArguments 27 = .ok (.iconst 1, 1) := by decide +kernel
theorem dX3_readArguments_28 : decode cX3_readArguments 28 = .ok (.ireturn, 1) := by decide +kernel
theorem dX3_readArguments_29 : decode cX3_readArguments 29 = .ok (.aload_n 0, 1) := by decide +kernel
theorem dX3_readArguments_30 : decode cX3_readArguments 30 = .ok (.aload_n 0, 1) := by decide +kernel
theorem dX3_readArguments_31 : decode cX3_readArguments 31 = .ok (.invokevirtual 44, 3) := by decide +kernel
theorem dX3_readArguments_34 : decode cX3_readArguments 34 = .ok (.putfield 47, 3) := by decide +kernel
theorem dX3_readArguments_37 : decode cX3_readArguments 37 = .ok (.aload_n 0, 1) := by decide +kernel
theorem dX3_readArguments_38 : decode cX3_readArguments 38 = .ok (.getfield 47, 3) := by decide +kernel
theorem dX3_readArguments_41 : decode cX3_readArguments 41 = .ok (.ifCond .lt 12, 3) := by decide +kernel
theorem dX3_readArguments_44 : decode cX3_readArguments 44 = .ok (.aload_n 0, 1) := by decide +kernel
theorem dX3_readArguments_45 : decode cX3_readArguments 45 = .ok (.getfield 41, 3) := by decide +kernel
theorem dX3_readArguments_48 : decode cX3_readArguments 48 = .ok (.bipush 119, 2) := by decide +kernel
theorem dX3_readArguments_50 : decode cX3_readArguments 50 = .ok (.if_icmp .eq 16, 3) := by decide +kernel
theorem dX3_readArguments_53 : decode cX3_readArguments 53 = .ok (.aload_n 0, 1) := by decide +kernel
theorem dX3_readArguments_54 : decode cX3_readArguments 54 = .ok (.getfield 47, 3) := by decide +kernel
theorem dX3_readArguments_57 : decode cX3_readArguments 57 = .ok (.ifCond .lt 7, 3) := by decide +kernel
theorem dX3_readArguments_60 : decode cX3_readArguments 60 = .ok (.iconst 1, 1) := by decide +kernel
theorem dX3_readArguments_61 : decode cX3_readArguments 61 = .ok (.goto 4, 3) := by decide +kernel
theorem dX3_readArguments_64 : decode cX3_readArguments 64 = .ok (.iconst 0, 1) := by decide +kernel
theorem dX3_readArguments_65 : decode cX3_readArguments 65 = .ok (.ireturn, 1) := by decide +kernel
theorem dX3_readArguments_66 : decode cX3_readArguments 66 = .ok (.aload_n 0, 1) := by decide +kernel
theorem dX3_readArguments_67 : decode cX3_readArguments 67 = .ok (.bipush 44, 2) := by decide +kernel
theorem dX3_readArguments_69 : decode cX3_readArguments 69 = .ok (.invokevirtual 30, 3) := by decide +kernel
theorem dX3_readArguments_72 : decode cX3_readArguments 72 = .ok (.ifCond .ne 5, 3) := by decide +kernel
theorem dX3_readArguments_75 : decode cX3_readArguments 75 = .ok (.iconst 0, 1) := by decide +kernel
theorem dX3_readArguments_76 : decode cX3_readArguments 76 = .ok (.ireturn, 1) := by decide +kernel
theorem dX3_readArguments_77 : decode cX3_readArguments 77 = .ok (.aload_n 0, 1) := by decide +kernel
theorem dX3_readArguments_78 : decode cX3_readArguments 78 = .ok (.aload_n 0, 1) := by decide +kernel
theorem dX3_readArguments_79 : decode cX3_readArguments 79 = .ok (.invokevirtual 44, 3) := by decide +kernel
theorem dX3_readArguments_82 : decode cX3_readArguments 82 = .ok (.putfield 50, 3) := by decide +kernel
theorem dX3_readArguments_85 : decode cX3_readArguments 85 = .ok (.aload_n 0, 1) := by decide +kernel
theorem dX3_readArguments_86 : decode cX3_readArguments 86 = .ok (.getfield 50, 3) := by decide +kernel
theorem dX3_readArguments_89 : decode cX3_readArguments 89 = .ok (.ifCond .lt 23, 3) := by decide +kernel
theorem dX3_readArguments_92 : decode cX3_readArguments 92 = .ok (.aload_n 0, 1) := by decide +kernel
theorem dX3_readArguments_93 : decode cX3_readArguments 93 = .ok (.bipush 44, 2) := by decide +kernel
theorem dX3_readArguments_95 : decode cX3_readArguments 95 = .ok (.invokevirtual 30, 3) := by decide +kernel
theorem dX3_readArguments_98 : decode cX3_readArguments 98 = .ok (.ifCond .eq 14, 3) := by decide +kernel
theorem dX3_readArguments_101 : decode cX3_readArguments 101 = .ok (.aload_n 0, 1) := by decide +kernel
theorem dX3_readArguments_102 : decode cX3_readArguments 102 = .ok (.invokevirtual 53, 3) := by decide +kernel
theorem dX3_readArguments_105 : decode cX3_readArguments 105 = .ok (.ifCond .eq 7, 3) := by decide +kernel
theorem dX3_readArguments_108 : decode cX3_readArguments 108 = .ok (.iconst 1, 1) := by decide +kernel
theorem dX3_readArguments_109 : decode cX3_readArguments 109 = .ok (.goto 4, 3) := by decide +kernel
theorem dX3_readArguments_112 : decode cX3_readArguments 112 = .ok (.iconst 0, 1) := by decide +kernel
theorem dX3_readArguments_113 : decode cX3_readArguments 113 = .ok (.ireturn, 1) := by decide +kernel
theorem dX3_readValue_0 : decode cX3_readValue 0 = .ok (.aload_n 0, 1) := by decide +kernel
theorem dX3_readValue_1 : decode cX3_readValue 1 = .ok (.aload_n 0, 1) := by decide +kernel
theorem dX3_readValue_2 : decode cX3_readValue 2 = .ok (.invokevirtual 44, 3) := by decide +kernel
theorem dX3_readValue_5 : decode cX3_readValue 5 = .ok (.putfield 56, 3) := by decide +kernel
theorem dX3_readValue_8 : decode cX3_readValue 8 = .ok (.aload_n 0, 1) := by decide +kernel
theorem dX3_readValue_9 : decode cX3_readValue 9 = .ok (.getfield 56, 3) := by decide +kernel
theorem dX3_readValue_12 : decode cX3_readValue 12 = .ok (.ifCond .ge 5, 3) := by decide +kernel
theorem dX3_readValue_15 : decode cX3_readValue 15 = .ok (.iconst 0, 1) := by decide +kernel
theorem dX3_readValue_16 : decode cX3_readValue 16 = .ok (.ireturn, 1) := by decide +kernel
theorem dX3_readValue_17 : decode cX3_readValue 17 = .ok (.aload_n 0, 1) := by decide +kernel
theorem dX3_readValue_18 : decode cX3_readValue 18 = .ok (.invokevirtual 44, 3) := by decide +kernel
theorem dX3_readValue_21 : decode cX3_readValue 21 = .ok (.istore_n 1, 1) := by decide +kernel
theorem dX3_readValue_22 : decode cX3_readValue 22 = .ok (.iload_n 1, 1) := by decide +kernel
theorem dX3_readValue_23 : decode cX3_readValue 23 = .ok (.ifCond .lt 16, 3) := by decide +kernel
theorem dX3_readValue_26 : decode cX3_readValue 26 = .ok (.aload_n 0, 1) := by decide +kernel
theorem dX3_readValue_27 : decode cX3_readValue 27 = .ok (.aload_n 0, 1) := by decide +kernel
theorem dX3_readValue_28 : decode cX3_readValue 28 = .ok (.getfield 56, 3) := by decide +kernel
theorem dX3_readValue_31 : decode cX3_readValue 31 = .ok (.bipush 10, 2) := by decide +kernel
theorem dX3_readValue_33 : decode cX3_readValue 33 = .ok (.imul, 1) := by decide +kernel
theorem dX3_readValue_34 : decode cX3_readValue 34 = .ok (.iload_n 1, 1) := by decide +kernel
theorem dX3_readValue_35 : decode cX3_readValue 35 = .ok (.iadd, 1) := by decide +kernel
theorem dX3_readValue_36 : decode cX3_readValue 36 = .ok (.putfield 56, 3) := by decide +kernel
theorem dX3_readValue_39 : decode cX3_readValue 39 = .ok (.iconst 1, 1) := by decide +kernel
theorem dX3_readValue_40 : decode cX3_readValue 40 = .ok (.ireturn, 1) := by decide +kernel
theorem dX3_readDigit_0 : decode cX3_readDigit 0 = .ok (.aload_n 0, 1) := by decide +kernel
theorem dX3_readDigit_1 : decode cX3_readDigit 1 = .ok (.invokevirtual 37, 3) := by decide +kernel
theorem dX3_readDigit_4 : decode cX3_readDigit 4 = .ok (.istore_n 1, 1) := by decide +kernel
theorem dX3_readDigit_5 : decode cX3_readDigit 5 = .ok (.iload_n 1, 1) := by decide +kernel
theorem dX3_readDigit_6 : decode cX3_readDigit 6 = .ok (.bipush 48, 2) := by decide +kernel
theorem dX3_readDigit_8 : decode cX3_readDigit 8 = .ok (.if_icmp .lt 9, 3) := by decide +kernel
theorem dX3_readDigit_11 : decode cX3_readDigit 11 = .ok (.iload_n 1, 1) := by decide +kernel
theorem dX3_readDigit_12 : decode cX3_readDigit 12 = .ok (.bipush 57, 2) := by decide +kernel
theorem dX3_readDigit_14 : decode cX3_readDigit 14 = .ok (.if_icmp .le 5, 3) := by decide +kernel
theorem dX3_readDigit_17 : decode cX3_readDigit 17 = .ok (.iconst (-1), 1) := by decide +kernel
theorem dX3_readDigit_18 : decode cX3_readDigit 18 = .ok (.ireturn, 1) := by decide +kernel
theorem dX3_readDigit_19 : decode cX3_readDigit 19 = .ok (.aload_n 0, 1) := by decide +kernel
theorem dX3_readDigit_20 : decode cX3_readDigit 20 = .ok (.dup, 1) := by decide +kernel
theorem dX3_readDigit_21 : decode cX3_readDigit 21 = .ok (.getfield 20, 3) := by decide +kernel
theorem dX3_readDigit_24 : decode cX3_readDigit 24 = .ok (.iconst 1, 1) := by decide +kernel
theorem dX3_readDigit_25 : decode cX3_readDigit 25 = .ok (.iadd, 1) := by decide +kernel
theorem dX3_readDigit_26 : decode cX3_readDigit 26 = .ok (.putfield 20, 3) := by decide +kernel
theorem dX3_readDigit_29 : decode cX3_readDigit 29 = .ok (.iload_n 1, 1) := by decide +kernel
theorem dX3_readDigit_30 : decode cX3_readDigit 30 = .ok (.bipush 48, 2) := by decide +kernel
theorem dX3_readDigit_32 : decode cX3_readDigit 32 = .ok (.isub, 1) := by decide +kernel
theorem dX3_readDigit_33 : decode cX3_readDigit 33 = .ok (.ireturn, 1) := by decide +kernel
theorem dX3_readSign_0 : decode cX3_readSign 0 = .ok (.aload_n 0, 1) := by decide +kernel
theorem dX3_readSign_1 : decode cX3_readSign 1 = .ok (.invokevirtual 37, 3) := by decide +kernel
theorem dX3_readSign_4 : decode cX3_readSign 4 = .ok (.iload_n 1, 1) := by decide +kernel
theorem dX3_readSign_5 : decode cX3_readSign 5 = .ok (.if_icmp .eq 5, 3) := by decide +kernel
theorem dX3_readSign_8 : decode cX3_readSign 8 = .ok (.iconst 0, 1) := by decide +kernel
theorem dX3_readSign_9 : decode cX3_readSign 9 = .ok (.ireturn, 1) := by decide +kernel
theorem dX3_readSign_10 : decode cX3_readSign 10 = .ok (.aload_n 0, 1) := by decide +kernel
theorem dX3_readSign_11 : decode cX3_readSign 11 = .ok (.dup, 1) := by decide +kernel
theorem dX3_readSign_12 : decode cX3_readSign 12 = .ok (.getfield 20, 3) := by decide +kernel
theorem dX3_readSign_15 : decode cX3_readSign 15 = .ok (.iconst 1, 1) := by decide +kernel
theorem dX3_readSign_16 : decode cX3_readSign 16 = .ok (.iadd, 1) := by decide +kernel
theorem dX3_readSign_17 : decode cX3_readSign 17 = .ok (.putfield 20, 3) := by decide +kernel
theorem dX3_readSign_20 : decode cX3_readSign 20 = .ok (.iconst 1, 1) := by decide +kernel
theorem dX3_readSign_21 : decode cX3_readSign 21 = .ok (.ireturn, 1) := by decide +kernel
theorem dX4_init_0 : decode cX4_init 0 = .ok (.aload_n 0, 1) := by decide +kernel
theorem dX4_init_1 : decode cX4_init 1 = .ok (.invokespecial 3, 3) := by decide +kernel
theorem dX4_init_4 : decode cX4_init 4 = .ok (.aload_n 0, 1) := by decide +kernel
theorem dX4_init_5 : decode cX4_init 5 = .ok (.bipush 8, 2) := by decide +kernel
theorem dX4_init_7 : decode cX4_init 7 = .ok (.newarray .int, 2) := by decide +kernel
theorem dX4_init_9 : decode cX4_init 9 = .ok (.putfield 9, 3) := by decide +kernel
theorem dX4_init_12 : decode cX4_init 12 = .ok (.aload_n 0, 1) := by decide +kernel
theorem dX4_init_13 : decode cX4_init 13 = .ok (.bipush 8, 2) := by decide +kernel
theorem dX4_init_15 : decode cX4_init 15 = .ok (.newarray .int, 2) := by decide +kernel
theorem dX4_init_17 : decode cX4_init 17 = .ok (.putfield 15, 3) := by decide +kernel
theorem dX4_init_20 : decode cX4_init 20 = .ok (.aload_n 0, 1) := by decide +kernel
theorem dX4_init_21 : decode cX4_init 21 = .ok (.bipush 8, 2) := by decide +kernel
theorem dX4_init_23 : decode cX4_init 23 = .ok (.newarray .int, 2) := by decide +kernel
theorem dX4_init_25 : decode cX4_init 25 = .ok (.putfield 18, 3) := by decide +kernel
theorem dX4_init_28 : decode cX4_init 28 = .ok (.aload_n 0, 1) := by decide +kernel
theorem dX4_init_29 : decode cX4_init 29 = .ok (.bipush 8, 2) := by decide +kernel
theorem dX4_init_31 : decode cX4_init 31 = .ok (.newarray .int, 2) := by decide +kernel
theorem dX4_init_33 : decode cX4_init 33 = .ok (.putfield 21, 3) := by decide +kernel
theorem dX4_init_36 : decode cX4_init 36 = .ok (.aload_n 0, 1) := by decide +kernel
theorem dX4_init_37 : decode cX4_init 37 = .ok (.bipush 8, 2) := by decide +kernel
theorem dX4_init_39 : decode cX4_init 39 = .ok (.newarray .int, 2) := by decide +kernel
theorem dX4_init_41 : decode cX4_init 41 = .ok (.putfield 24, 3) := by decide +kernel
theorem dX4_init_44 : decode cX4_init 44 = .ok (.return_, 1) := by decide +kernel
theorem dX4_copyFrom_0 : decode cX4_copyFrom 0 = .ok (.aload_n 1, 1) := by decide +kernel
theorem dX4_copyFrom_1 : decode cX4_copyFrom 1 = .ok (.getfield 9, 3) := by decide +kernel
theorem dX4_copyFrom_4 : decode cX4_copyFrom 4 = .ok (.iconst 0, 1) := by decide +kernel
theorem dX4_copyFrom_5 : decode cX4_copyFrom 5 = .ok (.aload_n 0, 1) := by decide +kernel
theorem dX4_copyFrom_6 : decode cX4_copyFrom 6 = .ok (.getfield 9, 3) := by decide +kernel
theorem dX4_copyFrom_9 : decode cX4_copyFrom 9 = .ok (.iconst 0, 1) := by decide +kernel
theorem dX4_copyFrom_10 : decode cX4_copyFrom 10 = .ok (.bipush 8, 2) := by decide +kernel
theorem dX4_copyFrom_12 : decode cX4_copyFrom 12 = .ok (.invokestatic 27, 3) := by decide +kernel
theorem dX4_copyFrom_15 : decode cX4_copyFrom 15 = .ok (.aload_n 1, 1) := by decide +kernel
theorem dX4_copyFrom_16 : decode cX4_copyFrom 16 = .ok (.getfield 15, 3) := by decide +kernel
theorem dX4_copyFrom_19 : decode cX4_copyFrom 19 = .ok (.iconst 0, 1) := by decide +kernel
theorem dX4_copyFrom_20 : decode cX4_copyFrom 20 = .ok (.aload_n 0, 1) := by decide +kernel
theorem dX4_copyFrom_21 : decode cX4_copyFrom 21 = .ok (.getfield 15, 3) := by decide +kernel
theorem dX4_copyFrom_24 : decode cX4_copyFrom 24 = .ok (.iconst 0, 1) := by decide +kernel
theorem dX4_copyFrom_25 : decode cX4_copyFrom 25 = .ok (.bipush 8, 2) := by decide +kernel
theorem dX4_copyFrom_27 : decode cX4_copyFrom 27 = .ok (.invokestatic 27, 3) := by decide +kernel
theorem dX4_copyFrom_30 : decode cX4_copyFrom 30 = .ok (.aload_n 1, 1) := by decide +kernel
theorem dX4_copyFrom_31 : decode cX4_copyFrom 31 = .ok (.getfield 18, 3) := by decide +kernel
theorem dX4_copyFrom_34 : decode cX4_copyFrom 34 = .ok (.iconst 0, 1) := by decide +kernel
theorem dX4_copyFrom_35 : decode cX4_copyFrom 35 = .ok (.aload_n 0, 1) := by decide +kernel
theorem dX4_copyFrom_36 : decode cX4_copyFrom 36 = .ok (.getfield 18, 3) := by decide +kernel
theorem dX4_copyFrom_39 : decode cX4_copyFrom 39 = .ok (.iconst 0, 1) := by decide +kernel
theorem dX4_copyFrom_40 : decode cX4_copyFrom 40 = .ok (.bipush 8, 2) := by decide +kernel
theorem dX4_copyFrom_42 : decode cX4_copyFrom 42 = .ok (.invokestatic 27, 3) := by decide +kernel
theorem dX4_copyFrom_45 : decode cX4_copyFrom 45 = .ok (.aload_n 1, 1) := by decide +kernel
theorem dX4_copyFrom_46 : decode cX4_copyFrom 46 = .ok (.getfield 21, 3) := by decide +kernel
theorem dX4_copyFrom_49 : decode cX4_copyFrom 49 = .ok (.iconst 0, 1) := by decide +kernel
theorem dX4_copyFrom_50 : decode cX4_copyFrom 50 = .ok (.aload_n 0, 1) := by decide +kernel
theorem dX4_copyFrom_51 : decode cX4_copyFrom 51 = .ok (.getfield 21, 3) := by decide +kernel
theorem dX4_copyFrom_54 : decode cX4_copyFrom 54 = .ok (.iconst 0, 1) := by decide +kernel
theorem dX4_copyFrom_55 : decode cX4_copyFrom 55 = .ok (.bipush 8, 2) := by decide +kernel
theorem dX4_copyFrom_57 : decode cX4_copyFrom 57 = .ok (.invokestatic 27, 3) := by decide +kernel
theorem dX4_copyFrom_60 : decode cX4_copyFrom 60 = .ok (.aload_n 1, 1) := by decide +kernel
theorem dX4_copyFrom_61 : decode cX4_copyFrom 61 = .ok (.getfield 24, 3) := by decide +kernel
theorem dX4_copyFrom_64 : decode cX4_copyFrom 64 = .ok (.iconst 0, 1) := by decide +kernel
theorem dX4_copyFrom_65 : decode cX4_copyFrom 65 = .ok (.aload_n 0, 1) := by decide +kernel
theorem dX4_copyFrom_66 : decode cX4_copyFrom 66 = .ok (.getfield 24, 3) := by decide +kernel
theorem dX4_copyFrom_69 : decode cX4_copyFrom 69 = .ok (.iconst 0, 1) := by decide +kernel
theorem dX4_copyFrom_70 : decode cX4_copyFrom 70 = .ok (.bipush 8, 2) := by decide +kernel
theorem dX4_copyFrom_72 : decode cX4_copyFrom 72 = .ok (.invokestatic 27, 3) := by decide +kernel
theorem dX4_copyFrom_75 : decode cX4_copyFrom 75 = .ok (.aload_n 0, 1) := by decide +kernel
theorem dX4_copyFrom_76 : decode cX4_copyFrom 76 = .ok (.aload_n 1, 1) := by decide +kernel
theorem dX4_copyFrom_77 : decode cX4_copyFrom 77 = .ok (.getfield 33, 3) := by decide +kernel
theorem dX4_copyFrom_80 : decode cX4_copyFrom 80 = .ok (.putfield 33, 3) := by decide +kernel
theorem dX4_copyFrom_83 : decode cX4_copyFrom 83 = .ok (.aload_n 0, 1) := by decide +kernel
theorem dX4_copyFrom_84 : decode cX4_copyFrom 84 = .ok (.aload_n 1, 1) := by decide +kernel
theorem dX4_copyFrom_85 : decode cX4_copyFrom 85 = .ok (.getfield 37, 3) := by decide +kernel
theorem dX4_copyFrom_88 : decode cX4_copyFrom 88 = .ok (.putfield 37, 3) := by decide +kernel
theorem dX4_copyFrom_91 : decode cX4_copyFrom 91 = .ok (.return_, 1) := by decide +kernel
theorem dX4_valueOf_0 : decode cX4_valueOf 0 = .ok (.iload_n 1, 1) := by decide +kernel
theorem dX4_valueOf_1 : decode cX4_valueOf 1 = .ok (.ifCond .lt 9, 3) := by decide +kernel
theorem dX4_valueOf_4 : decode cX4_valueOf 4 = .ok (.iload_n 1, 1) := by decide +kernel
theorem dX4_valueOf_5 : decode cX4_valueOf 5 = .ok (.bipush 8, 2) := by decide +kernel
theorem dX4_valueOf_7 : decode cX4_valueOf 7 = .ok (.if_icmp .lt 5, 3) := by decide +kernel
theorem dX4_valueOf_10 : decode cX4_valueOf 10 = .ok (.iconst 0, 1) := by decide +kernel
theorem dX4_valueOf_11 : decode cX4_valueOf 11 = .ok (.ireturn, 1) := by decide +kernel
theorem dX4_valueOf_12 : decode cX4_valueOf 12 = .ok (.aload_n 0, 1) := by decide +kernel
theorem dX4_valueOf_13 : decode cX4_valueOf 13 = .ok (.getfield 33, 3) := by decide +kernel
theorem dX4_valueOf_16 : decode cX4_valueOf 16 = .ok (.iload_n 1, 1) := by decide +kernel
theorem dX4_valueOf_17 : decode cX4_valueOf 17 = .ok (.ishr, 1) := by decide +kernel
theorem dX4_valueOf_18 : decode cX4_valueOf 18 = .ok (.iconst 1, 1) := by decide +kernel
theorem dX4_valueOf_19 : decode cX4_valueOf 19 = .ok (.iand, 1) := by decide +kernel
theorem dX4_valueOf_20 : decode cX4_valueOf 20 = .ok (.iconst 1, 1) := by decide +kernel
theorem dX4_valueOf_21 : decode cX4_valueOf 21 = .ok (.if_icmp .ne 12, 3) := by decide +kernel
theorem dX4_valueOf_24 : decode cX4_valueOf 24 = .ok (.aload_n 0, 1) := by decide +kernel
theorem dX4_valueOf_25 : decode cX4_valueOf 25 = .ok (.getfield 18, 3) := by decide +kernel
theorem dX4_valueOf_28 : decode cX4_valueOf 28 = .ok (.iload_n 1, 1) := by decide +kernel
theorem dX4_valueOf_29 : decode cX4_valueOf 29 = .ok (.iaload, 1) := by decide +kernel
theorem dX4_valueOf_30 : decode cX4_valueOf 30 = .ok (.goto 9, 3) := by decide +kernel
theorem dX4_valueOf_33 : decode cX4_valueOf 33 = .ok (.aload_n 0, 1) := by decide +kernel
theorem dX4_valueOf_34 : decode cX4_valueOf 34 = .ok (.getfield 9, 3) := by decide +kernel
theorem dX4_valueOf_37 : decode cX4_valueOf 37 = .ok (.iload_n 1, 1) := by decide +kernel
theorem dX4_valueOf_38 : decode cX4_valueOf 38 = .ok (.iaload, 1) := by decide +kernel
theorem dX4_valueOf_39 : decode cX4_valueOf 39 = .ok (.ireturn, 1) := by decide +kernel
theorem dX4_markOf_0 : decode cX4_markOf 0 = .ok (.iload_n 1, 1) := by decide +kernel
theorem dX4_markOf_1 : decode cX4_markOf 1 = .ok (.ifCond .lt 9, 3) := by decide +kernel
theorem dX4_markOf_4 : decode cX4_markOf 4 = .ok (.iload_n 1, 1) := by decide +kernel
theorem dX4_markOf_5 : decode cX4_markOf 5 = .ok (.bipush 8, 2) := by decide +kernel
theorem dX4_markOf_7 : decode cX4_markOf 7 = .ok (.if_icmp .lt 5, 3) := by decide +kernel
theorem dX4_markOf_10 : decode cX4_markOf 10 = .ok (.iconst 0, 1) := by decide +kernel
theorem dX4_markOf_11 : decode cX4_markOf 11 = .ok (.ireturn, 1) := by decide +kernel
theorem dX4_markOf_12 : decode cX4_markOf 12 = .ok (.aload_n 0, 1) := by decide +kernel
theorem dX4_markOf_13 : decode cX4_markOf 13 = .ok (.getfield 33, 3) := by decide +kernel
theorem dX4_markOf_16 : decode cX4_markOf 16 = .ok (.iload_n 1, 1) := by decide +kernel
theorem dX4_markOf_17 : decode cX4_markOf 17 = .ok (.ishr, 1) := by decide +kernel
theorem dX4_markOf_18 : decode cX4_markOf 18 = .ok (.iconst 1, 1) := by decide +kernel
theorem dX4_markOf_19 : decode cX4_markOf 19 = .ok (.iand, 1) := by decide +kernel
theorem dX4_markOf_20 : decode cX4_markOf 20 = .ok (.iconst 1, 1) := by decide +kernel
theorem dX4_markOf_21 : decode cX4_markOf 21 = .ok (.if_icmp .ne 12, 3) := by decide +kernel
theorem dX4_markOf_24 : decode cX4_markOf 24 = .ok (.aload_n 0, 1) := by decide +kernel
theorem dX4_markOf_25 : decode cX4_markOf 25 = .ok (.getfield 21, 3) := by decide +kernel
theorem dX4_markOf_28 : decode cX4_markOf 28 = .ok (.iload_n 1, 1) := by decide +kernel
theorem dX4_markOf_29 : decode cX4_markOf 29 = .ok (.iaload, 1) := by decide +kernel
theorem dX4_markOf_30 : decode cX4_markOf 30 = .ok (.goto 9, 3) := by decide +kernel
theorem dX4_markOf_33 : decode cX4_markOf 33 = .ok (.aload_n 0, 1) := by decide +kernel
theorem dX4_markOf_34 : decode cX4_markOf 34 = .ok (.getfield 15, 3) := by decide +kernel
theorem dX4_markOf_37 : decode cX4_markOf 37 = .ok (.iload_n 1, 1) := by decide +kernel
theorem dX4_markOf_38 : decode cX4_markOf 38 = .ok (.iaload, 1) := by decide +kernel
theorem dX4_markOf_39 : decode cX4_markOf 39 = .ok (.ireturn, 1) := by decide +kernel
theorem dX4_startOf_0 : decode cX4_startOf 0 = .ok (.iload_n 1, 1) := by decide +kernel
theorem dX4_startOf_1 : decode cX4_startOf 1 = .ok (.ifCond .lt 30, 3) := by decide +kernel
theorem dX4_startOf_4 : decode cX4_startOf 4 = .ok (.iload_n 1, 1) := by decide +kernel
theorem dX4_startOf_5 : decode cX4_startOf 5 = .ok (.bipush 8, 2) := by decide +kernel
theorem dX4_startOf_7 : decode cX4_startOf 7 = .ok (.if_icmp .ge 24, 3) := by decide +kernel
theorem dX4_startOf_10 : decode cX4_startOf 10 = .ok (.aload_n 0, 1) := by decide +kernel
theorem dX4_startOf_11 : decode cX4_startOf 11 = .ok (.getfield 37, 3) := by decide +kernel
theorem dX4_startOf_14 : decode cX4_startOf 14 = .ok (.iload_n 1, 1) := by decide +kernel
theorem dX4_startOf_15 : decode cX4_startOf 15 = .ok (.ishr, 1) := by decide +kernel
theorem dX4_startOf_16 : decode cX4_startOf 16 = .ok (.iconst 1, 1) := by decide +kernel
theorem dX4_startOf_17 : decode cX4_startOf 17 = .ok (.iand, 1) := by decide +kernel
theorem dX4_startOf_18 : decode cX4_startOf 18 = .ok (.iconst 1, 1) := by decide +kernel
theorem dX4_startOf_19 : decode cX4_startOf 19 = .ok (.if_icmp .ne 12, 3) := by decide +kernel
theorem dX4_startOf_22 : decode cX4_startOf 22 = .ok (.aload_n 0, 1) := by decide +kernel
theorem dX4_startOf_23 : decode cX4_startOf 23 = .ok (.getfield 24, 3) := by decide +kernel
theorem dX4_startOf_26 : decode cX4_startOf 26 = .ok (.iload_n 1, 1) := by decide +kernel
theorem dX4_startOf_27 : decode cX4_startOf 27 = .ok (.iaload, 1) := by decide +kernel
theorem dX4_startOf_28 : decode cX4_startOf 28 = .ok (.goto 5, 3) := by decide +kernel
theorem dX4_startOf_31 : decode cX4_startOf 31 = .ok (.ldc 40, 2) := by decide +kernel
theorem dX4_startOf_33 : decode cX4_startOf 33 = .ok (.ireturn, 1) := by decide +kernel
theorem dX4_put_0 : decode cX4_put 0 = .ok (.iload_n 1, 1) := by decide +kernel
theorem dX4_put_1 : decode cX4_put 1 = .ok (.ifCond .lt 9, 3) := by decide +kernel
theorem dX4_put_4 : decode cX4_put 4 = .ok (.iload_n 1, 1) := by decide +kernel
theorem dX4_put_5 : decode cX4_put 5 = .ok (.bipush 8, 2) := by decide +kernel
theorem dX4_put_7 : decode cX4_put 7 = .ok (.if_icmp .lt 4, 3) := by decide +kernel
theorem dX4_put_10 : decode cX4_put 10 = .ok (.return_, 1) := by decide +kernel
theorem dX4_put_11 : decode cX4_put 11 = .ok (.iconst 1, 1) := by decide +kernel
theorem dX4_put_12 : decode cX4_put 12 = .ok (.iload_n 1, 1) := by decide +kernel
theorem dX4_put_13 : decode cX4_put 13 = .ok (.ishl, 1) := by decide +kernel
theorem dX4_put_14 : decode cX4_put 14 = .ok (.istore 4, 2) := by decide +kernel
theorem dX4_put_16 : decode cX4_put 16 = .ok (.aload_n 0, 1) := by decide +kernel
theorem dX4_put_17 : decode cX4_put 17 = .ok (.getfield 37, 3) := by decide +kernel
theorem dX4_put_20 : decode cX4_put 20 = .ok (.iload 4, 2) := by decide +kernel
theorem dX4_put_22 : decode cX4_put 22 = .ok (.iand, 1) := by decide +kernel
theorem dX4_put_23 : decode cX4_put 23 = .ok (.ifCond .ne 10, 3) := by decide +kernel
theorem dX4_put_26 : decode cX4_put 26 = .ok (.aload_n 0, 1) := by decide +kernel
theorem dX4_put_27 : decode cX4_put 27 = .ok (.getfield 24, 3) := by decide +kernel
theorem dX4_put_30 : decode cX4_put 30 = .ok (.iload_n 1, 1) := by decide +kernel
theorem dX4_put_31 : decode cX4_put 31 = .ok (.iload_n 3, 1) := by decide +kernel
theorem dX4_put_32 : decode cX4_put 32 = .ok (.iastore, 1) := by decide +kernel
theorem dX4_put_33 : decode cX4_put 33 = .ok (.aload_n 0, 1) := by decide +kernel
theorem dX4_put_34 : decode cX4_put 34 = .ok (.getfield 18, 3) := by decide +kernel
theorem dX4_put_37 : decode cX4_put 37 = .ok (.iload_n 1, 1) := by decide +kernel
theorem dX4_put_38 : decode cX4_put 38 = .ok (.iload_n 2, 1) := by decide +kernel
theorem dX4_put_39 : decode cX4_put 39 = .ok (.iastore, 1) := by decide +kernel
theorem dX4_put_40 : decode cX4_put 40 = .ok (.aload_n 0, 1) := by decide +kernel
theorem dX4_put_41 : decode cX4_put 41 = .ok (.getfield 21, 3) := by decide +kernel
theorem dX4_put_44 : decode cX4_put 44 = .ok (.iload_n 1, 1) := by decide +kernel
theorem dX4_put_45 : decode cX4_put 45 = .ok (.iload_n 3, 1) := by decide +kernel
theorem dX4_put_46 : decode cX4_put 46 = .ok (.iastore, 1) := by decide +kernel
theorem dX4_put_47 : decode cX4_put 47 = .ok (.aload_n 0, 1) := by decide +kernel
theorem dX4_put_48 : decode cX4_put 48 = .ok (.dup, 1) := by decide +kernel
theorem dX4_put_49 : decode cX4_put 49 = .ok (.getfield 33, 3) := by decide +kernel
theorem dX4_put_52 : decode cX4_put 52 = .ok (.iload 4, 2) := by decide +kernel
theorem dX4_put_54 : decode cX4_put 54 = .ok (.ior, 1) := by decide +kernel
theorem dX4_put_55 : decode cX4_put 55 = .ok (.putfield 33, 3) := by decide +kernel
theorem dX4_put_58 : decode cX4_put 58 = .ok (.aload_n 0, 1) := by decide +kernel
theorem dX4_put_59 : decode cX4_put 59 = .ok (.dup, 1) := by decide +kernel
theorem dX4_put_60 : decode cX4_put 60 = .ok (.getfield 37, 3) := by decide +kernel
theorem dX4_put_63 : decode cX4_put 63 = .ok (.iload 4, 2) := by decide +kernel
theorem dX4_put_65 : decode cX4_put 65 = .ok (.ior, 1) := by decide +kernel
theorem dX4_put_66 : decode cX4_put 66 = .ok (.putfield 37, 3) := by decide +kernel
theorem dX4_put_69 : decode cX4_put 69 = .ok (.return_, 1) := by decide +kernel
theorem dX4_toDisk_0 : decode cX4_toDisk 0 = .ok (.iload_n 1, 1) := by decide +kernel
theorem dX4_toDisk_1 : decode cX4_toDisk 1 = .ok (.ifCond .lt 9, 3) := by decide +kernel
theorem dX4_toDisk_4 : decode cX4_toDisk 4 = .ok (.iload_n 1, 1) := by decide +kernel
theorem dX4_toDisk_5 : decode cX4_toDisk 5 = .ok (.bipush 8, 2) := by decide +kernel
theorem dX4_toDisk_7 : decode cX4_toDisk 7 = .ok (.if_icmp .lt 4, 3) := by decide +kernel
theorem dX4_toDisk_10 : decode cX4_toDisk 10 = .ok (.return_, 1) := by decide +kernel
theorem dX4_toDisk_11 : decode cX4_toDisk 11 = .ok (.aload_n 0, 1) := by decide +kernel
theorem dX4_toDisk_12 : decode cX4_toDisk 12 = .ok (.getfield 9, 3) := by decide +kernel
theorem dX4_toDisk_15 : decode cX4_toDisk 15 = .ok (.iload_n 1, 1) := by decide +kernel
theorem dX4_toDisk_16 : decode cX4_toDisk 16 = .ok (.aload_n 0, 1) := by decide +kernel
theorem dX4_toDisk_17 : decode cX4_toDisk 17 = .ok (.getfield 18, 3) := by decide +kernel
theorem dX4_toDisk_20 : decode cX4_toDisk 20 = .ok (.iload_n 1, 1) := by decide +kernel
theorem dX4_toDisk_21 : decode cX4_toDisk 21 = .ok (.iaload, 1) := by decide +kernel
theorem dX4_toDisk_22 : decode cX4_toDisk 22 = .ok (.iastore, 1) := by decide +kernel
theorem dX4_toDisk_23 : decode cX4_toDisk 23 = .ok (.aload_n 0, 1) := by decide +kernel
theorem dX4_toDisk_24 : decode cX4_toDisk 24 = .ok (.getfield 15, 3) := by decide +kernel
theorem dX4_toDisk_27 : decode cX4_toDisk 27 = .ok (.iload_n 1, 1) := by decide +kernel
theorem dX4_toDisk_28 : decode cX4_toDisk 28 = .ok (.aload_n 0, 1) := by decide +kernel
theorem dX4_toDisk_29 : decode cX4_toDisk 29 = .ok (.getfield 21, 3) := by decide +kernel
theorem dX4_toDisk_32 : decode cX4_toDisk 32 = .ok (.iload_n 1, 1) := by decide +kernel
theorem dX4_toDisk_33 : decode cX4_toDisk 33 = .ok (.iaload, 1) := by decide +kernel
theorem dX4_toDisk_34 : decode cX4_toDisk 34 = .ok (.iastore, 1) := by decide +kernel
theorem dX4_toDisk_35 : decode cX4_toDisk 35 = .ok (.aload_n 0, 1) := by decide +kernel
theorem dX4_toDisk_36 : decode cX4_toDisk 36 = .ok (.dup, 1) := by decide +kernel
theorem dX4_toDisk_37 : decode cX4_toDisk 37 = .ok (.getfield 37, 3) := by decide +kernel
theorem dX4_toDisk_40 : decode cX4_toDisk 40 = .ok (.iconst 1, 1) := by decide +kernel
theorem dX4_toDisk_41 : decode cX4_toDisk 41 = .ok (.iload_n 1, 1) := by decide +kernel
theorem dX4_toDisk_42 : decode cX4_toDisk 42 = .ok (.ishl, 1) := by decide +kernel
theorem dX4_toDisk_43 : decode cX4_toDisk 43 = .ok (.iconst (-1), 1) := by decide +kernel
theorem dX4_toDisk_44 : decode cX4_toDisk 44 = .ok (.ixor, 1) := by decide +kernel
theorem dX4_toDisk_45 : decode cX4_toDisk 45 = .ok (.iand, 1) := by decide +kernel
theorem dX4_toDisk_46 : decode cX4_toDisk 46 = .ok (.putfield 37, 3) := by decide +kernel
theorem dX4_toDisk_49 : decode cX4_toDisk 49 = .ok (.return_, 1) := by decide +kernel
theorem dX4_emptyCache_0 : decode cX4_emptyCache 0 = .ok (.aload_n 0, 1) := by decide +kernel
theorem dX4_emptyCache_1 : decode cX4_emptyCache 1 = .ok (.iconst 0, 1) := by decide +kernel
theorem dX4_emptyCache_2 : decode cX4_emptyCache 2 = .ok (.putfield 33, 3) := by decide +kernel
theorem dX4_emptyCache_5 : decode cX4_emptyCache 5 = .ok (.aload_n 0, 1) := by decide +kernel
theorem dX4_emptyCache_6 : decode cX4_emptyCache 6 = .ok (.iconst 0, 1) := by decide +kernel
theorem dX4_emptyCache_7 : decode cX4_emptyCache 7 = .ok (.putfield 37, 3) := by decide +kernel
theorem dX4_emptyCache_10 : decode cX4_emptyCache 10 = .ok (.return_, 1) := by decide +kernel
theorem dX4_highestDiskMark_0 : decode cX4_highestDiskMark 0 = .ok (.iconst 0, 1) := by decide +kernel
theorem dX4_highestDiskMark_1 : decode cX4_highestDiskMark 1 = .ok (.istore_n 1, 1) := by decide +kernel
theorem dX4_highestDiskMark_2 : decode cX4_highestDiskMark 2 = .ok (.iconst 0, 1) := by decide +kernel
theorem dX4_highestDiskMark_3 : decode cX4_highestDiskMark 3 = .ok (.istore_n 2, 1) := by decide +kernel
theorem dX4_highestDiskMark_4 : decode cX4_highestDiskMark 4 = .ok (.iload_n 2, 1) := by decide +kernel
theorem dX4_highestDiskMark_5 : decode cX4_highestDiskMark 5 = .ok (.bipush 8, 2) := by decide +kernel
theorem dX4_highestDiskMark_7 : decode cX4_highestDiskMark 7 = .ok (.if_icmp .ge 20, 3) := by decide +kernel
theorem dX4_highestDiskMark_10 : decode cX4_highestDiskMark 10 = .ok (.iload_n 1, 1) := by decide +kernel
theorem dX4_highestDiskMark_11 : decode cX4_highestDiskMark 11 = .ok (.aload_n 0, 1) := by decide +kernel
theorem dX4_highestDiskMark_12 : decode cX4_highestDiskMark 12 = .ok (.getfield 15, 3) := by decide +kernel
theorem dX4_highestDiskMark_15 : decode cX4_highestDiskMark 15 = .ok (.iload_n 2, 1) := by decide +kernel
theorem dX4_highestDiskMark_16 : decode cX4_highestDiskMark 16 = .ok (.iaload, 1) := by decide +kernel
theorem dX4_highestDiskMark_17 : decode cX4_highestDiskMark 17 = .ok (.invokestatic 41, 3) := by decide +kernel
theorem dX4_highestDiskMark_20 : decode cX4_highestDiskMark 20 = .ok (.istore_n 1, 1) := by decide +kernel
theorem dX4_highestDiskMark_21 : decode cX4_highestDiskMark 21 = .ok (.iinc 2 1, 3) := by decide +kernel
theorem dX4_highestDiskMark_24 : decode cX4_highestDiskMark 24 = .ok (.goto (-20), 3) := by decide +kernel
theorem dX4_highestDiskMark_27 : decode cX4_highestDiskMark 27 = .ok (.iload_n 1, 1) := by decide +kernel
theorem dX4_highestDiskMark_28 : decode cX4_highestDiskMark 28 = .ok (.ireturn, 1) := by decide +kernel
theorem dX4_tell_0 : decode cX4_tell 0 = .ok (.iload_n 1, 1) := by decide +kernel
theorem dX4_tell_1 : decode cX4_tell 1 = .ok (.ifCond .lt 9, 3) := by decide +kernel
theorem dX4_tell_4 : decode cX4_tell 4 = .ok (.iload_n 1, 1) := by decide +kernel
theorem dX4_tell_5 : decode cX4_tell 5 = .ok (.bipush 8, 2) := by decide +kernel
theorem dX4_tell_7 : decode cX4_tell 7 = .ok (.if_icmp .lt 6, 3) := by decide +kernel
theorem dX4_tell_10 : decode cX4_tell 10 = .ok (.ldc 47, 2) := by decide +kernel
theorem dX4_tell_12 : decode cX4_tell 12 = .ok (.ireturn, 1) := by decide +kernel
theorem dX4_tell_13 : decode cX4_tell 13 = .ok (.iload_n 2, 1) := by decide +kernel
theorem dX4_tell_14 : decode cX4_tell 14 = .ok (.tableswitch 82 0 5 #[38, 44, 50, 57, 64, 73], 38) := by decide +kernel
theorem dX4_tell_52 : decode cX4_tell 52 = .ok (.aload_n 0, 1) := by decide +kernel
theorem dX4_tell_53 : decode cX4_tell 53 = .ok (.iload_n 1, 1) := by decide +kernel
theorem dX4_tell_54 : decode cX4_tell 54 = .ok (.invokevirtual 48, 3) := by decide +kernel
theorem dX4_tell_57 : decode cX4_tell 57 = .ok (.ireturn, 1) := by decide +kernel
theorem dX4_tell_58 : decode cX4_tell 58 = .ok (.aload_n 0, 1) := by decide +kernel
theorem dX4_tell_59 : decode cX4_tell 59 = .ok (.iload_n 1, 1) := by decide +kernel
theorem dX4_tell_60 : decode cX4_tell 60 = .ok (.invokevirtual 52, 3) := by decide +kernel
theorem dX4_tell_63 : decode cX4_tell 63 = .ok (.ireturn, 1) := by decide +kernel
theorem dX4_tell_64 : decode cX4_tell 64 = .ok (.aload_n 0, 1) := by decide +kernel
theorem dX4_tell_65 : decode cX4_tell 65 = .ok (.getfield 9, 3) := by decide +kernel
theorem dX4_tell_68 : decode cX4_tell 68 = .ok (.iload_n 1, 1) := by decide +kernel
theorem dX4_tell_69 : decode cX4_tell 69 = .ok (.iaload, 1) := by decide +kernel
theorem dX4_tell_70 : decode cX4_tell 70 = .ok (.ireturn, 1) := by decide +kernel
theorem dX4_tell_71 : decode cX4_tell 71 = .ok (.aload_n 0, 1) := by decide +kernel
theorem dX4_tell_72 : decode cX4_tell 72 = .ok (.getfield 15, 3) := by decide +kernel
theorem dX4_tell_75 : decode cX4_tell 75 = .ok (.iload_n 1, 1) := by decide +kernel
theorem dX4_tell_76 : decode cX4_tell 76 = .ok (.iaload, 1) := by decide +kernel
theorem dX4_tell_77 : decode cX4_tell 77 = .ok (.ireturn, 1) := by decide +kernel
theorem dX4_tell_78 : decode cX4_tell 78 = .ok (.aload_n 0, 1) := by decide +kernel
theorem dX4_tell_79 : decode cX4_tell 79 = .ok (.getfield 33, 3) := by decide +kernel
theorem dX4_tell_82 : decode cX4_tell 82 = .ok (.iload_n 1, 1) := by decide +kernel
theorem dX4_tell_83 : decode cX4_tell 83 = .ok (.ishr, 1) := by decide +kernel
theorem dX4_tell_84 : decode cX4_tell 84 = .ok (.iconst 1, 1) := by decide +kernel
theorem dX4_tell_85 : decode cX4_tell 85 = .ok (.iand, 1) := by decide +kernel
theorem dX4_tell_86 : decode cX4_tell 86 = .ok (.ireturn, 1) := by decide +kernel
theorem dX4_tell_87 : decode cX4_tell 87 = .ok (.aload_n 0, 1) := by decide +kernel
theorem dX4_tell_88 : decode cX4_tell 88 = .ok (.getfield 37, 3) := by decide +kernel
theorem dX4_tell_91 : decode cX4_tell 91 = .ok (.iload_n 1, 1) := by decide +kernel
theorem dX4_tell_92 : decode cX4_tell 92 = .ok (.ishr, 1) := by decide +kernel
theorem dX4_tell_93 : decode cX4_tell 93 = .ok (.iconst 1, 1) := by decide +kernel
theorem dX4_tell_94 : decode cX4_tell 94 = .ok (.iand, 1) := by decide +kernel
theorem dX4_tell_95 : decode cX4_tell 95 = .ok (.ireturn, 1) := by decide +kernel
theorem dX4_tell_96 : decode cX4_tell 96 = .ok (.aload_n 0, 1) := by decide +kernel
theorem dX4_tell_97 : decode cX4_tell 97 = .ok (.iload_n 1, 1) := by decide +kernel
theorem dX4_tell_98 : decode cX4_tell 98 = .ok (.invokevirtual 55, 3) := by decide +kernel
theorem dX4_tell_101 : decode cX4_tell 101 = .ok (.ireturn, 1) := by decide +kernel
theorem dX5_init_0 : decode cX5_init 0 = .ok (.aload_n 0, 1) := by decide +kernel
theorem dX5_init_1 : decode cX5_init 1 = .ok (.invokespecial 3, 3) := by decide +kernel
theorem dX5_init_4 : decode cX5_init 4 = .ok (.aload_n 0, 1) := by decide +kernel
theorem dX5_init_5 : decode cX5_init 5 = .ok (.bipush 8, 2) := by decide +kernel
theorem dX5_init_7 : decode cX5_init 7 = .ok (.newarray .int, 2) := by decide +kernel
theorem dX5_init_9 : decode cX5_init 9 = .ok (.putfield 9, 3) := by decide +kernel
theorem dX5_init_12 : decode cX5_init 12 = .ok (.aload_n 0, 1) := by decide +kernel
theorem dX5_init_13 : decode cX5_init 13 = .ok (.sipush 128, 3) := by decide +kernel
theorem dX5_init_16 : decode cX5_init 16 = .ok (.newarray .int, 2) := by decide +kernel
theorem dX5_init_18 : decode cX5_init 18 = .ok (.putfield 15, 3) := by decide +kernel
theorem dX5_init_21 : decode cX5_init 21 = .ok (.return_, 1) := by decide +kernel
theorem dX5_run_0 : decode cX5_run 0 = .ok (.aload_n 1, 1) := by decide +kernel
theorem dX5_run_1 : decode cX5_run 1 = .ok (.getfield 18, 3) := by decide +kernel
theorem dX5_run_4 : decode cX5_run 4 = .ok (.ifCond .ne 6, 3) := by decide +kernel
theorem dX5_run_7 : decode cX5_run 7 = .ok (.ldc 24, 2) := by decide +kernel
theorem dX5_run_9 : decode cX5_run 9 = .ok (.ireturn, 1) := by decide +kernel
theorem dX5_run_10 : decode cX5_run 10 = .ok (.aload_n 0, 1) := by decide +kernel
theorem dX5_run_11 : decode cX5_run 11 = .ok (.aload_n 1, 1) := by decide +kernel
theorem dX5_run_12 : decode cX5_run 12 = .ok (.getfield 25, 3) := by decide +kernel
theorem dX5_run_15 : decode cX5_run 15 = .ok (.invokevirtual 29, 3) := by decide +kernel
theorem dX5_run_18 : decode cX5_run 18 = .ok (.aload_n 0, 1) := by decide +kernel
theorem dX5_run_19 : decode cX5_run 19 = .ok (.aload_n 1, 1) := by decide +kernel
theorem dX5_run_20 : decode cX5_run 20 = .ok (.getfield 25, 3) := by decide +kernel
theorem dX5_run_23 : decode cX5_run 23 = .ok (.aload_n 1, 1) := by decide +kernel
theorem dX5_run_24 : decode cX5_run 24 = .ok (.getfield 33, 3) := by decide +kernel
theorem dX5_run_27 : decode cX5_run 27 = .ok (.invokevirtual 37, 3) := by decide +kernel
theorem dX5_run_30 : decode cX5_run 30 = .ok (.aload_n 0, 1) := by decide +kernel
theorem dX5_run_31 : decode cX5_run 31 = .ok (.aload_n 1, 1) := by decide +kernel
theorem dX5_run_32 : decode cX5_run 32 = .ok (.invokevirtual 41, 3) := by decide +kernel
theorem dX5_run_35 : decode cX5_run 35 = .ok (.aload_n 1, 1) := by decide +kernel
theorem dX5_run_36 : decode cX5_run 36 = .ok (.getfield 25, 3) := by decide +kernel
theorem dX5_run_39 : decode cX5_run 39 = .ok (.aload_n 1, 1) := by decide +kernel
theorem dX5_run_40 : decode cX5_run 40 = .ok (.getfield 25, 3) := by decide +kernel
theorem dX5_run_43 : decode cX5_run 43 = .ok (.invokevirtual 45, 3) := by decide +kernel
theorem dX5_run_46 : decode cX5_run 46 = .ok (.invokevirtual 51, 3) := by decide +kernel
theorem dX5_run_49 : decode cX5_run 49 = .ok (.pop, 1) := by decide +kernel
theorem dX5_run_50 : decode cX5_run 50 = .ok (.aload_n 1, 1) := by decide +kernel
theorem dX5_run_51 : decode cX5_run 51 = .ok (.iconst 0, 1) := by decide +kernel
theorem dX5_run_52 : decode cX5_run 52 = .ok (.putfield 18, 3) := by decide +kernel
theorem dX5_run_55 : decode cX5_run 55 = .ok (.aload_n 1, 1) := by decide +kernel
theorem dX5_run_56 : decode cX5_run 56 = .ok (.dup, 1) := by decide +kernel
theorem dX5_run_57 : decode cX5_run 57 = .ok (.getfield 55, 3) := by decide +kernel
theorem dX5_run_60 : decode cX5_run 60 = .ok (.aload_n 0, 1) := by decide +kernel
theorem dX5_run_61 : decode cX5_run 61 = .ok (.getfield 59, 3) := by decide +kernel
theorem dX5_run_64 : decode cX5_run 64 = .ok (.iadd, 1) := by decide +kernel
theorem dX5_run_65 : decode cX5_run 65 = .ok (.putfield 55, 3) := by decide +kernel
theorem dX5_run_68 : decode cX5_run 68 = .ok (.aload_n 0, 1) := by decide +kernel
theorem dX5_run_69 : decode cX5_run 69 = .ok (.getfield 59, 3) := by decide +kernel
theorem dX5_run_72 : decode cX5_run 72 = .ok (.ireturn, 1) := by decide +kernel
theorem dX5_tell_0 : decode cX5_tell 0 = .ok (.iload_n 1, 1) := by decide +kernel
theorem dX5_tell_1 : decode cX5_tell 1 = .ok (.tableswitch 42 1 3 #[27, 32, 37], 27) := by decide +kernel
theorem dX5_tell_28 : decode cX5_tell 28 = .ok (.aload_n 0, 1) := by decide +kernel
theorem dX5_tell_29 : decode cX5_tell 29 = .ok (.getfield 59, 3) := by decide +kernel
theorem dX5_tell_32 : decode cX5_tell 32 = .ok (.ireturn, 1) := by decide +kernel
theorem dX5_tell_33 : decode cX5_tell 33 = .ok (.aload_n 0, 1) := by decide +kernel
theorem dX5_tell_34 : decode cX5_tell 34 = .ok (.getfield 60, 3) := by decide +kernel
theorem dX5_tell_37 : decode cX5_tell 37 = .ok (.ireturn, 1) := by decide +kernel
theorem dX5_tell_38 : decode cX5_tell 38 = .ok (.aload_n 0, 1) := by decide +kernel
theorem dX5_tell_39 : decode cX5_tell 39 = .ok (.getfield 63, 3) := by decide +kernel
theorem dX5_tell_42 : decode cX5_tell 42 = .ok (.ireturn, 1) := by decide +kernel
theorem dX5_tell_43 : decode cX5_tell 43 = .ok (.aload_n 0, 1) := by decide +kernel
theorem dX5_tell_44 : decode cX5_tell 44 = .ok (.getfield 66, 3) := by decide +kernel
theorem dX5_tell_47 : decode cX5_tell 47 = .ok (.ifCond .ne 8, 3) := by decide +kernel
theorem dX5_tell_50 : decode cX5_tell 50 = .ok (.ldc 69, 2) := by decide +kernel
theorem dX5_tell_52 : decode cX5_tell 52 = .ok (.goto 7, 3) := by decide +kernel
theorem dX5_tell_55 : decode cX5_tell 55 = .ok (.aload_n 0, 1) := by decide +kernel
theorem dX5_tell_56 : decode cX5_tell 56 = .ok (.getfield 66, 3) := by decide +kernel
theorem dX5_tell_59 : decode cX5_tell 59 = .ok (.ireturn, 1) := by decide +kernel
theorem dX5_look_0 : decode cX5_look 0 = .ok (.aload_n 1, 1) := by decide +kernel
theorem dX5_look_1 : decode cX5_look 1 = .ok (.getfield 70, 3) := by decide +kernel
theorem dX5_look_4 : decode cX5_look 4 = .ok (.istore_n 2, 1) := by decide +kernel
theorem dX5_look_5 : decode cX5_look 5 = .ok (.iload_n 2, 1) := by decide +kernel
theorem dX5_look_6 : decode cX5_look 6 = .ok (.ifCond .eq 7, 3) := by decide +kernel
theorem dX5_look_9 : decode cX5_look 9 = .ok (.iconst 1, 1) := by decide +kernel
theorem dX5_look_10 : decode cX5_look 10 = .ok (.goto 4, 3) := by decide +kernel
theorem dX5_look_13 : decode cX5_look 13 = .ok (.iconst 0, 1) := by decide +kernel
theorem dX5_look_14 : decode cX5_look 14 = .ok (.istore_n 3, 1) := by decide +kernel
theorem dX5_look_15 : decode cX5_look 15 = .ok (.aload_n 0, 1) := by decide +kernel
theorem dX5_look_16 : decode cX5_look 16 = .ok (.iload_n 3, 1) := by decide +kernel
theorem dX5_look_17 : decode cX5_look 17 = .ok (.ifCond .eq 19, 3) := by decide +kernel
theorem dX5_look_20 : decode cX5_look 20 = .ok (.iconst 0, 1) := by decide +kernel
theorem dX5_look_21 : decode cX5_look 21 = .ok (.aload_n 1, 1) := by decide +kernel
theorem dX5_look_22 : decode cX5_look 22 = .ok (.aload_n 1, 1) := by decide +kernel
theorem dX5_look_23 : decode cX5_look 23 = .ok (.getfield 73, 3) := by decide +kernel
theorem dX5_look_26 : decode cX5_look 26 = .ok (.iload_n 2, 1) := by decide +kernel
theorem dX5_look_27 : decode cX5_look 27 = .ok (.invokevirtual 76, 3) := by decide +kernel
theorem dX5_look_30 : decode cX5_look 30 = .ok (.invokestatic 80, 3) := by decide +kernel
theorem dX5_look_33 : decode cX5_look 33 = .ok (.goto 4, 3) := by decide +kernel
theorem dX5_look_36 : decode cX5_look 36 = .ok (.iconst 0, 1) := by decide +kernel
theorem dX5_look_37 : decode cX5_look 37 = .ok (.putfield 63, 3) := by decide +kernel
theorem dX5_look_40 : decode cX5_look 40 = .ok (.aload_n 0, 1) := by decide +kernel
theorem dX5_look_41 : decode cX5_look 41 = .ok (.iload_n 3, 1) := by decide +kernel
theorem dX5_look_42 : decode cX5_look 42 = .ok (.ifCond .eq 7, 3) := by decide +kernel
theorem dX5_look_45 : decode cX5_look 45 = .ok (.iload_n 2, 1) := by decide +kernel
theorem dX5_look_46 : decode cX5_look 46 = .ok (.goto 8, 3) := by decide +kernel
theorem dX5_look_49 : decode cX5_look 49 = .ok (.aload_n 1, 1) := by decide +kernel
theorem dX5_look_50 : decode cX5_look 50 = .ok (.iconst 1, 1) := by decide +kernel
theorem dX5_look_51 : decode cX5_look 51 = .ok (.invokevirtual 86, 3) := by decide +kernel
theorem dX5_look_54 : decode cX5_look 54 = .ok (.putfield 66, 3) := by decide +kernel
theorem dX5_look_57 : decode cX5_look 57 = .ok (.iconst 0, 1) := by decide +kernel
theorem dX5_look_58 : decode cX5_look 58 = .ok (.istore 4, 2) := by decide +kernel
theorem dX5_look_60 : decode cX5_look 60 = .ok (.iload 4, 2) := by decide +kernel
theorem dX5_look_62 : decode cX5_look 62 = .ok (.bipush 8, 2) := by decide +kernel
theorem dX5_look_64 : decode cX5_look 64 = .ok (.if_icmp .ge 31, 3) := by decide +kernel
theorem dX5_look_67 : decode cX5_look 67 = .ok (.aload_n 0, 1) := by decide +kernel
theorem dX5_look_68 : decode cX5_look 68 = .ok (.getfield 9, 3) := by decide +kernel
theorem dX5_look_71 : decode cX5_look 71 = .ok (.iload 4, 2) := by decide +kernel
theorem dX5_look_73 : decode cX5_look 73 = .ok (.iload_n 3, 1) := by decide +kernel
theorem dX5_look_74 : decode cX5_look 74 = .ok (.ifCond .eq 13, 3) := by decide +kernel
theorem dX5_look_77 : decode cX5_look 77 = .ok (.aload_n 1, 1) := by decide +kernel
theorem dX5_look_78 : decode cX5_look 78 = .ok (.getfield 89, 3) := by decide +kernel
theorem dX5_look_81 : decode cX5_look 81 = .ok (.iload 4, 2) := by decide +kernel
theorem dX5_look_83 : decode cX5_look 83 = .ok (.iaload, 1) := by decide +kernel
theorem dX5_look_84 : decode cX5_look 84 = .ok (.goto 4, 3) := by decide +kernel
theorem dX5_look_87 : decode cX5_look 87 = .ok (.iconst 0, 1) := by decide +kernel
theorem dX5_look_88 : decode cX5_look 88 = .ok (.iastore, 1) := by decide +kernel
theorem dX5_look_89 : decode cX5_look 89 = .ok (.iinc 4 1, 3) := by decide +kernel
theorem dX5_look_92 : decode cX5_look 92 = .ok (.goto (-32), 3) := by decide +kernel
theorem dX5_look_95 : decode cX5_look 95 = .ok (.aload_n 1, 1) := by decide +kernel
theorem dX5_look_96 : decode cX5_look 96 = .ok (.invokevirtual 45, 3) := by decide +kernel
theorem dX5_look_99 : decode cX5_look 99 = .ok (.istore 4, 2) := by decide +kernel
theorem dX5_look_101 : decode cX5_look 101 = .ok (.aload_n 1, 1) := by decide +kernel
theorem dX5_look_102 : decode cX5_look 102 = .ok (.getfield 92, 3) := by decide +kernel
theorem dX5_look_105 : decode cX5_look 105 = .ok (.aload_n 0, 1) := by decide +kernel
theorem dX5_look_106 : decode cX5_look 106 = .ok (.getfield 66, 3) := by decide +kernel
theorem dX5_look_109 : decode cX5_look 109 = .ok (.invokestatic 80, 3) := by decide +kernel
theorem dX5_look_112 : decode cX5_look 112 = .ok (.istore 5, 2) := by decide +kernel
theorem dX5_look_114 : decode cX5_look 114 = .ok (.iload 5, 2) := by decide +kernel
theorem dX5_look_116 : decode cX5_look 116 = .ok (.iload 4, 2) := by decide +kernel
theorem dX5_look_118 : decode cX5_look 118 = .ok (.if_icmp .gt 16, 3) := by decide +kernel
theorem dX5_look_121 : decode cX5_look 121 = .ok (.aload_n 0, 1) := by decide +kernel
theorem dX5_look_122 : decode cX5_look 122 = .ok (.aload_n 1, 1) := by decide +kernel
theorem dX5_look_123 : decode cX5_look 123 = .ok (.iload 5, 2) := by decide +kernel
theorem dX5_look_125 : decode cX5_look 125 = .ok (.invokevirtual 95, 3) := by decide +kernel
theorem dX5_look_128 : decode cX5_look 128 = .ok (.iinc 5 1, 3) := by decide +kernel
theorem dX5_look_131 : decode cX5_look 131 = .ok (.goto (-17), 3) := by decide +kernel
theorem dX5_look_134 : decode cX5_look 134 = .ok (.return_, 1) := by decide +kernel
theorem dX5_lookAt_0 : decode cX5_lookAt 0 = .ok (.aload_n 1, 1) := by decide +kernel
theorem dX5_lookAt_1 : decode cX5_lookAt 1 = .ok (.aload_n 1, 1) := by decide +kernel
theorem dX5_lookAt_2 : decode cX5_lookAt 2 = .ok (.getfield 99, 3) := by decide +kernel
theorem dX5_lookAt_5 : decode cX5_lookAt 5 = .ok (.iload_n 2, 1) := by decide +kernel
theorem dX5_lookAt_6 : decode cX5_lookAt 6 = .ok (.invokevirtual 76, 3) := by decide +kernel
theorem dX5_lookAt_9 : decode cX5_lookAt 9 = .ok (.istore_n 3, 1) := by decide +kernel
theorem dX5_lookAt_10 : decode cX5_lookAt 10 = .ok (.aload_n 1, 1) := by decide +kernel
theorem dX5_lookAt_11 : decode cX5_lookAt 11 = .ok (.aload_n 1, 1) := by decide +kernel
theorem dX5_lookAt_12 : decode cX5_lookAt 12 = .ok (.getfield 102, 3) := by decide +kernel
theorem dX5_lookAt_15 : decode cX5_lookAt 15 = .ok (.iload_n 2, 1) := by decide +kernel
theorem dX5_lookAt_16 : decode cX5_lookAt 16 = .ok (.invokevirtual 76, 3) := by decide +kernel
theorem dX5_lookAt_19 : decode cX5_lookAt 19 = .ok (.istore 4, 2) := by decide +kernel
theorem dX5_lookAt_21 : decode cX5_lookAt 21 = .ok (.iload_n 3, 1) := by decide +kernel
theorem dX5_lookAt_22 : decode cX5_lookAt 22 = .ok (.ifCond .lt 14, 3) := by decide +kernel
theorem dX5_lookAt_25 : decode cX5_lookAt 25 = .ok (.iload_n 3, 1) := by decide +kernel
theorem dX5_lookAt_26 : decode cX5_lookAt 26 = .ok (.iconst 4, 1) := by decide +kernel
theorem dX5_lookAt_27 : decode cX5_lookAt 27 = .ok (.if_icmp .ge 9, 3) := by decide +kernel
theorem dX5_lookAt_30 : decode cX5_lookAt 30 = .ok (.iconst 1, 1) := by decide +kernel
theorem dX5_lookAt_31 : decode cX5_lookAt 31 = .ok (.iload_n 3, 1) := by decide +kernel
theorem dX5_lookAt_32 : decode cX5_lookAt 32 = .ok (.ishl, 1) := by decide +kernel
theorem dX5_lookAt_33 : decode cX5_lookAt 33 = .ok (.goto 4, 3) := by decide +kernel
theorem dX5_lookAt_36 : decode cX5_lookAt 36 = .ok (.iconst 0, 1) := by decide +kernel
theorem dX5_lookAt_37 : decode cX5_lookAt 37 = .ok (.istore 5, 2) := by decide +kernel
theorem dX5_lookAt_39 : decode cX5_lookAt 39 = .ok (.aload_n 1, 1) := by decide +kernel
theorem dX5_lookAt_40 : decode cX5_lookAt 40 = .ok (.aload_n 1, 1) := by decide +kernel
theorem dX5_lookAt_41 : decode cX5_lookAt 41 = .ok (.getfield 105, 3) := by decide +kernel
theorem dX5_lookAt_44 : decode cX5_lookAt 44 = .ok (.iload_n 2, 1) := by decide +kernel
theorem dX5_lookAt_45 : decode cX5_lookAt 45 = .ok (.invokevirtual 76, 3) := by decide +kernel
theorem dX5_lookAt_48 : decode cX5_lookAt 48 = .ok (.tableswitch 99 0 4 #[36, 66, 50, 66, 50], 36) := by decide +kernel
theorem dX5_lookAt_84 : decode cX5_lookAt 84 = .ok (.aload_n 0, 1) := by decide +kernel
theorem dX5_lookAt_85 : decode cX5_lookAt 85 = .ok (.dup, 1) := by decide +kernel
theorem dX5_lookAt_86 : decode cX5_lookAt 86 = .ok (.getfield 63, 3) := by decide +kernel
theorem dX5_lookAt_89 : decode cX5_lookAt 89 = .ok (.iload 5, 2) := by decide +kernel
theorem dX5_lookAt_91 : decode cX5_lookAt 91 = .ok (.ior, 1) := by decide +kernel
theorem dX5_lookAt_92 : decode cX5_lookAt 92 = .ok (.putfield 63, 3) := by decide +kernel
theorem dX5_lookAt_95 : decode cX5_lookAt 95 = .ok (.goto 52, 3) := by decide +kernel
theorem dX5_lookAt_98 : decode cX5_lookAt 98 = .ok (.aload_n 0, 1) := by decide +kernel
theorem dX5_lookAt_99 : decode cX5_lookAt 99 = .ok (.dup, 1) := by decide +kernel
theorem dX5_lookAt_100 : decode cX5_lookAt 100 = .ok (.getfield 63, 3) := by decide +kernel
theorem dX5_lookAt_103 : decode cX5_lookAt 103 = .ok (.iload 5, 2) := by decide +kernel
theorem dX5_lookAt_105 : decode cX5_lookAt 105 = .ok (.iconst (-1), 1) := by decide +kernel
theorem dX5_lookAt_106 : decode cX5_lookAt 106 = .ok (.ixor, 1) := by decide +kernel
theorem dX5_lookAt_107 : decode cX5_lookAt 107 = .ok (.iand, 1) := by decide +kernel
theorem dX5_lookAt_108 : decode cX5_lookAt 108 = .ok (.putfield 63, 3) := by decide +kernel
theorem dX5_lookAt_111 : decode cX5_lookAt 111 = .ok (.goto 36, 3) := by decide +kernel
theorem dX5_lookAt_114 : decode cX5_lookAt 114 = .ok (.iload 4, 2) := by decide +kernel
theorem dX5_lookAt_116 : decode cX5_lookAt 116 = .ok (.ifCond .lt 31, 3) := by decide +kernel
theorem dX5_lookAt_119 : decode cX5_lookAt 119 = .ok (.iload 4, 2) := by decide +kernel
theorem dX5_lookAt_121 : decode cX5_lookAt 121 = .ok (.bipush 8, 2) := by decide +kernel
theorem dX5_lookAt_123 : decode cX5_lookAt 123 = .ok (.if_icmp .ge 24, 3) := by decide +kernel
theorem dX5_lookAt_126 : decode cX5_lookAt 126 = .ok (.aload_n 0, 1) := by decide +kernel
theorem dX5_lookAt_127 : decode cX5_lookAt 127 = .ok (.getfield 9, 3) := by decide +kernel
theorem dX5_lookAt_130 : decode cX5_lookAt 130 = .ok (.iload 4, 2) := by decide +kernel
theorem dX5_lookAt_132 : decode cX5_lookAt 132 = .ok (.iaload, 1) := by decide +kernel
theorem dX5_lookAt_133 : decode cX5_lookAt 133 = .ok (.ifCond .ne 14, 3) := by decide +kernel
theorem dX5_lookAt_136 : decode cX5_lookAt 136 = .ok (.aload_n 0, 1) := by decide +kernel
theorem dX5_lookAt_137 : decode cX5_lookAt 137 = .ok (.getfield 9, 3) := by decide +kernel
theorem dX5_lookAt_140 : decode cX5_lookAt 140 = .ok (.iload 4, 2) := by decide +kernel
theorem dX5_lookAt_142 : decode cX5_lookAt 142 = .ok (.iload_n 2, 1) := by decide +kernel
theorem dX5_lookAt_143 : decode cX5_lookAt 143 = .ok (.iastore, 1) := by decide +kernel
theorem dX5_lookAt_144 : decode cX5_lookAt 144 = .ok (.goto 3, 3) := by decide +kernel
theorem dX5_lookAt_147 : decode cX5_lookAt 147 = .ok (.return_, 1) := by decide +kernel
theorem dX5_doAgain_0 : decode cX5_doAgain 0 = .ok (.aload_n 0, 1) := by decide +kernel
theorem dX5_doAgain_1 : decode cX5_doAgain 1 = .ok (.iconst 0, 1) := by decide +kernel
theorem dX5_doAgain_2 : decode cX5_doAgain 2 = .ok (.putfield 59, 3) := by decide +kernel
theorem dX5_doAgain_5 : decode cX5_doAgain 5 = .ok (.aload_n 0, 1) := by decide +kernel
theorem dX5_doAgain_6 : decode cX5_doAgain 6 = .ok (.invokevirtual 108, 3) := by decide +kernel
theorem dX5_doAgain_9 : decode cX5_doAgain 9 = .ok (.istore_n 3, 1) := by decide +kernel
theorem dX5_doAgain_10 : decode cX5_doAgain 10 = .ok (.iload_n 3, 1) := by decide +kernel
theorem dX5_doAgain_11 : decode cX5_doAgain 11 = .ok (.ifCond .ne 4, 3) := by decide +kernel
theorem dX5_doAgain_14 : decode cX5_doAgain 14 = .ok (.return_, 1) := by decide +kernel
theorem dX5_doAgain_15 : decode cX5_doAgain 15 = .ok (.aload_n 1, 1) := by decide +kernel
theorem dX5_doAgain_16 : decode cX5_doAgain 16 = .ok (.invokevirtual 45, 3) := by decide +kernel
theorem dX5_doAgain_19 : decode cX5_doAgain 19 = .ok (.istore 4, 2) := by decide +kernel
theorem dX5_doAgain_21 : decode cX5_doAgain 21 = .ok (.iload_n 3, 1) := by decide +kernel
theorem dX5_doAgain_22 : decode cX5_doAgain 22 = .ok (.istore 5, 2) := by decide +kernel
theorem dX5_doAgain_24 : decode cX5_doAgain 24 = .ok (.iload 5, 2) := by decide +kernel
theorem dX5_doAgain_26 : decode cX5_doAgain 26 = .ok (.iload 4, 2) := by decide +kernel
theorem dX5_doAgain_28 : decode cX5_doAgain 28 = .ok (.if_icmp .gt 107, 3) := by decide +kernel
theorem dX5_doAgain_31 : decode cX5_doAgain 31 = .ok (.aload_n 1, 1) := by decide +kernel
theorem dX5_doAgain_32 : decode cX5_doAgain 32 = .ok (.aload_n 1, 1) := by decide +kernel
theorem dX5_doAgain_33 : decode cX5_doAgain 33 = .ok (.getfield 105, 3) := by decide +kernel
theorem dX5_doAgain_36 : decode cX5_doAgain 36 = .ok (.iload 5, 2) := by decide +kernel
theorem dX5_doAgain_38 : decode cX5_doAgain 38 = .ok (.invokevirtual 76, 3) := by decide +kernel
theorem dX5_doAgain_41 : decode cX5_doAgain 41 = .ok (.istore 6, 2) := by decide +kernel
theorem dX5_doAgain_43 : decode cX5_doAgain 43 = .ok (.aload_n 1, 1) := by decide +kernel
theorem dX5_doAgain_44 : decode cX5_doAgain 44 = .ok (.aload_n 1, 1) := by decide +kernel
theorem dX5_doAgain_45 : decode cX5_doAgain 45 = .ok (.getfield 102, 3) := by decide +kernel
theorem dX5_doAgain_48 : decode cX5_doAgain 48 = .ok (.iload 5, 2) := by decide +kernel
theorem dX5_doAgain_50 : decode cX5_doAgain 50 = .ok (.invokevirtual 76, 3) := by decide +kernel
theorem dX5_doAgain_53 : decode cX5_doAgain 53 = .ok (.istore 7, 2) := by decide +kernel
theorem dX5_doAgain_55 : decode cX5_doAgain 55 = .ok (.iload 6, 2) := by decide +kernel
theorem dX5_doAgain_57 : decode cX5_doAgain 57 = .ok (.iconst 1, 1) := by decide +kernel
theorem dX5_doAgain_58 : decode cX5_doAgain 58 = .ok (.if_icmp .eq 9, 3) := by decide +kernel
theorem dX5_doAgain_61 : decode cX5_doAgain 61 = .ok (.iload 6, 2) := by decide +kernel
theorem dX5_doAgain_63 : decode cX5_doAgain 63 = .ok (.iconst 3, 1) := by decide +kernel
theorem dX5_doAgain_64 : decode cX5_doAgain 64 = .ok (.if_icmp .ne 7, 3) := by decide +kernel
theorem dX5_doAgain_67 : decode cX5_doAgain 67 = .ok (.iconst 1, 1) := by decide +kernel
theorem dX5_doAgain_68 : decode cX5_doAgain 68 = .ok (.goto 4, 3) := by decide +kernel
theorem dX5_doAgain_71 : decode cX5_doAgain 71 = .ok (.iconst 0, 1) := by decide +kernel
theorem dX5_doAgain_72 : decode cX5_doAgain 72 = .ok (.istore 8, 2) := by decide +kernel
theorem dX5_doAgain_74 : decode cX5_doAgain 74 = .ok (.iload 8, 2) := by decide +kernel
theorem dX5_doAgain_76 : decode cX5_doAgain 76 = .ok (.ifCond .eq 53, 3) := by decide +kernel
theorem dX5_doAgain_79 : decode cX5_doAgain 79 = .ok (.aload_n 0, 1) := by decide +kernel
theorem dX5_doAgain_80 : decode cX5_doAgain 80 = .ok (.iload 7, 2) := by decide +kernel
theorem dX5_doAgain_82 : decode cX5_doAgain 82 = .ok (.iload 5, 2) := by decide +kernel
theorem dX5_doAgain_84 : decode cX5_doAgain 84 = .ok (.invokevirtual 111, 3) := by decide +kernel
theorem dX5_doAgain_87 : decode cX5_doAgain 87 = .ok (.ifCond .eq 42, 3) := by decide +kernel
theorem dX5_doAgain_90 : decode cX5_doAgain 90 = .ok (.aload_n 2, 1) := by decide +kernel
theorem dX5_doAgain_91 : decode cX5_doAgain 91 = .ok (.iload 7, 2) := by decide +kernel
theorem dX5_doAgain_93 : decode cX5_doAgain 93 = .ok (.invokevirtual 115, 3) := by decide +kernel
theorem dX5_doAgain_96 : decode cX5_doAgain 96 = .ok (.iload 5, 2) := by decide +kernel
theorem dX5_doAgain_98 : decode cX5_doAgain 98 = .ok (.if_icmp .ge 31, 3) := by decide +kernel
theorem dX5_doAgain_101 : decode cX5_doAgain 101 = .ok (.aload_n 2, 1) := by decide +kernel
theorem dX5_doAgain_102 : decode cX5_doAgain 102 = .ok (.iload 7, 2) := by decide +kernel
theorem dX5_doAgain_104 : decode cX5_doAgain 104 = .ok (.aload_n 1, 1) := by decide +kernel
theorem dX5_doAgain_105 : decode cX5_doAgain 105 = .ok (.aload_n 1, 1) := by decide +kernel
theorem dX5_doAgain_106 : decode cX5_doAgain 106 = .ok (.getfield 120, 3) := by decide +kernel
theorem dX5_doAgain_109 : decode cX5_doAgain 109 = .ok (.iload 5, 2) := by decide +kernel
theorem dX5_doAgain_111 : decode cX5_doAgain 111 = .ok (.invokevirtual 76, 3) := by decide +kernel
theorem dX5_doAgain_114 : decode cX5_doAgain 114 = .ok (.iload 5, 2) := by decide +kernel
theorem dX5_doAgain_116 : decode cX5_doAgain 116 = .ok (.invokevirtual 123, 3) := by decide +kernel
theorem dX5_doAgain_119 : decode cX5_doAgain 119 = .ok (.aload_n 0, 1) := by decide +kernel
theorem dX5_doAgain_120 : decode cX5_doAgain 120 = .ok (.dup, 1) := by decide +kernel
theorem dX5_doAgain_121 : decode cX5_doAgain 121 = .ok (.getfield 59, 3) := by decide +kernel
theorem dX5_doAgain_124 : decode cX5_doAgain 124 = .ok (.iconst 1, 1) := by decide +kernel
theorem dX5_doAgain_125 : decode cX5_doAgain 125 = .ok (.iadd, 1) := by decide +kernel
theorem dX5_doAgain_126 : decode cX5_doAgain 126 = .ok (.putfield 59, 3) := by decide +kernel
theorem dX5_doAgain_129 : decode cX5_doAgain 129 = .ok (.iinc 5 1, 3) := by decide +kernel
theorem dX5_doAgain_132 : decode cX5_doAgain 132 = .ok (.goto (-108), 3) := by decide +kernel
theorem dX5_doAgain_135 : decode cX5_doAgain 135 = .ok (.return_, 1) := by decide +kernel
theorem dX5_isAfterStart_0 : decode cX5_isAfterStart 0 = .ok (.iload_n 1, 1) := by decide +kernel
theorem dX5_isAfterStart_1 : decode cX5_isAfterStart 1 = .ok (.ifCond .lt 32, 3) := by decide +kernel
theorem dX5_isAfterStart_4 : decode cX5_isAfterStart 4 = .ok (.iload_n 1, 1) := by decide +kernel
theorem dX5_isAfterStart_5 : decode cX5_isAfterStart 5 = .ok (.bipush 8, 2) := by decide +kernel
theorem dX5_isAfterStart_7 : decode cX5_isAfterStart 7 = .ok (.if_icmp .ge 26, 3) := by decide +kernel
theorem dX5_isAfterStart_10 : decode cX5_isAfterStart 10 = .ok (.aload_n 0, 1) := by decide +kernel
theorem dX5_isAfterStart_11 : decode cX5_isAfterStart 11 = .ok (.getfield 9, 3) := by decide +kernel
theorem dX5_isAfterStart_14 : decode cX5_isAfterStart 14 = .ok (.iload_n 1, 1) := by decide +kernel
theorem dX5_isAfterStart_15 : decode cX5_isAfterStart 15 = .ok (.iaload, 1) := by decide +kernel
theorem dX5_isAfterStart_16 : decode cX5_isAfterStart 16 = .ok (.ifCond .eq 17, 3) := by decide +kernel
theorem dX5_isAfterStart_19 : decode cX5_isAfterStart 19 = .ok (.aload_n 0, 1) := by decide +kernel
theorem dX5_isAfterStart_20 : decode cX5_isAfterStart 20 = .ok (.getfield 9, 3) := by decide +kernel
theorem dX5_isAfterStart_23 : decode cX5_isAfterStart 23 = .ok (.iload_n 1, 1) := by decide +kernel
theorem dX5_isAfterStart_24 : decode cX5_isAfterStart 24 = .ok (.iaload, 1) := by decide +kernel
theorem dX5_isAfterStart_25 : decode cX5_isAfterStart 25 = .ok (.iload_n 2, 1) := by decide +kernel
theorem dX5_isAfterStart_26 : decode cX5_isAfterStart 26 = .ok (.if_icmp .gt 7, 3) := by decide +kernel
theorem dX5_isAfterStart_29 : decode cX5_isAfterStart 29 = .ok (.iconst 1, 1) := by decide +kernel
theorem dX5_isAfterStart_30 : decode cX5_isAfterStart 30 = .ok (.goto 4, 3) := by decide +kernel
theorem dX5_isAfterStart_33 : decode cX5_isAfterStart 33 = .ok (.iconst 0, 1) := by decide +kernel
theorem dX5_isAfterStart_34 : decode cX5_isAfterStart 34 = .ok (.ireturn, 1) := by decide +kernel
theorem dX5_leastStart_0 : decode cX5_leastStart 0 = .ok (.iconst 0, 1) := by decide +kernel
theorem dX5_leastStart_1 : decode cX5_leastStart 1 = .ok (.istore_n 1, 1) := by decide +kernel
theorem dX5_leastStart_2 : decode cX5_leastStart 2 = .ok (.iconst 0, 1) := by decide +kernel
theorem dX5_leastStart_3 : decode cX5_leastStart 3 = .ok (.istore_n 2, 1) := by decide +kernel
theorem dX5_leastStart_4 : decode cX5_leastStart 4 = .ok (.iload_n 2, 1) := by decide +kernel
theorem dX5_leastStart_5 : decode cX5_leastStart 5 = .ok (.bipush 8, 2) := by decide +kernel
theorem dX5_leastStart_7 : decode cX5_leastStart 7 = .ok (.if_icmp .ge 39, 3) := by decide +kernel
theorem dX5_leastStart_10 : decode cX5_leastStart 10 = .ok (.aload_n 0, 1) := by decide +kernel
theorem dX5_leastStart_11 : decode cX5_leastStart 11 = .ok (.getfield 9, 3) := by decide +kernel
theorem dX5_leastStart_14 : decode cX5_leastStart 14 = .ok (.iload_n 2, 1) := by decide +kernel
theorem dX5_leastStart_15 : decode cX5_leastStart 15 = .ok (.iaload, 1) := by decide +kernel
theorem dX5_leastStart_16 : decode cX5_leastStart 16 = .ok (.ifCond .eq 24, 3) := by decide +kernel
theorem dX5_leastStart_19 : decode cX5_leastStart 19 = .ok (.iload_n 1, 1) := by decide +kernel
theorem dX5_leastStart_20 : decode cX5_leastStart 20 = .ok (.ifCond .eq 13, 3) := by decide +kernel
theorem dX5_leastStart_23 : decode cX5_leastStart 23 = .ok (.aload_n 0, 1) := by decide +kernel
theorem dX5_leastStart_24 : decode cX5_leastStart 24 = .ok (.getfield 9, 3) := by decide +kernel
theorem dX5_leastStart_27 : decode cX5_leastStart 27 = .ok (.iload_n 2, 1) := by decide +kernel
theorem dX5_leastStart_28 : decode cX5_leastStart 28 = .ok (.iaload, 1) := by decide +kernel
theorem dX5_leastStart_29 : decode cX5_leastStart 29 = .ok (.iload_n 1, 1) := by decide +kernel
theorem dX5_leastStart_30 : decode cX5_leastStart 30 = .ok (.if_icmp .ge 10, 3) := by decide +kernel
theorem dX5_leastStart_33 : decode cX5_leastStart 33 = .ok (.aload_n 0, 1) := by decide +kernel
theorem dX5_leastStart_34 : decode cX5_leastStart 34 = .ok (.getfield 9, 3) := by decide +kernel
theorem dX5_leastStart_37 : decode cX5_leastStart 37 = .ok (.iload_n 2, 1) := by decide +kernel
theorem dX5_leastStart_38 : decode cX5_leastStart 38 = .ok (.iaload, 1) := by decide +kernel
theorem dX5_leastStart_39 : decode cX5_leastStart 39 = .ok (.istore_n 1, 1) := by decide +kernel
theorem dX5_leastStart_40 : decode cX5_leastStart 40 = .ok (.iinc 2 1, 3) := by decide +kernel
theorem dX5_leastStart_43 : decode cX5_leastStart 43 = .ok (.goto (-39), 3) := by decide +kernel
theorem dX5_leastStart_46 : decode cX5_leastStart 46 = .ok (.iload_n 1, 1) := by decide +kernel
theorem dX5_leastStart_47 : decode cX5_leastStart 47 = .ok (.ireturn, 1) := by decide +kernel
theorem dX5_takeLosersBack_0 : decode cX5_takeLosersBack 0 = .ok (.aload_n 1, 1) := by decide +kernel
theorem dX5_takeLosersBack_1 : decode cX5_takeLosersBack 1 = .ok (.getfield 25, 3) := by decide +kernel
theorem dX5_takeLosersBack_4 : decode cX5_takeLosersBack 4 = .ok (.astore_n 2, 1) := by decide +kernel
theorem dX5_takeLosersBack_5 : decode cX5_takeLosersBack 5 = .ok (.aload_n 0, 1) := by decide +kernel
theorem dX5_takeLosersBack_6 : decode cX5_takeLosersBack 6 = .ok (.iconst 0, 1) := by decide +kernel
theorem dX5_takeLosersBack_7 : decode cX5_takeLosersBack 7 = .ok (.putfield 60, 3) := by decide +kernel
theorem dX5_takeLosersBack_10 : decode cX5_takeLosersBack 10 = .ok (.iconst 0, 1) := by decide +kernel
theorem dX5_takeLosersBack_11 : decode cX5_takeLosersBack 11 = .ok (.istore_n 3, 1) := by decide +kernel
theorem dX5_takeLosersBack_12 : decode cX5_takeLosersBack 12 = .ok (.iload_n 3, 1) := by decide +kernel
theorem dX5_takeLosersBack_13 : decode cX5_takeLosersBack 13 = .ok (.sipush 128, 3) := by decide +kernel
theorem dX5_takeLosersBack_16 : decode cX5_takeLosersBack 16 = .ok (.if_icmp .ge 16, 3) := by decide +kernel
theorem dX5_takeLosersBack_19 : decode cX5_takeLosersBack 19 = .ok (.aload_n 0, 1) := by decide +kernel
theorem dX5_takeLosersBack_20 : decode cX5_takeLosersBack 20 = .ok (.getfield 15, 3) := by decide +kernel
theorem dX5_takeLosersBack_23 : decode cX5_takeLosersBack 23 = .ok (.iload_n 3, 1) := by decide +kernel
theorem dX5_takeLosersBack_24 : decode cX5_takeLosersBack 24 = .ok (.iconst 0, 1) := by decide +kernel
theorem dX5_takeLosersBack_25 : decode cX5_takeLosersBack 25 = .ok (.iastore, 1) := by decide +kernel
theorem dX5_takeLosersBack_26 : decode cX5_takeLosersBack 26 = .ok (.iinc 3 1, 3) := by decide +kernel
theorem dX5_takeLosersBack_29 : decode cX5_takeLosersBack 29 = .ok (.goto (-17), 3) := by decide +kernel
theorem dX5_takeLosersBack_32 : decode cX5_takeLosersBack 32 = .ok (.aload_n 0, 1) := by decide +kernel
theorem dX5_takeLosersBack_33 : decode cX5_takeLosersBack 33 = .ok (.getfield 63, 3) := by decide +kernel
theorem dX5_takeLosersBack_36 : decode cX5_takeLosersBack 36 = .ok (.istore_n 3, 1) := by decide +kernel
theorem dX5_takeLosersBack_37 : decode cX5_takeLosersBack 37 = .ok (.aload_n 2, 1) := by decide +kernel
theorem dX5_takeLosersBack_38 : decode cX5_takeLosersBack 38 = .ok (.invokevirtual 45, 3) := by decide +kernel
theorem dX5_takeLosersBack_41 : decode cX5_takeLosersBack 41 = .ok (.istore 4, 2) := by decide +kernel
theorem dX5_takeLosersBack_43 : decode cX5_takeLosersBack 43 = .ok (.iload 4, 2) := by decide +kernel
theorem dX5_takeLosersBack_45 : decode cX5_takeLosersBack 45 = .ok (.aload_n 2, 1) := by decide +kernel
theorem dX5_takeLosersBack_46 : decode cX5_takeLosersBack 46 = .ok (.getfield 92, 3) := by decide +kernel
theorem dX5_takeLosersBack_49 : decode cX5_takeLosersBack 49 = .ok (.if_icmp .lt 162, 3) := by decide +kernel
theorem dX5_takeLosersBack_52 : decode cX5_takeLosersBack 52 = .ok (.iload_n 3, 1) := by decide +kernel
theorem dX5_takeLosersBack_53 : decode cX5_takeLosersBack 53 = .ok (.ifCond .eq 158, 3) := by decide +kernel
theorem dX5_takeLosersBack_56 : decode cX5_takeLosersBack 56 = .ok (.aload_n 2, 1) := by decide +kernel
theorem dX5_takeLosersBack_57 : decode cX5_takeLosersBack 57 = .ok (.aload_n 2, 1) := by decide +kernel
theorem dX5_takeLosersBack_58 : decode cX5_takeLosersBack 58 = .ok (.getfield 105, 3) := by decide +kernel
theorem dX5_takeLosersBack_61 : decode cX5_takeLosersBack 61 = .ok (.iload 4, 2) := by decide +kernel
theorem dX5_takeLosersBack_63 : decode cX5_takeLosersBack 63 = .ok (.invokevirtual 76, 3) := by decide +kernel
theorem dX5_takeLosersBack_66 : decode cX5_takeLosersBack 66 = .ok (.istore 5, 2) := by decide +kernel
theorem dX5_takeLosersBack_68 : decode cX5_takeLosersBack 68 = .ok (.aload_n 2, 1) := by decide +kernel
theorem dX5_takeLosersBack_69 : decode cX5_takeLosersBack 69 = .ok (.aload_n 2, 1) := by decide +kernel
theorem dX5_takeLosersBack_70 : decode cX5_takeLosersBack 70 = .ok (.getfield 99, 3) := by decide +kernel
theorem dX5_takeLosersBack_73 : decode cX5_takeLosersBack 73 = .ok (.iload 4, 2) := by decide +kernel
theorem dX5_takeLosersBack_75 : decode cX5_takeLosersBack 75 = .ok (.invokevirtual 76, 3) := by decide +kernel
theorem dX5_takeLosersBack_78 : decode cX5_takeLosersBack 78 = .ok (.istore 6, 2) := by decide +kernel
theorem dX5_takeLosersBack_80 : decode cX5_takeLosersBack 80 = .ok (.iload 6, 2) := by decide +kernel
theorem dX5_takeLosersBack_82 : decode cX5_takeLosersBack 82 = .ok (.ifCond .lt 23, 3) := by decide +kernel
theorem dX5_takeLosersBack_85 : decode cX5_takeLosersBack 85 = .ok (.iload 6, 2) := by decide +kernel
theorem dX5_takeLosersBack_87 : decode cX5_takeLosersBack 87 = .ok (.iconst 4, 1) := by decide +kernel
theorem dX5_takeLosersBack_88 : decode cX5_takeLosersBack 88 = .ok (.if_icmp .ge 17, 3) := by decide +kernel
theorem dX5_takeLosersBack_91 : decode cX5_takeLosersBack 91 = .ok (.iload_n 3, 1) := by decide +kernel
theorem dX5_takeLosersBack_92 : decode cX5_takeLosersBack 92 = .ok (.iload 6, 2) := by decide +kernel
theorem dX5_takeLosersBack_94 : decode cX5_takeLosersBack 94 = .ok (.ishr, 1) := by decide +kernel
theorem dX5_takeLosersBack_95 : decode cX5_takeLosersBack 95 = .ok (.iconst 1, 1) := by decide +kernel
theorem dX5_takeLosersBack_96 : decode cX5_takeLosersBack 96 = .ok (.iand, 1) := by decide +kernel
theorem dX5_takeLosersBack_97 : decode cX5_takeLosersBack 97 = .ok (.iconst 1, 1) := by decide +kernel
theorem dX5_takeLosersBack_98 : decode cX5_takeLosersBack 98 = .ok (.if_icmp .ne 7, 3) := by decide +kernel
theorem dX5_takeLosersBack_101 : decode cX5_takeLosersBack 101 = .ok (.iconst 1, 1) := by decide +kernel
theorem dX5_takeLosersBack_102 : decode cX5_takeLosersBack 102 = .ok (.goto 4, 3) := by decide +kernel
theorem dX5_takeLosersBack_105 : decode cX5_takeLosersBack 105 = .ok (.iconst 0, 1) := by decide +kernel
theorem dX5_takeLosersBack_106 : decode cX5_takeLosersBack 106 = .ok (.istore 7, 2) := by decide +kernel
theorem dX5_takeLosersBack_108 : decode cX5_takeLosersBack 108 = .ok (.iload 5, 2) := by decide +kernel
theorem dX5_takeLosersBack_110 : decode cX5_takeLosersBack 110 = .ok (.iconst 3, 1) := by decide +kernel
theorem dX5_takeLosersBack_111 : decode cX5_takeLosersBack 111 = .ok (.if_icmp .ne 25, 3) := by decide +kernel
theorem dX5_takeLosersBack_114 : decode cX5_takeLosersBack 114 = .ok (.aload_n 0, 1) := by decide +kernel
theorem dX5_takeLosersBack_115 : decode cX5_takeLosersBack 115 = .ok (.aload_n 2, 1) := by decide +kernel
theorem dX5_takeLosersBack_116 : decode cX5_takeLosersBack 116 = .ok (.aload_n 2, 1) := by decide +kernel
theorem dX5_takeLosersBack_117 : decode cX5_takeLosersBack 117 = .ok (.getfield 127, 3) := by decide +kernel
theorem dX5_takeLosersBack_120 : decode cX5_takeLosersBack 120 = .ok (.iload 4, 2) := by decide +kernel
theorem dX5_takeLosersBack_122 : decode cX5_takeLosersBack 122 = .ok (.invokevirtual 76, 3) := by decide +kernel
theorem dX5_takeLosersBack_125 : decode cX5_takeLosersBack 125 = .ok (.aload_n 2, 1) := by decide +kernel
theorem dX5_takeLosersBack_126 : decode cX5_takeLosersBack 126 = .ok (.getfield 92, 3) := by decide +kernel
theorem dX5_takeLosersBack_129 : decode cX5_takeLosersBack 129 = .ok (.isub, 1) := by decide +kernel
theorem dX5_takeLosersBack_130 : decode cX5_takeLosersBack 130 = .ok (.invokevirtual 130, 3) := by decide +kernel
theorem dX5_takeLosersBack_133 : decode cX5_takeLosersBack 133 = .ok (.goto 72, 3) := by decide +kernel
theorem dX5_takeLosersBack_136 : decode cX5_takeLosersBack 136 = .ok (.iload 7, 2) := by decide +kernel
theorem dX5_takeLosersBack_138 : decode cX5_takeLosersBack 138 = .ok (.ifCond .eq 26, 3) := by decide +kernel
theorem dX5_takeLosersBack_141 : decode cX5_takeLosersBack 141 = .ok (.iload 5, 2) := by decide +kernel
theorem dX5_takeLosersBack_143 : decode cX5_takeLosersBack 143 = .ok (.ifCond .ne 21, 3) := by decide +kernel
theorem dX5_takeLosersBack_146 : decode cX5_takeLosersBack 146 = .ok (.aload_n 1, 1) := by decide +kernel
theorem dX5_takeLosersBack_147 : decode cX5_takeLosersBack 147 = .ok (.iload 6, 2) := by decide +kernel
theorem dX5_takeLosersBack_149 : decode cX5_takeLosersBack 149 = .ok (.invokevirtual 134, 3) := by decide +kernel
theorem dX5_takeLosersBack_152 : decode cX5_takeLosersBack 152 = .ok (.iload_n 3, 1) := by decide +kernel
theorem dX5_takeLosersBack_153 : decode cX5_takeLosersBack 153 = .ok (.iconst 1, 1) := by decide +kernel
theorem dX5_takeLosersBack_154 : decode cX5_takeLosersBack 154 = .ok (.iload 6, 2) := by decide +kernel
theorem dX5_takeLosersBack_156 : decode cX5_takeLosersBack 156 = .ok (.ishl, 1) := by decide +kernel
theorem dX5_takeLosersBack_157 : decode cX5_takeLosersBack 157 = .ok (.iconst (-1), 1) := by decide +kernel
theorem dX5_takeLosersBack_158 : decode cX5_takeLosersBack 158 = .ok (.ixor, 1) := by decide +kernel
theorem dX5_takeLosersBack_159 : decode cX5_takeLosersBack 159 = .ok (.iand, 1) := by decide +kernel
theorem dX5_takeLosersBack_160 : decode cX5_takeLosersBack 160 = .ok (.istore_n 3, 1) := by decide +kernel
theorem dX5_takeLosersBack_161 : decode cX5_takeLosersBack 161 = .ok (.goto 44, 3) := by decide +kernel
theorem dX5_takeLosersBack_164 : decode cX5_takeLosersBack 164 = .ok (.iload 7, 2) := by decide +kernel
theorem dX5_takeLosersBack_166 : decode cX5_takeLosersBack 166 = .ok (.ifCond .eq 39, 3) := by decide +kernel
theorem dX5_takeLosersBack_169 : decode cX5_takeLosersBack 169 = .ok (.iload 5, 2) := by decide +kernel
theorem dX5_takeLosersBack_171 : decode cX5_takeLosersBack 171 = .ok (.iconst 1, 1) := by decide +kernel
theorem dX5_takeLosersBack_172 : decode cX5_takeLosersBack 172 = .ok (.if_icmp .ne 33, 3) := by decide +kernel
theorem dX5_takeLosersBack_175 : decode cX5_takeLosersBack 175 = .ok (.aload_n 0, 1) := by decide +kernel
theorem dX5_takeLosersBack_176 : decode cX5_takeLosersBack 176 = .ok (.iload 4, 2) := by decide +kernel
theorem dX5_takeLosersBack_178 : decode cX5_takeLosersBack 178 = .ok (.aload_n 2, 1) := by decide +kernel
theorem dX5_takeLosersBack_179 : decode cX5_takeLosersBack 179 = .ok (.getfield 92, 3) := by decide +kernel
theorem dX5_takeLosersBack_182 : decode cX5_takeLosersBack 182 = .ok (.isub, 1) := by decide +kernel
theorem dX5_takeLosersBack_183 : decode cX5_takeLosersBack 183 = .ok (.invokevirtual 137, 3) := by decide +kernel
theorem dX5_takeLosersBack_186 : decode cX5_takeLosersBack 186 = .ok (.ifCond .ne 19, 3) := by decide +kernel
theorem dX5_takeLosersBack_189 : decode cX5_takeLosersBack 189 = .ok (.aload_n 1, 1) := by decide +kernel
theorem dX5_takeLosersBack_190 : decode cX5_takeLosersBack 190 = .ok (.iload 4, 2) := by decide +kernel
theorem dX5_takeLosersBack_192 : decode cX5_takeLosersBack 192 = .ok (.invokevirtual 141, 3) := by decide +kernel
theorem dX5_takeLosersBack_195 : decode cX5_takeLosersBack 195 = .ok (.aload_n 0, 1) := by decide +kernel
theorem dX5_takeLosersBack_196 : decode cX5_takeLosersBack 196 = .ok (.dup, 1) := by decide +kernel
theorem dX5_takeLosersBack_197 : decode cX5_takeLosersBack 197 = .ok (.getfield 60, 3) := by decide +kernel
theorem dX5_takeLosersBack_200 : decode cX5_takeLosersBack 200 = .ok (.iconst 1, 1) := by decide +kernel
theorem dX5_takeLosersBack_201 : decode cX5_takeLosersBack 201 = .ok (.iadd, 1) := by decide +kernel
theorem dX5_takeLosersBack_202 : decode cX5_takeLosersBack 202 = .ok (.putfield 60, 3) := by decide +kernel
theorem dX5_takeLosersBack_205 : decode cX5_takeLosersBack 205 = .ok (.iinc 4 (-1), 3) := by decide +kernel
theorem dX5_takeLosersBack_208 : decode cX5_takeLosersBack 208 = .ok (.goto (-165), 3) := by decide +kernel
theorem dX5_takeLosersBack_211 : decode cX5_takeLosersBack 211 = .ok (.return_, 1) := by decide +kernel
theorem dX5_noteTakenBack_0 : decode cX5_noteTakenBack 0 = .ok (.iload_n 1, 1) := by decide +kernel
theorem dX5_noteTakenBack_1 : decode cX5_noteTakenBack 1 = .ok (.ifCond .lt 17, 3) := by decide +kernel
theorem dX5_noteTakenBack_4 : decode cX5_noteTakenBack 4 = .ok (.iload_n 1, 1) := by decide +kernel
theorem dX5_noteTakenBack_5 : decode cX5_noteTakenBack 5 = .ok (.sipush 128, 3) := by decide +kernel
theorem dX5_noteTakenBack_8 : decode cX5_noteTakenBack 8 = .ok (.if_icmp .ge 10, 3) := by decide +kernel
theorem dX5_noteTakenBack_11 : decode cX5_noteTakenBack 11 = .ok (.aload_n 0, 1) := by decide +kernel
theorem dX5_noteTakenBack_12 : decode cX5_noteTakenBack 12 = .ok (.getfield 15, 3) := by decide +kernel
theorem dX5_noteTakenBack_15 : decode cX5_noteTakenBack 15 = .ok (.iload_n 1, 1) := by decide +kernel
theorem dX5_noteTakenBack_16 : decode cX5_noteTakenBack 16 = .ok (.iconst 1, 1) := by decide +kernel
theorem dX5_noteTakenBack_17 : decode cX5_noteTakenBack 17 = .ok (.iastore, 1) := by decide +kernel
theorem dX5_noteTakenBack_18 : decode cX5_noteTakenBack 18 = .ok (.return_, 1) := by decide +kernel
theorem dX5_isTakenBack_0 : decode cX5_isTakenBack 0 = .ok (.iload_n 1, 1) := by decide +kernel
theorem dX5_isTakenBack_1 : decode cX5_isTakenBack 1 = .ok (.ifCond .lt 24, 3) := by decide +kernel
theorem dX5_isTakenBack_4 : decode cX5_isTakenBack 4 = .ok (.iload_n 1, 1) := by decide +kernel
theorem dX5_isTakenBack_5 : decode cX5_isTakenBack 5 = .ok (.sipush 128, 3) := by decide +kernel
theorem dX5_isTakenBack_8 : decode cX5_isTakenBack 8 = .ok (.if_icmp .ge 17, 3) := by decide +kernel
theorem dX5_isTakenBack_11 : decode cX5_isTakenBack 11 = .ok (.aload_n 0, 1) := by decide +kernel
theorem dX5_isTakenBack_12 : decode cX5_isTakenBack 12 = .ok (.getfield 15, 3) := by decide +kernel
theorem dX5_isTakenBack_15 : decode cX5_isTakenBack 15 = .ok (.iload_n 1, 1) := by decide +kernel
theorem dX5_isTakenBack_16 : decode cX5_isTakenBack 16 = .ok (.iaload, 1) := by decide +kernel
theorem dX5_isTakenBack_17 : decode cX5_isTakenBack 17 = .ok (.iconst 1, 1) := by decide +kernel
theorem dX5_isTakenBack_18 : decode cX5_isTakenBack 18 = .ok (.if_icmp .ne 7, 3) := by decide +kernel
theorem dX5_isTakenBack_21 : decode cX5_isTakenBack 21 = .ok (.iconst 1, 1) := by decide +kernel
theorem dX5_isTakenBack_22 : decode cX5_isTakenBack 22 = .ok (.goto 4, 3) := by decide +kernel
theorem dX5_isTakenBack_25 : decode cX5_isTakenBack 25 = .ok (.iconst 0, 1) := by decide +kernel
theorem dX5_isTakenBack_26 : decode cX5_isTakenBack 26 = .ok (.ireturn, 1) := by decide +kernel
theorem dX6_init_0 : decode cX6_init 0 = .ok (.aload_n 0, 1) := by decide +kernel
theorem dX6_init_1 : decode cX6_init 1 = .ok (.invokespecial 3, 3) := by decide +kernel
theorem dX6_init_4 : decode cX6_init 4 = .ok (.aload_n 0, 1) := by decide +kernel
theorem dX6_init_5 : decode cX6_init 5 = .ok (.new 9, 3) := by decide +kernel
theorem dX6_init_8 : decode cX6_init 8 = .ok (.dup, 1) := by decide +kernel
theorem dX6_init_9 : decode cX6_init 9 = .ok (.invokespecial 11, 3) := by decide +kernel
theorem dX6_init_12 : decode cX6_init 12 = .ok (.putfield 12, 3) := by decide +kernel
theorem dX6_init_15 : decode cX6_init 15 = .ok (.aload_n 0, 1) := by decide +kernel
theorem dX6_init_16 : decode cX6_init 16 = .ok (.new 18, 3) := by decide +kernel
theorem dX6_init_19 : decode cX6_init 19 = .ok (.dup, 1) := by decide +kernel
theorem dX6_init_20 : decode cX6_init 20 = .ok (.invokespecial 20, 3) := by decide +kernel
theorem dX6_init_23 : decode cX6_init 23 = .ok (.putfield 21, 3) := by decide +kernel
theorem dX6_init_26 : decode cX6_init 26 = .ok (.aload_n 0, 1) := by decide +kernel
theorem dX6_init_27 : decode cX6_init 27 = .ok (.new 25, 3) := by decide +kernel
theorem dX6_init_30 : decode cX6_init 30 = .ok (.dup, 1) := by decide +kernel
theorem dX6_init_31 : decode cX6_init 31 = .ok (.invokespecial 27, 3) := by decide +kernel
theorem dX6_init_34 : decode cX6_init 34 = .ok (.putfield 28, 3) := by decide +kernel
theorem dX6_init_37 : decode cX6_init 37 = .ok (.return_, 1) := by decide +kernel
theorem dX6_copyFrom_0 : decode cX6_copyFrom 0 = .ok (.aload_n 0, 1) := by decide +kernel
theorem dX6_copyFrom_1 : decode cX6_copyFrom 1 = .ok (.getfield 12, 3) := by decide +kernel
theorem dX6_copyFrom_4 : decode cX6_copyFrom 4 = .ok (.aload_n 1, 1) := by decide +kernel
theorem dX6_copyFrom_5 : decode cX6_copyFrom 5 = .ok (.getfield 12, 3) := by decide +kernel
theorem dX6_copyFrom_8 : decode cX6_copyFrom 8 = .ok (.invokevirtual 32, 3) := by decide +kernel
theorem dX6_copyFrom_11 : decode cX6_copyFrom 11 = .ok (.aload_n 0, 1) := by decide +kernel
theorem dX6_copyFrom_12 : decode cX6_copyFrom 12 = .ok (.getfield 21, 3) := by decide +kernel
theorem dX6_copyFrom_15 : decode cX6_copyFrom 15 = .ok (.aload_n 1, 1) := by decide +kernel
theorem dX6_copyFrom_16 : decode cX6_copyFrom 16 = .ok (.getfield 21, 3) := by decide +kernel
theorem dX6_copyFrom_19 : decode cX6_copyFrom 19 = .ok (.invokevirtual 36, 3) := by decide +kernel
theorem dX6_copyFrom_22 : decode cX6_copyFrom 22 = .ok (.aload_n 0, 1) := by decide +kernel
theorem dX6_copyFrom_23 : decode cX6_copyFrom 23 = .ok (.getfield 28, 3) := by decide +kernel
theorem dX6_copyFrom_26 : decode cX6_copyFrom 26 = .ok (.aload_n 1, 1) := by decide +kernel
theorem dX6_copyFrom_27 : decode cX6_copyFrom 27 = .ok (.getfield 28, 3) := by decide +kernel
theorem dX6_copyFrom_30 : decode cX6_copyFrom 30 = .ok (.invokevirtual 39, 3) := by decide +kernel
theorem dX6_copyFrom_33 : decode cX6_copyFrom 33 = .ok (.aload_n 0, 1) := by decide +kernel
theorem dX6_copyFrom_34 : decode cX6_copyFrom 34 = .ok (.aload_n 1, 1) := by decide +kernel
theorem dX6_copyFrom_35 : decode cX6_copyFrom 35 = .ok (.getfield 42, 3) := by decide +kernel
theorem dX6_copyFrom_38 : decode cX6_copyFrom 38 = .ok (.putfield 42, 3) := by decide +kernel
end
section
theorem dX6_copyFrom_41 : decode cX6_copyFrom 41 = .ok (.aload_n 0, 1) := by decide +kernel
theorem dX6_copyFrom_42 : decode cX6_copyFrom 42 = .ok (.aload_n 1, 1) := by decide +kernel
theorem dX6_copyFrom_43 : decode cX6_copyFrom 43 = .ok (.getfield 46, 3) := by decide +kernel
theorem dX6_copyFrom_46 : decode cX6_copyFrom 46 = .ok (.putfield 46, 3) := by decide +kernel
theorem dX6_copyFrom_49 : decode cX6_copyFrom 49 = .ok (.return_, 1) := by decide +kernel
theorem dX6_beginGroup_0 : decode cX6_beginGroup 0 = .ok (.iload_n 1, 1) := by decide +kernel
theorem dX6_beginGroup_1 : decode cX6_beginGroup 1 = .ok (.ifCond .lt 8, 3) := by decide +kernel
theorem dX6_beginGroup_4 : decode cX6_beginGroup 4 = .ok (.iload_n 1, 1) := by decide +kernel
theorem dX6_beginGroup_5 : decode cX6_beginGroup 5 = .ok (.iconst 4, 1) := by decide +kernel
theorem dX6_beginGroup_6 : decode cX6_beginGroup 6 = .ok (.if_icmp .lt 6, 3) := by decide +kernel
theorem dX6_beginGroup_9 : decode cX6_beginGroup 9 = .ok (.ldc 50, 2) := by decide +kernel
theorem dX6_beginGroup_11 : decode cX6_beginGroup 11 = .ok (.ireturn, 1) := by decide +kernel
theorem dX6_beginGroup_12 : decode cX6_beginGroup 12 = .ok (.aload_n 0, 1) := by decide +kernel
theorem dX6_beginGroup_13 : decode cX6_beginGroup 13 = .ok (.getfield 42, 3) := by decide +kernel
theorem dX6_beginGroup_16 : decode cX6_beginGroup 16 = .ok (.ifCond .ne 14, 3) := by decide +kernel
theorem dX6_beginGroup_19 : decode cX6_beginGroup 19 = .ok (.aload_n 0, 1) := by decide +kernel
theorem dX6_beginGroup_20 : decode cX6_beginGroup 20 = .ok (.getfield 21, 3) := by decide +kernel
theorem dX6_beginGroup_23 : decode cX6_beginGroup 23 = .ok (.iload_n 1, 1) := by decide +kernel
theorem dX6_beginGroup_24 : decode cX6_beginGroup 24 = .ok (.invokevirtual 51, 3) := by decide +kernel
theorem dX6_beginGroup_27 : decode cX6_beginGroup 27 = .ok (.ifCond .eq 6, 3) := by decide +kernel
theorem dX6_beginGroup_30 : decode cX6_beginGroup 30 = .ok (.ldc 55, 2) := by decide +kernel
theorem dX6_beginGroup_32 : decode cX6_beginGroup 32 = .ok (.ireturn, 1) := by decide +kernel
theorem dX6_beginGroup_33 : decode cX6_beginGroup 33 = .ok (.aload_n 0, 1) := by decide +kernel
theorem dX6_beginGroup_34 : decode cX6_beginGroup 34 = .ok (.getfield 28, 3) := by decide +kernel
theorem dX6_beginGroup_37 : decode cX6_beginGroup 37 = .ok (.invokevirtual 56, 3) := by decide +kernel
theorem dX6_beginGroup_40 : decode cX6_beginGroup 40 = .ok (.ifCond .eq 6, 3) := by decide +kernel
theorem dX6_beginGroup_43 : decode cX6_beginGroup 43 = .ok (.ldc 60, 2) := by decide +kernel
theorem dX6_beginGroup_45 : decode cX6_beginGroup 45 = .ok (.ireturn, 1) := by decide +kernel
theorem dX6_beginGroup_46 : decode cX6_beginGroup 46 = .ok (.aload_n 0, 1) := by decide +kernel
theorem dX6_beginGroup_47 : decode cX6_beginGroup 47 = .ok (.getfield 28, 3) := by decide +kernel
theorem dX6_beginGroup_50 : decode cX6_beginGroup 50 = .ok (.iconst 0, 1) := by decide +kernel
theorem dX6_beginGroup_51 : decode cX6_beginGroup 51 = .ok (.iload_n 1, 1) := by decide +kernel
theorem dX6_beginGroup_52 : decode cX6_beginGroup 52 = .ok (.ldc 61, 2) := by decide +kernel
theorem dX6_beginGroup_54 : decode cX6_beginGroup 54 = .ok (.iconst 0, 1) := by decide +kernel
theorem dX6_beginGroup_55 : decode cX6_beginGroup 55 = .ok (.iconst 0, 1) := by decide +kernel
theorem dX6_beginGroup_56 : decode cX6_beginGroup 56 = .ok (.iconst 0, 1) := by decide +kernel
theorem dX6_beginGroup_57 : decode cX6_beginGroup 57 = .ok (.invokevirtual 62, 3) := by decide +kernel
theorem dX6_beginGroup_60 : decode cX6_beginGroup 60 = .ok (.istore_n 2, 1) := by decide +kernel
theorem dX6_beginGroup_61 : decode cX6_beginGroup 61 = .ok (.aload_n 0, 1) := by decide +kernel
theorem dX6_beginGroup_62 : decode cX6_beginGroup 62 = .ok (.getfield 21, 3) := by decide +kernel
theorem dX6_beginGroup_65 : decode cX6_beginGroup 65 = .ok (.iload_n 1, 1) := by decide +kernel
theorem dX6_beginGroup_66 : decode cX6_beginGroup 66 = .ok (.iload_n 2, 1) := by decide +kernel
theorem dX6_beginGroup_67 : decode cX6_beginGroup 67 = .ok (.invokevirtual 66, 3) := by decide +kernel
theorem dX6_beginGroup_70 : decode cX6_beginGroup 70 = .ok (.iload_n 2, 1) := by decide +kernel
theorem dX6_beginGroup_71 : decode cX6_beginGroup 71 = .ok (.ireturn, 1) := by decide +kernel
theorem dX6_writePage_0 : decode cX6_writePage 0 = .ok (.iload_n 1, 1) := by decide +kernel
theorem dX6_writePage_1 : decode cX6_writePage 1 = .ok (.ifCond .lt 18, 3) := by decide +kernel
theorem dX6_writePage_4 : decode cX6_writePage 4 = .ok (.iload_n 1, 1) := by decide +kernel
theorem dX6_writePage_5 : decode cX6_writePage 5 = .ok (.iconst 4, 1) := by decide +kernel
theorem dX6_writePage_6 : decode cX6_writePage 6 = .ok (.if_icmp .ge 13, 3) := by decide +kernel
theorem dX6_writePage_9 : decode cX6_writePage 9 = .ok (.iload_n 2, 1) := by decide +kernel
theorem dX6_writePage_10 : decode cX6_writePage 10 = .ok (.ifCond .lt 9, 3) := by decide +kernel
theorem dX6_writePage_13 : decode cX6_writePage 13 = .ok (.iload_n 2, 1) := by decide +kernel
theorem dX6_writePage_14 : decode cX6_writePage 14 = .ok (.bipush 8, 2) := by decide +kernel
theorem dX6_writePage_16 : decode cX6_writePage 16 = .ok (.if_icmp .lt 6, 3) := by decide +kernel
theorem dX6_writePage_19 : decode cX6_writePage 19 = .ok (.ldc 50, 2) := by decide +kernel
theorem dX6_writePage_21 : decode cX6_writePage 21 = .ok (.ireturn, 1) := by decide +kernel
theorem dX6_writePage_22 : decode cX6_writePage 22 = .ok (.iload_n 3, 1) := by decide +kernel
theorem dX6_writePage_23 : decode cX6_writePage 23 = .ok (.ifCond .lt 9, 3) := by decide +kernel
theorem dX6_writePage_26 : decode cX6_writePage 26 = .ok (.iload_n 3, 1) := by decide +kernel
theorem dX6_writePage_27 : decode cX6_writePage 27 = .ok (.bipush 100, 2) := by decide +kernel
theorem dX6_writePage_29 : decode cX6_writePage 29 = .ok (.if_icmp .lt 6, 3) := by decide +kernel
theorem dX6_writePage_32 : decode cX6_writePage 32 = .ok (.ldc 50, 2) := by decide +kernel
theorem dX6_writePage_34 : decode cX6_writePage 34 = .ok (.ireturn, 1) := by decide +kernel
theorem dX6_writePage_35 : decode cX6_writePage 35 = .ok (.aload_n 0, 1) := by decide +kernel
theorem dX6_writePage_36 : decode cX6_writePage 36 = .ok (.getfield 21, 3) := by decide +kernel
theorem dX6_writePage_39 : decode cX6_writePage 39 = .ok (.iload_n 2, 1) := by decide +kernel
theorem dX6_writePage_40 : decode cX6_writePage 40 = .ok (.invokevirtual 70, 3) := by decide +kernel
theorem dX6_writePage_43 : decode cX6_writePage 43 = .ok (.istore 4, 2) := by decide +kernel
theorem dX6_writePage_45 : decode cX6_writePage 45 = .ok (.aload_n 0, 1) := by decide +kernel
theorem dX6_writePage_46 : decode cX6_writePage 46 = .ok (.getfield 42, 3) := by decide +kernel
theorem dX6_writePage_49 : decode cX6_writePage 49 = .ok (.ifCond .ne 25, 3) := by decide +kernel
theorem dX6_writePage_52 : decode cX6_writePage 52 = .ok (.aload_n 0, 1) := by decide +kernel
theorem dX6_writePage_53 : decode cX6_writePage 53 = .ok (.getfield 21, 3) := by decide +kernel
theorem dX6_writePage_56 : decode cX6_writePage 56 = .ok (.iload_n 1, 1) := by decide +kernel
theorem dX6_writePage_57 : decode cX6_writePage 57 = .ok (.invokevirtual 51, 3) := by decide +kernel
theorem dX6_writePage_60 : decode cX6_writePage 60 = .ok (.ifCond .eq 14, 3) := by decide +kernel
theorem dX6_writePage_63 : decode cX6_writePage 63 = .ok (.iload 4, 2) := by decide +kernel
theorem dX6_writePage_65 : decode cX6_writePage 65 = .ok (.ifCond .lt 12, 3) := by decide +kernel
theorem dX6_writePage_68 : decode cX6_writePage 68 = .ok (.iload 4, 2) := by decide +kernel
theorem dX6_writePage_70 : decode cX6_writePage 70 = .ok (.iload_n 1, 1) := by decide +kernel
theorem dX6_writePage_71 : decode cX6_writePage 71 = .ok (.if_icmp .eq 6, 3) := by decide +kernel
theorem dX6_writePage_74 : decode cX6_writePage 74 = .ok (.ldc 55, 2) := by decide +kernel
theorem dX6_writePage_76 : decode cX6_writePage 76 = .ok (.ireturn, 1) := by decide +kernel
theorem dX6_writePage_77 : decode cX6_writePage 77 = .ok (.aload_n 0, 1) := by decide +kernel
theorem dX6_writePage_78 : decode cX6_writePage 78 = .ok (.getfield 28, 3) := by decide +kernel
theorem dX6_writePage_81 : decode cX6_writePage 81 = .ok (.invokevirtual 56, 3) := by decide +kernel
theorem dX6_writePage_84 : decode cX6_writePage 84 = .ok (.ifCond .eq 6, 3) := by decide +kernel
theorem dX6_writePage_87 : decode cX6_writePage 87 = .ok (.ldc 60, 2) := by decide +kernel
theorem dX6_writePage_89 : decode cX6_writePage 89 = .ok (.ireturn, 1) := by decide +kernel
theorem dX6_writePage_90 : decode cX6_writePage 90 = .ok (.aload_n 0, 1) := by decide +kernel
theorem dX6_writePage_91 : decode cX6_writePage 91 = .ok (.getfield 12, 3) := by decide +kernel
theorem dX6_writePage_94 : decode cX6_writePage 94 = .ok (.iload_n 2, 1) := by decide +kernel
theorem dX6_writePage_95 : decode cX6_writePage 95 = .ok (.invokevirtual 74, 3) := by decide +kernel
theorem dX6_writePage_98 : decode cX6_writePage 98 = .ok (.istore 5, 2) := by decide +kernel
theorem dX6_writePage_100 : decode cX6_writePage 100 = .ok (.aload_n 0, 1) := by decide +kernel
theorem dX6_writePage_101 : decode cX6_writePage 101 = .ok (.getfield 28, 3) := by decide +kernel
theorem dX6_writePage_104 : decode cX6_writePage 104 = .ok (.iconst 1, 1) := by decide +kernel
theorem dX6_writePage_105 : decode cX6_writePage 105 = .ok (.iload_n 1, 1) := by decide +kernel
theorem dX6_writePage_106 : decode cX6_writePage 106 = .ok (.iload_n 2, 1) := by decide +kernel
theorem dX6_writePage_107 : decode cX6_writePage 107 = .ok (.iload 5, 2) := by decide +kernel
theorem dX6_writePage_109 : decode cX6_writePage 109 = .ok (.iload_n 3, 1) := by decide +kernel
theorem dX6_writePage_110 : decode cX6_writePage 110 = .ok (.iconst 0, 1) := by decide +kernel
theorem dX6_writePage_111 : decode cX6_writePage 111 = .ok (.invokevirtual 62, 3) := by decide +kernel
theorem dX6_writePage_114 : decode cX6_writePage 114 = .ok (.istore 6, 2) := by decide +kernel
theorem dX6_writePage_116 : decode cX6_writePage 116 = .ok (.aload_n 0, 1) := by decide +kernel
theorem dX6_writePage_117 : decode cX6_writePage 117 = .ok (.getfield 12, 3) := by decide +kernel
theorem dX6_writePage_120 : decode cX6_writePage 120 = .ok (.iload_n 2, 1) := by decide +kernel
theorem dX6_writePage_121 : decode cX6_writePage 121 = .ok (.iload_n 3, 1) := by decide +kernel
theorem dX6_writePage_122 : decode cX6_writePage 122 = .ok (.iload 6, 2) := by decide +kernel
theorem dX6_writePage_124 : decode cX6_writePage 124 = .ok (.invokevirtual 77, 3) := by decide +kernel
theorem dX6_writePage_127 : decode cX6_writePage 127 = .ok (.aload_n 0, 1) := by decide +kernel
theorem dX6_writePage_128 : decode cX6_writePage 128 = .ok (.getfield 21, 3) := by decide +kernel
theorem dX6_writePage_131 : decode cX6_writePage 131 = .ok (.iload_n 1, 1) := by decide +kernel
theorem dX6_writePage_132 : decode cX6_writePage 132 = .ok (.iload_n 2, 1) := by decide +kernel
theorem dX6_writePage_133 : decode cX6_writePage 133 = .ok (.invokevirtual 81, 3) := by decide +kernel
theorem dX6_writePage_136 : decode cX6_writePage 136 = .ok (.iload 5, 2) := by decide +kernel
theorem dX6_writePage_138 : decode cX6_writePage 138 = .ok (.ireturn, 1) := by decide +kernel
theorem dX6_errorOfEnding_0 : decode cX6_errorOfEnding 0 = .ok (.iload_n 1, 1) := by decide +kernel
theorem dX6_errorOfEnding_1 : decode cX6_errorOfEnding 1 = .ok (.ifCond .lt 8, 3) := by decide +kernel
theorem dX6_errorOfEnding_4 : decode cX6_errorOfEnding 4 = .ok (.iload_n 1, 1) := by decide +kernel
theorem dX6_errorOfEnding_5 : decode cX6_errorOfEnding 5 = .ok (.iconst 4, 1) := by decide +kernel
theorem dX6_errorOfEnding_6 : decode cX6_errorOfEnding 6 = .ok (.if_icmp .lt 6, 3) := by decide +kernel
theorem dX6_errorOfEnding_9 : decode cX6_errorOfEnding 9 = .ok (.ldc 50, 2) := by decide +kernel
theorem dX6_errorOfEnding_11 : decode cX6_errorOfEnding 11 = .ok (.ireturn, 1) := by decide +kernel
theorem dX6_errorOfEnding_12 : decode cX6_errorOfEnding 12 = .ok (.aload_n 0, 1) := by decide +kernel
theorem dX6_errorOfEnding_13 : decode cX6_errorOfEnding 13 = .ok (.getfield 42, 3) := by decide +kernel
theorem dX6_errorOfEnding_16 : decode cX6_errorOfEnding 16 = .ok (.ifCond .ne 14, 3) := by decide +kernel
theorem dX6_errorOfEnding_19 : decode cX6_errorOfEnding 19 = .ok (.aload_n 0, 1) := by decide +kernel
theorem dX6_errorOfEnding_20 : decode cX6_errorOfEnding 20 = .ok (.getfield 21, 3) := by decide +kernel
theorem dX6_errorOfEnding_23 : decode cX6_errorOfEnding 23 = .ok (.iload_n 1, 1) := by decide +kernel
theorem dX6_errorOfEnding_24 : decode cX6_errorOfEnding 24 = .ok (.invokevirtual 51, 3) := by decide +kernel
theorem dX6_errorOfEnding_27 : decode cX6_errorOfEnding 27 = .ok (.ifCond .ne 6, 3) := by decide +kernel
theorem dX6_errorOfEnding_30 : decode cX6_errorOfEnding 30 = .ok (.ldc 55, 2) := by decide +kernel
theorem dX6_errorOfEnding_32 : decode cX6_errorOfEnding 32 = .ok (.ireturn, 1) := by decide +kernel
theorem dX6_errorOfEnding_33 : decode cX6_errorOfEnding 33 = .ok (.aload_n 0, 1) := by decide +kernel
theorem dX6_errorOfEnding_34 : decode cX6_errorOfEnding 34 = .ok (.getfield 28, 3) := by decide +kernel
theorem dX6_errorOfEnding_37 : decode cX6_errorOfEnding 37 = .ok (.getfield 84, 3) := by decide +kernel
theorem dX6_errorOfEnding_40 : decode cX6_errorOfEnding 40 = .ok (.iload_n 2, 1) := by decide +kernel
theorem dX6_errorOfEnding_41 : decode cX6_errorOfEnding 41 = .ok (.iadd, 1) := by decide +kernel
theorem dX6_errorOfEnding_42 : decode cX6_errorOfEnding 42 = .ok (.bipush 60, 2) := by decide +kernel
theorem dX6_errorOfEnding_44 : decode cX6_errorOfEnding 44 = .ok (.if_icmp .le 8, 3) := by decide +kernel
theorem dX6_errorOfEnding_47 : decode cX6_errorOfEnding 47 = .ok (.ldc 60, 2) := by decide +kernel
theorem dX6_errorOfEnding_49 : decode cX6_errorOfEnding 49 = .ok (.goto 4, 3) := by decide +kernel
theorem dX6_errorOfEnding_52 : decode cX6_errorOfEnding 52 = .ok (.iconst 0, 1) := by decide +kernel
theorem dX6_errorOfEnding_53 : decode cX6_errorOfEnding 53 = .ok (.ireturn, 1) := by decide +kernel
theorem dX6_settleGroup_0 : decode cX6_settleGroup 0 = .ok (.aload_n 0, 1) := by decide +kernel
theorem dX6_settleGroup_1 : decode cX6_settleGroup 1 = .ok (.iload_n 1, 1) := by decide +kernel
theorem dX6_settleGroup_2 : decode cX6_settleGroup 2 = .ok (.iconst 1, 1) := by decide +kernel
theorem dX6_settleGroup_3 : decode cX6_settleGroup 3 = .ok (.invokevirtual 87, 3) := by decide +kernel
theorem dX6_settleGroup_6 : decode cX6_settleGroup 6 = .ok (.istore_n 2, 1) := by decide +kernel
theorem dX6_settleGroup_7 : decode cX6_settleGroup 7 = .ok (.iload_n 2, 1) := by decide +kernel
theorem dX6_settleGroup_8 : decode cX6_settleGroup 8 = .ok (.ifCond .eq 5, 3) := by decide +kernel
theorem dX6_settleGroup_11 : decode cX6_settleGroup 11 = .ok (.iload_n 2, 1) := by decide +kernel
theorem dX6_settleGroup_12 : decode cX6_settleGroup 12 = .ok (.ireturn, 1) := by decide +kernel
theorem dX6_settleGroup_13 : decode cX6_settleGroup 13 = .ok (.aload_n 0, 1) := by decide +kernel
theorem dX6_settleGroup_14 : decode cX6_settleGroup 14 = .ok (.getfield 28, 3) := by decide +kernel
theorem dX6_settleGroup_17 : decode cX6_settleGroup 17 = .ok (.aload_n 0, 1) := by decide +kernel
theorem dX6_settleGroup_18 : decode cX6_settleGroup 18 = .ok (.getfield 28, 3) := by decide +kernel
theorem dX6_settleGroup_21 : decode cX6_settleGroup 21 = .ok (.iconst 2, 1) := by decide +kernel
theorem dX6_settleGroup_22 : decode cX6_settleGroup 22 = .ok (.iload_n 1, 1) := by decide +kernel
theorem dX6_settleGroup_23 : decode cX6_settleGroup 23 = .ok (.ldc 61, 2) := by decide +kernel
theorem dX6_settleGroup_25 : decode cX6_settleGroup 25 = .ok (.iconst 0, 1) := by decide +kernel
theorem dX6_settleGroup_26 : decode cX6_settleGroup 26 = .ok (.iconst 0, 1) := by decide +kernel
theorem dX6_settleGroup_27 : decode cX6_settleGroup 27 = .ok (.iconst 0, 1) := by decide +kernel
theorem dX6_settleGroup_28 : decode cX6_settleGroup 28 = .ok (.invokevirtual 62, 3) := by decide +kernel
theorem dX6_settleGroup_31 : decode cX6_settleGroup 31 = .ok (.invokevirtual 91, 3) := by decide +kernel
theorem dX6_settleGroup_34 : decode cX6_settleGroup 34 = .ok (.pop, 1) := by decide +kernel
theorem dX6_settleGroup_35 : decode cX6_settleGroup 35 = .ok (.aload_n 0, 1) := by decide +kernel
theorem dX6_settleGroup_36 : decode cX6_settleGroup 36 = .ok (.getfield 21, 3) := by decide +kernel
theorem dX6_settleGroup_39 : decode cX6_settleGroup 39 = .ok (.iload_n 1, 1) := by decide +kernel
theorem dX6_settleGroup_40 : decode cX6_settleGroup 40 = .ok (.invokevirtual 94, 3) := by decide +kernel
theorem dX6_settleGroup_43 : decode cX6_settleGroup 43 = .ok (.aload_n 0, 1) := by decide +kernel
theorem dX6_settleGroup_44 : decode cX6_settleGroup 44 = .ok (.getfield 21, 3) := by decide +kernel
theorem dX6_settleGroup_47 : decode cX6_settleGroup 47 = .ok (.iload_n 1, 1) := by decide +kernel
theorem dX6_settleGroup_48 : decode cX6_settleGroup 48 = .ok (.invokevirtual 98, 3) := by decide +kernel
theorem dX6_settleGroup_51 : decode cX6_settleGroup 51 = .ok (.invokestatic 101, 3) := by decide +kernel
theorem dX6_settleGroup_54 : decode cX6_settleGroup 54 = .ok (.ireturn, 1) := by decide +kernel
theorem dX6_takeGroupBack_0 : decode cX6_takeGroupBack 0 = .ok (.aload_n 0, 1) := by decide +kernel
theorem dX6_takeGroupBack_1 : decode cX6_takeGroupBack 1 = .ok (.getfield 21, 3) := by decide +kernel
theorem dX6_takeGroupBack_4 : decode cX6_takeGroupBack 4 = .ok (.iload_n 1, 1) := by decide +kernel
theorem dX6_takeGroupBack_5 : decode cX6_takeGroupBack 5 = .ok (.invokevirtual 106, 3) := by decide +kernel
theorem dX6_takeGroupBack_8 : decode cX6_takeGroupBack 8 = .ok (.istore_n 2, 1) := by decide +kernel
theorem dX6_takeGroupBack_9 : decode cX6_takeGroupBack 9 = .ok (.aload_n 0, 1) := by decide +kernel
theorem dX6_takeGroupBack_10 : decode cX6_takeGroupBack 10 = .ok (.iload_n 1, 1) := by decide +kernel
theorem dX6_takeGroupBack_11 : decode cX6_takeGroupBack 11 = .ok (.iload_n 2, 1) := by decide +kernel
theorem dX6_takeGroupBack_12 : decode cX6_takeGroupBack 12 = .ok (.iconst 1, 1) := by decide +kernel
theorem dX6_takeGroupBack_13 : decode cX6_takeGroupBack 13 = .ok (.iadd, 1) := by decide +kernel
theorem dX6_takeGroupBack_14 : decode cX6_takeGroupBack 14 = .ok (.invokevirtual 87, 3) := by decide +kernel
theorem dX6_takeGroupBack_17 : decode cX6_takeGroupBack 17 = .ok (.istore_n 3, 1) := by decide +kernel
theorem dX6_takeGroupBack_18 : decode cX6_takeGroupBack 18 = .ok (.iload_n 3, 1) := by decide +kernel
theorem dX6_takeGroupBack_19 : decode cX6_takeGroupBack 19 = .ok (.ifCond .eq 5, 3) := by decide +kernel
theorem dX6_takeGroupBack_22 : decode cX6_takeGroupBack 22 = .ok (.iload_n 3, 1) := by decide +kernel
theorem dX6_takeGroupBack_23 : decode cX6_takeGroupBack 23 = .ok (.ireturn, 1) := by decide +kernel
theorem dX6_takeGroupBack_24 : decode cX6_takeGroupBack 24 = .ok (.aload_n 0, 1) := by decide +kernel
theorem dX6_takeGroupBack_25 : decode cX6_takeGroupBack 25 = .ok (.getfield 21, 3) := by decide +kernel
theorem dX6_takeGroupBack_28 : decode cX6_takeGroupBack 28 = .ok (.iload_n 1, 1) := by decide +kernel
theorem dX6_takeGroupBack_29 : decode cX6_takeGroupBack 29 = .ok (.invokevirtual 109, 3) := by decide +kernel
theorem dX6_takeGroupBack_32 : decode cX6_takeGroupBack 32 = .ok (.istore 4, 2) := by decide +kernel
theorem dX6_takeGroupBack_34 : decode cX6_takeGroupBack 34 = .ok (.aload_n 0, 1) := by decide +kernel
theorem dX6_takeGroupBack_35 : decode cX6_takeGroupBack 35 = .ok (.getfield 28, 3) := by decide +kernel
theorem dX6_takeGroupBack_38 : decode cX6_takeGroupBack 38 = .ok (.invokevirtual 112, 3) := by decide +kernel
theorem dX6_takeGroupBack_41 : decode cX6_takeGroupBack 41 = .ok (.istore 5, 2) := by decide +kernel
theorem dX6_takeGroupBack_43 : decode cX6_takeGroupBack 43 = .ok (.iload 5, 2) := by decide +kernel
theorem dX6_takeGroupBack_45 : decode cX6_takeGroupBack 45 = .ok (.iload 4, 2) := by decide +kernel
theorem dX6_takeGroupBack_47 : decode cX6_takeGroupBack 47 = .ok (.if_icmp .le 67, 3) := by decide +kernel
theorem dX6_takeGroupBack_50 : decode cX6_takeGroupBack 50 = .ok (.aload_n 0, 1) := by decide +kernel
theorem dX6_takeGroupBack_51 : decode cX6_takeGroupBack 51 = .ok (.getfield 28, 3) := by decide +kernel
theorem dX6_takeGroupBack_54 : decode cX6_takeGroupBack 54 = .ok (.aload_n 0, 1) := by decide +kernel
theorem dX6_takeGroupBack_55 : decode cX6_takeGroupBack 55 = .ok (.getfield 28, 3) := by decide +kernel
theorem dX6_takeGroupBack_58 : decode cX6_takeGroupBack 58 = .ok (.getfield 116, 3) := by decide +kernel
theorem dX6_takeGroupBack_61 : decode cX6_takeGroupBack 61 = .ok (.iload 5, 2) := by decide +kernel
theorem dX6_takeGroupBack_63 : decode cX6_takeGroupBack 63 = .ok (.invokevirtual 120, 3) := by decide +kernel
theorem dX6_takeGroupBack_66 : decode cX6_takeGroupBack 66 = .ok (.iload_n 1, 1) := by decide +kernel
theorem dX6_takeGroupBack_67 : decode cX6_takeGroupBack 67 = .ok (.if_icmp .ne 7, 3) := by decide +kernel
theorem dX6_takeGroupBack_70 : decode cX6_takeGroupBack 70 = .ok (.iconst 1, 1) := by decide +kernel
theorem dX6_takeGroupBack_71 : decode cX6_takeGroupBack 71 = .ok (.goto 4, 3) := by decide +kernel
theorem dX6_takeGroupBack_74 : decode cX6_takeGroupBack 74 = .ok (.iconst 0, 1) := by decide +kernel
theorem dX6_takeGroupBack_75 : decode cX6_takeGroupBack 75 = .ok (.istore 6, 2) := by decide +kernel
theorem dX6_takeGroupBack_77 : decode cX6_takeGroupBack 77 = .ok (.iload 6, 2) := by decide +kernel
theorem dX6_takeGroupBack_79 : decode cX6_takeGroupBack 79 = .ok (.ifCond .eq 29, 3) := by decide +kernel
theorem dX6_takeGroupBack_82 : decode cX6_takeGroupBack 82 = .ok (.aload_n 0, 1) := by decide +kernel
theorem dX6_takeGroupBack_83 : decode cX6_takeGroupBack 83 = .ok (.getfield 28, 3) := by decide +kernel
theorem dX6_takeGroupBack_86 : decode cX6_takeGroupBack 86 = .ok (.aload_n 0, 1) := by decide +kernel
theorem dX6_takeGroupBack_87 : decode cX6_takeGroupBack 87 = .ok (.getfield 28, 3) := by decide +kernel
theorem dX6_takeGroupBack_90 : decode cX6_takeGroupBack 90 = .ok (.getfield 124, 3) := by decide +kernel
theorem dX6_takeGroupBack_93 : decode cX6_takeGroupBack 93 = .ok (.iload 5, 2) := by decide +kernel
theorem dX6_takeGroupBack_95 : decode cX6_takeGroupBack 95 = .ok (.invokevirtual 120, 3) := by decide +kernel
theorem dX6_takeGroupBack_98 : decode cX6_takeGroupBack 98 = .ok (.iconst 1, 1) := by decide +kernel
theorem dX6_takeGroupBack_99 : decode cX6_takeGroupBack 99 = .ok (.if_icmp .ne 9, 3) := by decide +kernel
theorem dX6_takeGroupBack_102 : decode cX6_takeGroupBack 102 = .ok (.aload_n 0, 1) := by decide +kernel
theorem dX6_takeGroupBack_103 : decode cX6_takeGroupBack 103 = .ok (.iload 5, 2) := by decide +kernel
theorem dX6_takeGroupBack_105 : decode cX6_takeGroupBack 105 = .ok (.invokevirtual 127, 3) := by decide +kernel
theorem dX6_takeGroupBack_108 : decode cX6_takeGroupBack 108 = .ok (.iinc 5 (-1), 3) := by decide +kernel
theorem dX6_takeGroupBack_111 : decode cX6_takeGroupBack 111 = .ok (.goto (-68), 3) := by decide +kernel
theorem dX6_takeGroupBack_114 : decode cX6_takeGroupBack 114 = .ok (.aload_n 0, 1) := by decide +kernel
theorem dX6_takeGroupBack_115 : decode cX6_takeGroupBack 115 = .ok (.iload_n 1, 1) := by decide +kernel
theorem dX6_takeGroupBack_116 : decode cX6_takeGroupBack 116 = .ok (.invokevirtual 130, 3) := by decide +kernel
theorem dX6_takeGroupBack_119 : decode cX6_takeGroupBack 119 = .ok (.iload_n 2, 1) := by decide +kernel
theorem dX6_takeGroupBack_120 : decode cX6_takeGroupBack 120 = .ok (.ireturn, 1) := by decide +kernel
theorem dX6_takeWriteBack_0 : decode cX6_takeWriteBack 0 = .ok (.aload_n 0, 1) := by decide +kernel
theorem dX6_takeWriteBack_1 : decode cX6_takeWriteBack 1 = .ok (.getfield 28, 3) := by decide +kernel
theorem dX6_takeWriteBack_4 : decode cX6_takeWriteBack 4 = .ok (.aload_n 0, 1) := by decide +kernel
theorem dX6_takeWriteBack_5 : decode cX6_takeWriteBack 5 = .ok (.getfield 28, 3) := by decide +kernel
theorem dX6_takeWriteBack_8 : decode cX6_takeWriteBack 8 = .ok (.getfield 116, 3) := by decide +kernel
theorem dX6_takeWriteBack_11 : decode cX6_takeWriteBack 11 = .ok (.iload_n 1, 1) := by decide +kernel
theorem dX6_takeWriteBack_12 : decode cX6_takeWriteBack 12 = .ok (.invokevirtual 120, 3) := by decide +kernel
theorem dX6_takeWriteBack_15 : decode cX6_takeWriteBack 15 = .ok (.istore_n 2, 1) := by decide +kernel
theorem dX6_takeWriteBack_16 : decode cX6_takeWriteBack 16 = .ok (.aload_n 0, 1) := by decide +kernel
theorem dX6_takeWriteBack_17 : decode cX6_takeWriteBack 17 = .ok (.getfield 28, 3) := by decide +kernel
theorem dX6_takeWriteBack_20 : decode cX6_takeWriteBack 20 = .ok (.aload_n 0, 1) := by decide +kernel
theorem dX6_takeWriteBack_21 : decode cX6_takeWriteBack 21 = .ok (.getfield 28, 3) := by decide +kernel
theorem dX6_takeWriteBack_24 : decode cX6_takeWriteBack 24 = .ok (.getfield 133, 3) := by decide +kernel
theorem dX6_takeWriteBack_27 : decode cX6_takeWriteBack 27 = .ok (.iload_n 1, 1) := by decide +kernel
theorem dX6_takeWriteBack_28 : decode cX6_takeWriteBack 28 = .ok (.invokevirtual 120, 3) := by decide +kernel
theorem dX6_takeWriteBack_31 : decode cX6_takeWriteBack 31 = .ok (.istore_n 3, 1) := by decide +kernel
theorem dX6_takeWriteBack_32 : decode cX6_takeWriteBack 32 = .ok (.aload_n 0, 1) := by decide +kernel
theorem dX6_takeWriteBack_33 : decode cX6_takeWriteBack 33 = .ok (.getfield 28, 3) := by decide +kernel
theorem dX6_takeWriteBack_36 : decode cX6_takeWriteBack 36 = .ok (.aload_n 0, 1) := by decide +kernel
theorem dX6_takeWriteBack_37 : decode cX6_takeWriteBack 37 = .ok (.getfield 28, 3) := by decide +kernel
theorem dX6_takeWriteBack_40 : decode cX6_takeWriteBack 40 = .ok (.getfield 136, 3) := by decide +kernel
theorem dX6_takeWriteBack_43 : decode cX6_takeWriteBack 43 = .ok (.iload_n 1, 1) := by decide +kernel
theorem dX6_takeWriteBack_44 : decode cX6_takeWriteBack 44 = .ok (.invokevirtual 120, 3) := by decide +kernel
theorem dX6_takeWriteBack_47 : decode cX6_takeWriteBack 47 = .ok (.istore 4, 2) := by decide +kernel
theorem dX6_takeWriteBack_49 : decode cX6_takeWriteBack 49 = .ok (.aload_n 0, 1) := by decide +kernel
theorem dX6_takeWriteBack_50 : decode cX6_takeWriteBack 50 = .ok (.getfield 12, 3) := by decide +kernel
theorem dX6_takeWriteBack_53 : decode cX6_takeWriteBack 53 = .ok (.iload_n 3, 1) := by decide +kernel
theorem dX6_takeWriteBack_54 : decode cX6_takeWriteBack 54 = .ok (.invokevirtual 74, 3) := by decide +kernel
theorem dX6_takeWriteBack_57 : decode cX6_takeWriteBack 57 = .ok (.istore 5, 2) := by decide +kernel
theorem dX6_takeWriteBack_59 : decode cX6_takeWriteBack 59 = .ok (.aload_n 0, 1) := by decide +kernel
theorem dX6_takeWriteBack_60 : decode cX6_takeWriteBack 60 = .ok (.getfield 12, 3) := by decide +kernel
theorem dX6_takeWriteBack_63 : decode cX6_takeWriteBack 63 = .ok (.iload_n 3, 1) := by decide +kernel
theorem dX6_takeWriteBack_64 : decode cX6_takeWriteBack 64 = .ok (.iload 4, 2) := by decide +kernel
theorem dX6_takeWriteBack_66 : decode cX6_takeWriteBack 66 = .ok (.aload_n 0, 1) := by decide +kernel
theorem dX6_takeWriteBack_67 : decode cX6_takeWriteBack 67 = .ok (.getfield 28, 3) := by decide +kernel
theorem dX6_takeWriteBack_70 : decode cX6_takeWriteBack 70 = .ok (.iconst 3, 1) := by decide +kernel
theorem dX6_takeWriteBack_71 : decode cX6_takeWriteBack 71 = .ok (.iload_n 2, 1) := by decide +kernel
theorem dX6_takeWriteBack_72 : decode cX6_takeWriteBack 72 = .ok (.iload_n 3, 1) := by decide +kernel
theorem dX6_takeWriteBack_73 : decode cX6_takeWriteBack 73 = .ok (.iload 5, 2) := by decide +kernel
theorem dX6_takeWriteBack_75 : decode cX6_takeWriteBack 75 = .ok (.iload 4, 2) := by decide +kernel
theorem dX6_takeWriteBack_77 : decode cX6_takeWriteBack 77 = .ok (.iload_n 1, 1) := by decide +kernel
theorem dX6_takeWriteBack_78 : decode cX6_takeWriteBack 78 = .ok (.invokevirtual 62, 3) := by decide +kernel
theorem dX6_takeWriteBack_81 : decode cX6_takeWriteBack 81 = .ok (.invokevirtual 77, 3) := by decide +kernel
theorem dX6_takeWriteBack_84 : decode cX6_takeWriteBack 84 = .ok (.return_, 1) := by decide +kernel
theorem dX6_endGroup_0 : decode cX6_endGroup 0 = .ok (.aload_n 0, 1) := by decide +kernel
theorem dX6_endGroup_1 : decode cX6_endGroup 1 = .ok (.getfield 28, 3) := by decide +kernel
theorem dX6_endGroup_4 : decode cX6_endGroup 4 = .ok (.iconst 4, 1) := by decide +kernel
theorem dX6_endGroup_5 : decode cX6_endGroup 5 = .ok (.iload_n 1, 1) := by decide +kernel
theorem dX6_endGroup_6 : decode cX6_endGroup 6 = .ok (.ldc 61, 2) := by decide +kernel
theorem dX6_endGroup_8 : decode cX6_endGroup 8 = .ok (.iconst 0, 1) := by decide +kernel
theorem dX6_endGroup_9 : decode cX6_endGroup 9 = .ok (.iconst 0, 1) := by decide +kernel
theorem dX6_endGroup_10 : decode cX6_endGroup 10 = .ok (.iconst 0, 1) := by decide +kernel
theorem dX6_endGroup_11 : decode cX6_endGroup 11 = .ok (.invokevirtual 62, 3) := by decide +kernel
theorem dX6_endGroup_14 : decode cX6_endGroup 14 = .ok (.pop, 1) := by decide +kernel
theorem dX6_endGroup_15 : decode cX6_endGroup 15 = .ok (.aload_n 0, 1) := by decide +kernel
theorem dX6_endGroup_16 : decode cX6_endGroup 16 = .ok (.getfield 21, 3) := by decide +kernel
theorem dX6_endGroup_19 : decode cX6_endGroup 19 = .ok (.iload_n 1, 1) := by decide +kernel
theorem dX6_endGroup_20 : decode cX6_endGroup 20 = .ok (.invokevirtual 94, 3) := by decide +kernel
theorem dX6_endGroup_23 : decode cX6_endGroup 23 = .ok (.return_, 1) := by decide +kernel
theorem dX6_writePageOut_0 : decode cX6_writePageOut 0 = .ok (.iload_n 1, 1) := by decide +kernel
theorem dX6_writePageOut_1 : decode cX6_writePageOut 1 = .ok (.ifCond .lt 9, 3) := by decide +kernel
theorem dX6_writePageOut_4 : decode cX6_writePageOut 4 = .ok (.iload_n 1, 1) := by decide +kernel
theorem dX6_writePageOut_5 : decode cX6_writePageOut 5 = .ok (.bipush 8, 2) := by decide +kernel
theorem dX6_writePageOut_7 : decode cX6_writePageOut 7 = .ok (.if_icmp .lt 6, 3) := by decide +kernel
theorem dX6_writePageOut_10 : decode cX6_writePageOut 10 = .ok (.ldc 50, 2) := by decide +kernel
theorem dX6_writePageOut_12 : decode cX6_writePageOut 12 = .ok (.ireturn, 1) := by decide +kernel
theorem dX6_writePageOut_13 : decode cX6_writePageOut 13 = .ok (.aload_n 0, 1) := by decide +kernel
theorem dX6_writePageOut_14 : decode cX6_writePageOut 14 = .ok (.getfield 42, 3) := by decide +kernel
theorem dX6_writePageOut_17 : decode cX6_writePageOut 17 = .ok (.ifCond .ne 17, 3) := by decide +kernel
theorem dX6_writePageOut_20 : decode cX6_writePageOut 20 = .ok (.aload_n 0, 1) := by decide +kernel
theorem dX6_writePageOut_21 : decode cX6_writePageOut 21 = .ok (.getfield 12, 3) := by decide +kernel
theorem dX6_writePageOut_24 : decode cX6_writePageOut 24 = .ok (.getfield 139, 3) := by decide +kernel
theorem dX6_writePageOut_27 : decode cX6_writePageOut 27 = .ok (.iload_n 1, 1) := by decide +kernel
theorem dX6_writePageOut_28 : decode cX6_writePageOut 28 = .ok (.ishr, 1) := by decide +kernel
theorem dX6_writePageOut_29 : decode cX6_writePageOut 29 = .ok (.iconst 1, 1) := by decide +kernel
theorem dX6_writePageOut_30 : decode cX6_writePageOut 30 = .ok (.iand, 1) := by decide +kernel
theorem dX6_writePageOut_31 : decode cX6_writePageOut 31 = .ok (.ifCond .ne 6, 3) := by decide +kernel
theorem dX6_writePageOut_34 : decode cX6_writePageOut 34 = .ok (.ldc 55, 2) := by decide +kernel
theorem dX6_writePageOut_36 : decode cX6_writePageOut 36 = .ok (.ireturn, 1) := by decide +kernel
theorem dX6_writePageOut_37 : decode cX6_writePageOut 37 = .ok (.aload_n 0, 1) := by decide +kernel
theorem dX6_writePageOut_38 : decode cX6_writePageOut 38 = .ok (.getfield 28, 3) := by decide +kernel
theorem dX6_writePageOut_41 : decode cX6_writePageOut 41 = .ok (.aload_n 0, 1) := by decide +kernel
theorem dX6_writePageOut_42 : decode cX6_writePageOut 42 = .ok (.getfield 12, 3) := by decide +kernel
theorem dX6_writePageOut_45 : decode cX6_writePageOut 45 = .ok (.iload_n 1, 1) := by decide +kernel
theorem dX6_writePageOut_46 : decode cX6_writePageOut 46 = .ok (.invokevirtual 142, 3) := by decide +kernel
theorem dX6_writePageOut_49 : decode cX6_writePageOut 49 = .ok (.invokevirtual 91, 3) := by decide +kernel
theorem dX6_writePageOut_52 : decode cX6_writePageOut 52 = .ok (.istore_n 2, 1) := by decide +kernel
theorem dX6_writePageOut_53 : decode cX6_writePageOut 53 = .ok (.aload_n 0, 1) := by decide +kernel
theorem dX6_writePageOut_54 : decode cX6_writePageOut 54 = .ok (.getfield 12, 3) := by decide +kernel
theorem dX6_writePageOut_57 : decode cX6_writePageOut 57 = .ok (.iload_n 1, 1) := by decide +kernel
theorem dX6_writePageOut_58 : decode cX6_writePageOut 58 = .ok (.invokevirtual 145, 3) := by decide +kernel
theorem dX6_writePageOut_61 : decode cX6_writePageOut 61 = .ok (.iload_n 2, 1) := by decide +kernel
theorem dX6_writePageOut_62 : decode cX6_writePageOut 62 = .ok (.ireturn, 1) := by decide +kernel
theorem dX6_dropPageOut_0 : decode cX6_dropPageOut 0 = .ok (.iload_n 1, 1) := by decide +kernel
theorem dX6_dropPageOut_1 : decode cX6_dropPageOut 1 = .ok (.ifCond .lt 9, 3) := by decide +kernel
theorem dX6_dropPageOut_4 : decode cX6_dropPageOut 4 = .ok (.iload_n 1, 1) := by decide +kernel
theorem dX6_dropPageOut_5 : decode cX6_dropPageOut 5 = .ok (.bipush 8, 2) := by decide +kernel
theorem dX6_dropPageOut_7 : decode cX6_dropPageOut 7 = .ok (.if_icmp .lt 6, 3) := by decide +kernel
theorem dX6_dropPageOut_10 : decode cX6_dropPageOut 10 = .ok (.ldc 50, 2) := by decide +kernel
theorem dX6_dropPageOut_12 : decode cX6_dropPageOut 12 = .ok (.ireturn, 1) := by decide +kernel
theorem dX6_dropPageOut_13 : decode cX6_dropPageOut 13 = .ok (.aload_n 0, 1) := by decide +kernel
theorem dX6_dropPageOut_14 : decode cX6_dropPageOut 14 = .ok (.getfield 12, 3) := by decide +kernel
theorem dX6_dropPageOut_17 : decode cX6_dropPageOut 17 = .ok (.getfield 148, 3) := by decide +kernel
theorem dX6_dropPageOut_20 : decode cX6_dropPageOut 20 = .ok (.aload_n 0, 1) := by decide +kernel
theorem dX6_dropPageOut_21 : decode cX6_dropPageOut 21 = .ok (.getfield 12, 3) := by decide +kernel
theorem dX6_dropPageOut_24 : decode cX6_dropPageOut 24 = .ok (.getfield 139, 3) := by decide +kernel
theorem dX6_dropPageOut_27 : decode cX6_dropPageOut 27 = .ok (.iconst (-1), 1) := by decide +kernel
theorem dX6_dropPageOut_28 : decode cX6_dropPageOut 28 = .ok (.ixor, 1) := by decide +kernel
theorem dX6_dropPageOut_29 : decode cX6_dropPageOut 29 = .ok (.iand, 1) := by decide +kernel
theorem dX6_dropPageOut_30 : decode cX6_dropPageOut 30 = .ok (.istore_n 2, 1) := by decide +kernel
theorem dX6_dropPageOut_31 : decode cX6_dropPageOut 31 = .ok (.aload_n 0, 1) := by decide +kernel
theorem dX6_dropPageOut_32 : decode cX6_dropPageOut 32 = .ok (.getfield 42, 3) := by decide +kernel
theorem dX6_dropPageOut_35 : decode cX6_dropPageOut 35 = .ok (.ifCond .ne 11, 3) := by decide +kernel
theorem dX6_dropPageOut_38 : decode cX6_dropPageOut 38 = .ok (.iload_n 2, 1) := by decide +kernel
theorem dX6_dropPageOut_39 : decode cX6_dropPageOut 39 = .ok (.iload_n 1, 1) := by decide +kernel
theorem dX6_dropPageOut_40 : decode cX6_dropPageOut 40 = .ok (.ishr, 1) := by decide +kernel
theorem dX6_dropPageOut_41 : decode cX6_dropPageOut 41 = .ok (.iconst 1, 1) := by decide +kernel
theorem dX6_dropPageOut_42 : decode cX6_dropPageOut 42 = .ok (.iand, 1) := by decide +kernel
theorem dX6_dropPageOut_43 : decode cX6_dropPageOut 43 = .ok (.ifCond .ne 6, 3) := by decide +kernel
theorem dX6_dropPageOut_46 : decode cX6_dropPageOut 46 = .ok (.ldc 55, 2) := by decide +kernel
theorem dX6_dropPageOut_48 : decode cX6_dropPageOut 48 = .ok (.ireturn, 1) := by decide +kernel
theorem dX6_dropPageOut_49 : decode cX6_dropPageOut 49 = .ok (.aload_n 0, 1) := by decide +kernel
theorem dX6_dropPageOut_50 : decode cX6_dropPageOut 50 = .ok (.getfield 12, 3) := by decide +kernel
theorem dX6_dropPageOut_53 : decode cX6_dropPageOut 53 = .ok (.dup, 1) := by decide +kernel
theorem dX6_dropPageOut_54 : decode cX6_dropPageOut 54 = .ok (.getfield 148, 3) := by decide +kernel
theorem dX6_dropPageOut_57 : decode cX6_dropPageOut 57 = .ok (.iconst 1, 1) := by decide +kernel
theorem dX6_dropPageOut_58 : decode cX6_dropPageOut 58 = .ok (.iload_n 1, 1) := by decide +kernel
theorem dX6_dropPageOut_59 : decode cX6_dropPageOut 59 = .ok (.ishl, 1) := by decide +kernel
theorem dX6_dropPageOut_60 : decode cX6_dropPageOut 60 = .ok (.iconst (-1), 1) := by decide +kernel
theorem dX6_dropPageOut_61 : decode cX6_dropPageOut 61 = .ok (.ixor, 1) := by decide +kernel
theorem dX6_dropPageOut_62 : decode cX6_dropPageOut 62 = .ok (.iand, 1) := by decide +kernel
theorem dX6_dropPageOut_63 : decode cX6_dropPageOut 63 = .ok (.putfield 148, 3) := by decide +kernel
theorem dX6_dropPageOut_66 : decode cX6_dropPageOut 66 = .ok (.aload_n 0, 1) := by decide +kernel
theorem dX6_dropPageOut_67 : decode cX6_dropPageOut 67 = .ok (.getfield 12, 3) := by decide +kernel
theorem dX6_dropPageOut_70 : decode cX6_dropPageOut 70 = .ok (.getfield 148, 3) := by decide +kernel
theorem dX6_dropPageOut_73 : decode cX6_dropPageOut 73 = .ok (.invokestatic 101, 3) := by decide +kernel
theorem dX6_dropPageOut_76 : decode cX6_dropPageOut 76 = .ok (.ireturn, 1) := by decide +kernel
theorem dX6_makeCheckpoint_0 : decode cX6_makeCheckpoint 0 = .ok (.aload_n 0, 1) := by decide +kernel
theorem dX6_makeCheckpoint_1 : decode cX6_makeCheckpoint 1 = .ok (.getfield 42, 3) := by decide +kernel
theorem dX6_makeCheckpoint_4 : decode cX6_makeCheckpoint 4 = .ok (.ifCond .eq 6, 3) := by decide +kernel
theorem dX6_makeCheckpoint_7 : decode cX6_makeCheckpoint 7 = .ok (.ldc 55, 2) := by decide +kernel
theorem dX6_makeCheckpoint_9 : decode cX6_makeCheckpoint 9 = .ok (.ireturn, 1) := by decide +kernel
theorem dX6_makeCheckpoint_10 : decode cX6_makeCheckpoint 10 = .ok (.aload_n 0, 1) := by decide +kernel
theorem dX6_makeCheckpoint_11 : decode cX6_makeCheckpoint 11 = .ok (.getfield 28, 3) := by decide +kernel
theorem dX6_makeCheckpoint_14 : decode cX6_makeCheckpoint 14 = .ok (.invokevirtual 56, 3) := by decide +kernel
theorem dX6_makeCheckpoint_17 : decode cX6_makeCheckpoint 17 = .ok (.ifCond .eq 6, 3) := by decide +kernel
theorem dX6_makeCheckpoint_20 : decode cX6_makeCheckpoint 20 = .ok (.ldc 60, 2) := by decide +kernel
theorem dX6_makeCheckpoint_22 : decode cX6_makeCheckpoint 22 = .ok (.ireturn, 1) := by decide +kernel
theorem dX6_makeCheckpoint_23 : decode cX6_makeCheckpoint 23 = .ok (.aload_n 0, 1) := by decide +kernel
theorem dX6_makeCheckpoint_24 : decode cX6_makeCheckpoint 24 = .ok (.getfield 28, 3) := by decide +kernel
theorem dX6_makeCheckpoint_27 : decode cX6_makeCheckpoint 27 = .ok (.aload_n 0, 1) := by decide +kernel
theorem dX6_makeCheckpoint_28 : decode cX6_makeCheckpoint 28 = .ok (.getfield 21, 3) := by decide +kernel
theorem dX6_makeCheckpoint_31 : decode cX6_makeCheckpoint 31 = .ok (.aload_n 0, 1) := by decide +kernel
theorem dX6_makeCheckpoint_32 : decode cX6_makeCheckpoint 32 = .ok (.getfield 12, 3) := by decide +kernel
theorem dX6_makeCheckpoint_35 : decode cX6_makeCheckpoint 35 = .ok (.invokevirtual 151, 3) := by decide +kernel
theorem dX6_makeCheckpoint_38 : decode cX6_makeCheckpoint 38 = .ok (.ireturn, 1) := by decide +kernel
theorem dX6_dropOldRecords_0 : decode cX6_dropOldRecords 0 = .ok (.aload_n 0, 1) := by decide +kernel
theorem dX6_dropOldRecords_1 : decode cX6_dropOldRecords 1 = .ok (.getfield 42, 3) := by decide +kernel
theorem dX6_dropOldRecords_4 : decode cX6_dropOldRecords 4 = .ok (.ifCond .ne 13, 3) := by decide +kernel
theorem dX6_dropOldRecords_7 : decode cX6_dropOldRecords 7 = .ok (.aload_n 0, 1) := by decide +kernel
theorem dX6_dropOldRecords_8 : decode cX6_dropOldRecords 8 = .ok (.getfield 28, 3) := by decide +kernel
theorem dX6_dropOldRecords_11 : decode cX6_dropOldRecords 11 = .ok (.getfield 155, 3) := by decide +kernel
theorem dX6_dropOldRecords_14 : decode cX6_dropOldRecords 14 = .ok (.ifCond .ne 6, 3) := by decide +kernel
theorem dX6_dropOldRecords_17 : decode cX6_dropOldRecords 17 = .ok (.ldc 55, 2) := by decide +kernel
theorem dX6_dropOldRecords_19 : decode cX6_dropOldRecords 19 = .ok (.ireturn, 1) := by decide +kernel
theorem dX6_dropOldRecords_20 : decode cX6_dropOldRecords 20 = .ok (.aload_n 0, 1) := by decide +kernel
theorem dX6_dropOldRecords_21 : decode cX6_dropOldRecords 21 = .ok (.getfield 28, 3) := by decide +kernel
theorem dX6_dropOldRecords_24 : decode cX6_dropOldRecords 24 = .ok (.invokevirtual 158, 3) := by decide +kernel
theorem dX6_dropOldRecords_27 : decode cX6_dropOldRecords 27 = .ok (.ireturn, 1) := by decide +kernel
theorem dX6_forceAll_0 : decode cX6_forceAll 0 = .ok (.aload_n 0, 1) := by decide +kernel
theorem dX6_forceAll_1 : decode cX6_forceAll 1 = .ok (.getfield 42, 3) := by decide +kernel
theorem dX6_forceAll_4 : decode cX6_forceAll 4 = .ok (.ifCond .eq 8, 3) := by decide +kernel
theorem dX6_forceAll_7 : decode cX6_forceAll 7 = .ok (.ldc 55, 2) := by decide +kernel
theorem dX6_forceAll_9 : decode cX6_forceAll 9 = .ok (.goto 17, 3) := by decide +kernel
theorem dX6_forceAll_12 : decode cX6_forceAll 12 = .ok (.aload_n 0, 1) := by decide +kernel
theorem dX6_forceAll_13 : decode cX6_forceAll 13 = .ok (.getfield 28, 3) := by decide +kernel
theorem dX6_forceAll_16 : decode cX6_forceAll 16 = .ok (.aload_n 0, 1) := by decide +kernel
theorem dX6_forceAll_17 : decode cX6_forceAll 17 = .ok (.getfield 28, 3) := by decide +kernel
theorem dX6_forceAll_20 : decode cX6_forceAll 20 = .ok (.invokevirtual 112, 3) := by decide +kernel
theorem dX6_forceAll_23 : decode cX6_forceAll 23 = .ok (.invokevirtual 91, 3) := by decide +kernel
theorem dX6_forceAll_26 : decode cX6_forceAll 26 = .ok (.ireturn, 1) := by decide +kernel
theorem dX6_stopStore_0 : decode cX6_stopStore 0 = .ok (.iload_n 1, 1) := by decide +kernel
theorem dX6_stopStore_1 : decode cX6_stopStore 1 = .ok (.ifCond .lt 8, 3) := by decide +kernel
theorem dX6_stopStore_4 : decode cX6_stopStore 4 = .ok (.iload_n 1, 1) := by decide +kernel
theorem dX6_stopStore_5 : decode cX6_stopStore 5 = .ok (.iconst 1, 1) := by decide +kernel
theorem dX6_stopStore_6 : decode cX6_stopStore 6 = .ok (.if_icmp .le 6, 3) := by decide +kernel
theorem dX6_stopStore_9 : decode cX6_stopStore 9 = .ok (.ldc 50, 2) := by decide +kernel
theorem dX6_stopStore_11 : decode cX6_stopStore 11 = .ok (.ireturn, 1) := by decide +kernel
theorem dX6_stopStore_12 : decode cX6_stopStore 12 = .ok (.aload_n 0, 1) := by decide +kernel
theorem dX6_stopStore_13 : decode cX6_stopStore 13 = .ok (.getfield 42, 3) := by decide +kernel
theorem dX6_stopStore_16 : decode cX6_stopStore 16 = .ok (.ifCond .eq 6, 3) := by decide +kernel
theorem dX6_stopStore_19 : decode cX6_stopStore 19 = .ok (.ldc 55, 2) := by decide +kernel
theorem dX6_stopStore_21 : decode cX6_stopStore 21 = .ok (.ireturn, 1) := by decide +kernel
theorem dX6_stopStore_22 : decode cX6_stopStore 22 = .ok (.aload_n 0, 1) := by decide +kernel
theorem dX6_stopStore_23 : decode cX6_stopStore 23 = .ok (.getfield 28, 3) := by decide +kernel
theorem dX6_stopStore_26 : decode cX6_stopStore 26 = .ok (.iload_n 1, 1) := by decide +kernel
theorem dX6_stopStore_27 : decode cX6_stopStore 27 = .ok (.iconst 1, 1) := by decide +kernel
theorem dX6_stopStore_28 : decode cX6_stopStore 28 = .ok (.if_icmp .ne 7, 3) := by decide +kernel
theorem dX6_stopStore_31 : decode cX6_stopStore 31 = .ok (.iconst 1, 1) := by decide +kernel
theorem dX6_stopStore_32 : decode cX6_stopStore 32 = .ok (.goto 4, 3) := by decide +kernel
theorem dX6_stopStore_35 : decode cX6_stopStore 35 = .ok (.iconst 0, 1) := by decide +kernel
theorem dX6_stopStore_36 : decode cX6_stopStore 36 = .ok (.aload_n 0, 1) := by decide +kernel
theorem dX6_stopStore_37 : decode cX6_stopStore 37 = .ok (.getfield 12, 3) := by decide +kernel
theorem dX6_stopStore_40 : decode cX6_stopStore 40 = .ok (.invokevirtual 161, 3) := by decide +kernel
theorem dX6_stopStore_43 : decode cX6_stopStore 43 = .ok (.invokevirtual 164, 3) := by decide +kernel
theorem dX6_stopStore_46 : decode cX6_stopStore 46 = .ok (.istore_n 2, 1) := by decide +kernel
theorem dX6_stopStore_47 : decode cX6_stopStore 47 = .ok (.aload_n 0, 1) := by decide +kernel
theorem dX6_stopStore_48 : decode cX6_stopStore 48 = .ok (.getfield 12, 3) := by decide +kernel
theorem dX6_stopStore_51 : decode cX6_stopStore 51 = .ok (.invokevirtual 168, 3) := by decide +kernel
theorem dX6_stopStore_54 : decode cX6_stopStore 54 = .ok (.aload_n 0, 1) := by decide +kernel
theorem dX6_stopStore_55 : decode cX6_stopStore 55 = .ok (.getfield 21, 3) := by decide +kernel
theorem dX6_stopStore_58 : decode cX6_stopStore 58 = .ok (.iconst 0, 1) := by decide +kernel
theorem dX6_stopStore_59 : decode cX6_stopStore 59 = .ok (.putfield 171, 3) := by decide +kernel
theorem dX6_stopStore_62 : decode cX6_stopStore 62 = .ok (.aload_n 0, 1) := by decide +kernel
theorem dX6_stopStore_63 : decode cX6_stopStore 63 = .ok (.iconst 1, 1) := by decide +kernel
theorem dX6_stopStore_64 : decode cX6_stopStore 64 = .ok (.putfield 42, 3) := by decide +kernel
theorem dX6_stopStore_67 : decode cX6_stopStore 67 = .ok (.iload_n 2, 1) := by decide +kernel
theorem dX6_stopStore_68 : decode cX6_stopStore 68 = .ok (.ireturn, 1) := by decide +kernel
theorem dX7_init_0 : decode cX7_init 0 = .ok (.aload_n 0, 1) := by decide +kernel
theorem dX7_init_1 : decode cX7_init 1 = .ok (.invokespecial 1, 3) := by decide +kernel
theorem dX7_init_4 : decode cX7_init 4 = .ok (.aload_n 0, 1) := by decide +kernel
theorem dX7_init_5 : decode cX7_init 5 = .ok (.new 7, 3) := by decide +kernel
theorem dX7_init_8 : decode cX7_init 8 = .ok (.dup, 1) := by decide +kernel
theorem dX7_init_9 : decode cX7_init 9 = .ok (.invokespecial 9, 3) := by decide +kernel
theorem dX7_init_12 : decode cX7_init 12 = .ok (.putfield 10, 3) := by decide +kernel
theorem dX7_init_15 : decode cX7_init 15 = .ok (.aload_n 0, 1) := by decide +kernel
theorem dX7_init_16 : decode cX7_init 16 = .ok (.new 7, 3) := by decide +kernel
theorem dX7_init_19 : decode cX7_init 19 = .ok (.dup, 1) := by decide +kernel
theorem dX7_init_20 : decode cX7_init 20 = .ok (.invokespecial 9, 3) := by decide +kernel
theorem dX7_init_23 : decode cX7_init 23 = .ok (.putfield 16, 3) := by decide +kernel
theorem dX7_init_26 : decode cX7_init 26 = .ok (.aload_n 0, 1) := by decide +kernel
theorem dX7_init_27 : decode cX7_init 27 = .ok (.new 19, 3) := by decide +kernel
theorem dX7_init_30 : decode cX7_init 30 = .ok (.dup, 1) := by decide +kernel
theorem dX7_init_31 : decode cX7_init 31 = .ok (.invokespecial 21, 3) := by decide +kernel
theorem dX7_init_34 : decode cX7_init 34 = .ok (.putfield 22, 3) := by decide +kernel
theorem dX7_init_37 : decode cX7_init 37 = .ok (.aload_n 0, 1) := by decide +kernel
theorem dX7_init_38 : decode cX7_init 38 = .ok (.new 26, 3) := by decide +kernel
theorem dX7_init_41 : decode cX7_init 41 = .ok (.dup, 1) := by decide +kernel
theorem dX7_init_42 : decode cX7_init 42 = .ok (.invokespecial 28, 3) := by decide +kernel
theorem dX7_init_45 : decode cX7_init 45 = .ok (.putfield 29, 3) := by decide +kernel
theorem dX7_init_48 : decode cX7_init 48 = .ok (.aload_n 0, 1) := by decide +kernel
theorem dX7_init_49 : decode cX7_init 49 = .ok (.new 33, 3) := by decide +kernel
theorem dX7_init_52 : decode cX7_init 52 = .ok (.dup, 1) := by decide +kernel
theorem dX7_init_53 : decode cX7_init 53 = .ok (.invokespecial 35, 3) := by decide +kernel
theorem dX7_init_56 : decode cX7_init 56 = .ok (.putfield 36, 3) := by decide +kernel
theorem dX7_init_59 : decode cX7_init 59 = .ok (.return_, 1) := by decide +kernel
theorem dX7_begin_0 : decode cX7_begin 0 = .ok (.aload_n 0, 1) := by decide +kernel
theorem dX7_begin_1 : decode cX7_begin 1 = .ok (.getfield 29, 3) := by decide +kernel
theorem dX7_begin_4 : decode cX7_begin 4 = .ok (.aload_n 0, 1) := by decide +kernel
theorem dX7_begin_5 : decode cX7_begin 5 = .ok (.getfield 10, 3) := by decide +kernel
theorem dX7_begin_8 : decode cX7_begin 8 = .ok (.invokevirtual 40, 3) := by decide +kernel
theorem dX7_begin_11 : decode cX7_begin 11 = .ok (.aload_n 0, 1) := by decide +kernel
theorem dX7_begin_12 : decode cX7_begin 12 = .ok (.getfield 29, 3) := by decide +kernel
theorem dX7_begin_15 : decode cX7_begin 15 = .ok (.aload_n 0, 1) := by decide +kernel
theorem dX7_begin_16 : decode cX7_begin 16 = .ok (.getfield 10, 3) := by decide +kernel
theorem dX7_begin_19 : decode cX7_begin 19 = .ok (.iload_n 1, 1) := by decide +kernel
theorem dX7_begin_20 : decode cX7_begin 20 = .ok (.invokevirtual 44, 3) := by decide +kernel
theorem dX7_begin_23 : decode cX7_begin 23 = .ok (.invokevirtual 48, 3) := by decide +kernel
theorem dX7_begin_26 : decode cX7_begin 26 = .ok (.ireturn, 1) := by decide +kernel
theorem dX7_write_0 : decode cX7_write 0 = .ok (.aload_n 0, 1) := by decide +kernel
theorem dX7_write_1 : decode cX7_write 1 = .ok (.getfield 29, 3) := by decide +kernel
theorem dX7_write_4 : decode cX7_write 4 = .ok (.aload_n 0, 1) := by decide +kernel
theorem dX7_write_5 : decode cX7_write 5 = .ok (.getfield 10, 3) := by decide +kernel
theorem dX7_write_8 : decode cX7_write 8 = .ok (.invokevirtual 40, 3) := by decide +kernel
theorem dX7_write_11 : decode cX7_write 11 = .ok (.aload_n 0, 1) := by decide +kernel
theorem dX7_write_12 : decode cX7_write 12 = .ok (.getfield 29, 3) := by decide +kernel
theorem dX7_write_15 : decode cX7_write 15 = .ok (.aload_n 0, 1) := by decide +kernel
theorem dX7_write_16 : decode cX7_write 16 = .ok (.getfield 10, 3) := by decide +kernel
theorem dX7_write_19 : decode cX7_write 19 = .ok (.iload_n 1, 1) := by decide +kernel
theorem dX7_write_20 : decode cX7_write 20 = .ok (.iload_n 2, 1) := by decide +kernel
theorem dX7_write_21 : decode cX7_write 21 = .ok (.iload_n 3, 1) := by decide +kernel
theorem dX7_write_22 : decode cX7_write 22 = .ok (.invokevirtual 51, 3) := by decide +kernel
theorem dX7_write_25 : decode cX7_write 25 = .ok (.invokevirtual 48, 3) := by decide +kernel
theorem dX7_write_28 : decode cX7_write 28 = .ok (.ireturn, 1) := by decide +kernel
theorem dX7_settle_0 : decode cX7_settle 0 = .ok (.aload_n 0, 1) := by decide +kernel
theorem dX7_settle_1 : decode cX7_settle 1 = .ok (.getfield 29, 3) := by decide +kernel
theorem dX7_settle_4 : decode cX7_settle 4 = .ok (.aload_n 0, 1) := by decide +kernel
theorem dX7_settle_5 : decode cX7_settle 5 = .ok (.getfield 10, 3) := by decide +kernel
theorem dX7_settle_8 : decode cX7_settle 8 = .ok (.invokevirtual 40, 3) := by decide +kernel
theorem dX7_settle_11 : decode cX7_settle 11 = .ok (.aload_n 0, 1) := by decide +kernel
theorem dX7_settle_12 : decode cX7_settle 12 = .ok (.getfield 29, 3) := by decide +kernel
theorem dX7_settle_15 : decode cX7_settle 15 = .ok (.aload_n 0, 1) := by decide +kernel
theorem dX7_settle_16 : decode cX7_settle 16 = .ok (.getfield 10, 3) := by decide +kernel
theorem dX7_settle_19 : decode cX7_settle 19 = .ok (.iload_n 1, 1) := by decide +kernel
theorem dX7_settle_20 : decode cX7_settle 20 = .ok (.invokevirtual 55, 3) := by decide +kernel
theorem dX7_settle_23 : decode cX7_settle 23 = .ok (.invokevirtual 48, 3) := by decide +kernel
theorem dX7_settle_26 : decode cX7_settle 26 = .ok (.ireturn, 1) := by decide +kernel
theorem dX7_takeBack_0 : decode cX7_takeBack 0 = .ok (.aload_n 0, 1) := by decide +kernel
theorem dX7_takeBack_1 : decode cX7_takeBack 1 = .ok (.getfield 29, 3) := by decide +kernel
theorem dX7_takeBack_4 : decode cX7_takeBack 4 = .ok (.aload_n 0, 1) := by decide +kernel
theorem dX7_takeBack_5 : decode cX7_takeBack 5 = .ok (.getfield 10, 3) := by decide +kernel
theorem dX7_takeBack_8 : decode cX7_takeBack 8 = .ok (.invokevirtual 40, 3) := by decide +kernel
theorem dX7_takeBack_11 : decode cX7_takeBack 11 = .ok (.aload_n 0, 1) := by decide +kernel
theorem dX7_takeBack_12 : decode cX7_takeBack 12 = .ok (.getfield 29, 3) := by decide +kernel
theorem dX7_takeBack_15 : decode cX7_takeBack 15 = .ok (.aload_n 0, 1) := by decide +kernel
theorem dX7_takeBack_16 : decode cX7_takeBack 16 = .ok (.getfield 10, 3) := by decide +kernel
theorem dX7_takeBack_19 : decode cX7_takeBack 19 = .ok (.iload_n 1, 1) := by decide +kernel
theorem dX7_takeBack_20 : decode cX7_takeBack 20 = .ok (.invokevirtual 58, 3) := by decide +kernel
theorem dX7_takeBack_23 : decode cX7_takeBack 23 = .ok (.invokevirtual 48, 3) := by decide +kernel
theorem dX7_takeBack_26 : decode cX7_takeBack 26 = .ok (.ireturn, 1) := by decide +kernel
theorem dX7_writeOut_0 : decode cX7_writeOut 0 = .ok (.aload_n 0, 1) := by decide +kernel
theorem dX7_writeOut_1 : decode cX7_writeOut 1 = .ok (.getfield 29, 3) := by decide +kernel
theorem dX7_writeOut_4 : decode cX7_writeOut 4 = .ok (.aload_n 0, 1) := by decide +kernel
theorem dX7_writeOut_5 : decode cX7_writeOut 5 = .ok (.getfield 10, 3) := by decide +kernel
theorem dX7_writeOut_8 : decode cX7_writeOut 8 = .ok (.invokevirtual 40, 3) := by decide +kernel
theorem dX7_writeOut_11 : decode cX7_writeOut 11 = .ok (.aload_n 0, 1) := by decide +kernel
theorem dX7_writeOut_12 : decode cX7_writeOut 12 = .ok (.getfield 29, 3) := by decide +kernel
theorem dX7_writeOut_15 : decode cX7_writeOut 15 = .ok (.aload_n 0, 1) := by decide +kernel
theorem dX7_writeOut_16 : decode cX7_writeOut 16 = .ok (.getfield 10, 3) := by decide +kernel
theorem dX7_writeOut_19 : decode cX7_writeOut 19 = .ok (.iload_n 1, 1) := by decide +kernel
theorem dX7_writeOut_20 : decode cX7_writeOut 20 = .ok (.invokevirtual 61, 3) := by decide +kernel
theorem dX7_writeOut_23 : decode cX7_writeOut 23 = .ok (.invokevirtual 48, 3) := by decide +kernel
theorem dX7_writeOut_26 : decode cX7_writeOut 26 = .ok (.ireturn, 1) := by decide +kernel
theorem dX7_dropOut_0 : decode cX7_dropOut 0 = .ok (.aload_n 0, 1) := by decide +kernel
theorem dX7_dropOut_1 : decode cX7_dropOut 1 = .ok (.getfield 29, 3) := by decide +kernel
theorem dX7_dropOut_4 : decode cX7_dropOut 4 = .ok (.aload_n 0, 1) := by decide +kernel
theorem dX7_dropOut_5 : decode cX7_dropOut 5 = .ok (.getfield 10, 3) := by decide +kernel
theorem dX7_dropOut_8 : decode cX7_dropOut 8 = .ok (.invokevirtual 40, 3) := by decide +kernel
theorem dX7_dropOut_11 : decode cX7_dropOut 11 = .ok (.aload_n 0, 1) := by decide +kernel
theorem dX7_dropOut_12 : decode cX7_dropOut 12 = .ok (.getfield 29, 3) := by decide +kernel
theorem dX7_dropOut_15 : decode cX7_dropOut 15 = .ok (.aload_n 0, 1) := by decide +kernel
theorem dX7_dropOut_16 : decode cX7_dropOut 16 = .ok (.getfield 10, 3) := by decide +kernel
theorem dX7_dropOut_19 : decode cX7_dropOut 19 = .ok (.iload_n 1, 1) := by decide +kernel
theorem dX7_dropOut_20 : decode cX7_dropOut 20 = .ok (.invokevirtual 64, 3) := by decide +kernel
theorem dX7_dropOut_23 : decode cX7_dropOut 23 = .ok (.invokevirtual 48, 3) := by decide +kernel
theorem dX7_dropOut_26 : decode cX7_dropOut 26 = .ok (.ireturn, 1) := by decide +kernel
theorem dX7_checkpoint_0 : decode cX7_checkpoint 0 = .ok (.aload_n 0, 1) := by decide +kernel
theorem dX7_checkpoint_1 : decode cX7_checkpoint 1 = .ok (.getfield 29, 3) := by decide +kernel
theorem dX7_checkpoint_4 : decode cX7_checkpoint 4 = .ok (.aload_n 0, 1) := by decide +kernel
theorem dX7_checkpoint_5 : decode cX7_checkpoint 5 = .ok (.getfield 10, 3) := by decide +kernel
theorem dX7_checkpoint_8 : decode cX7_checkpoint 8 = .ok (.invokevirtual 40, 3) := by decide +kernel
theorem dX7_checkpoint_11 : decode cX7_checkpoint 11 = .ok (.aload_n 0, 1) := by decide +kernel
theorem dX7_checkpoint_12 : decode cX7_checkpoint 12 = .ok (.getfield 29, 3) := by decide +kernel
theorem dX7_checkpoint_15 : decode cX7_checkpoint 15 = .ok (.aload_n 0, 1) := by decide +kernel
theorem dX7_checkpoint_16 : decode cX7_checkpoint 16 = .ok (.getfield 10, 3) := by decide +kernel
theorem dX7_checkpoint_19 : decode cX7_checkpoint 19 = .ok (.invokevirtual 67, 3) := by decide +kernel
theorem dX7_checkpoint_22 : decode cX7_checkpoint 22 = .ok (.invokevirtual 48, 3) := by decide +kernel
theorem dX7_checkpoint_25 : decode cX7_checkpoint 25 = .ok (.ireturn, 1) := by decide +kernel
theorem dX7_dropRecords_0 : decode cX7_dropRecords 0 = .ok (.aload_n 0, 1) := by decide +kernel
theorem dX7_dropRecords_1 : decode cX7_dropRecords 1 = .ok (.getfield 29, 3) := by decide +kernel
theorem dX7_dropRecords_4 : decode cX7_dropRecords 4 = .ok (.aload_n 0, 1) := by decide +kernel
theorem dX7_dropRecords_5 : decode cX7_dropRecords 5 = .ok (.getfield 10, 3) := by decide +kernel
theorem dX7_dropRecords_8 : decode cX7_dropRecords 8 = .ok (.invokevirtual 40, 3) := by decide +kernel
theorem dX7_dropRecords_11 : decode cX7_dropRecords 11 = .ok (.aload_n 0, 1) := by decide +kernel
theorem dX7_dropRecords_12 : decode cX7_dropRecords 12 = .ok (.getfield 29, 3) := by decide +kernel
theorem dX7_dropRecords_15 : decode cX7_dropRecords 15 = .ok (.aload_n 0, 1) := by decide +kernel
theorem dX7_dropRecords_16 : decode cX7_dropRecords 16 = .ok (.getfield 10, 3) := by decide +kernel
theorem dX7_dropRecords_19 : decode cX7_dropRecords 19 = .ok (.invokevirtual 71, 3) := by decide +kernel
theorem dX7_dropRecords_22 : decode cX7_dropRecords 22 = .ok (.invokevirtual 48, 3) := by decide +kernel
theorem dX7_dropRecords_25 : decode cX7_dropRecords 25 = .ok (.ireturn, 1) := by decide +kernel
theorem dX7_force_0 : decode cX7_force 0 = .ok (.aload_n 0, 1) := by decide +kernel
theorem dX7_force_1 : decode cX7_force 1 = .ok (.getfield 29, 3) := by decide +kernel
theorem dX7_force_4 : decode cX7_force 4 = .ok (.aload_n 0, 1) := by decide +kernel
theorem dX7_force_5 : decode cX7_force 5 = .ok (.getfield 10, 3) := by decide +kernel
theorem dX7_force_8 : decode cX7_force 8 = .ok (.invokevirtual 40, 3) := by decide +kernel
theorem dX7_force_11 : decode cX7_force 11 = .ok (.aload_n 0, 1) := by decide +kernel
theorem dX7_force_12 : decode cX7_force 12 = .ok (.getfield 29, 3) := by decide +kernel
theorem dX7_force_15 : decode cX7_force 15 = .ok (.aload_n 0, 1) := by decide +kernel
theorem dX7_force_16 : decode cX7_force 16 = .ok (.getfield 10, 3) := by decide +kernel
theorem dX7_force_19 : decode cX7_force 19 = .ok (.invokevirtual 74, 3) := by decide +kernel
theorem dX7_force_22 : decode cX7_force 22 = .ok (.invokevirtual 48, 3) := by decide +kernel
theorem dX7_force_25 : decode cX7_force 25 = .ok (.ireturn, 1) := by decide +kernel
theorem dX7_stop_0 : decode cX7_stop 0 = .ok (.aload_n 0, 1) := by decide +kernel
theorem dX7_stop_1 : decode cX7_stop 1 = .ok (.getfield 29, 3) := by decide +kernel
theorem dX7_stop_4 : decode cX7_stop 4 = .ok (.aload_n 0, 1) := by decide +kernel
theorem dX7_stop_5 : decode cX7_stop 5 = .ok (.getfield 10, 3) := by decide +kernel
theorem dX7_stop_8 : decode cX7_stop 8 = .ok (.invokevirtual 40, 3) := by decide +kernel
theorem dX7_stop_11 : decode cX7_stop 11 = .ok (.aload_n 0, 1) := by decide +kernel
theorem dX7_stop_12 : decode cX7_stop 12 = .ok (.getfield 29, 3) := by decide +kernel
theorem dX7_stop_15 : decode cX7_stop 15 = .ok (.aload_n 0, 1) := by decide +kernel
theorem dX7_stop_16 : decode cX7_stop 16 = .ok (.getfield 10, 3) := by decide +kernel
theorem dX7_stop_19 : decode cX7_stop 19 = .ok (.iload_n 1, 1) := by decide +kernel
theorem dX7_stop_20 : decode cX7_stop 20 = .ok (.invokevirtual 77, 3) := by decide +kernel
theorem dX7_stop_23 : decode cX7_stop 23 = .ok (.invokevirtual 48, 3) := by decide +kernel
theorem dX7_stop_26 : decode cX7_stop 26 = .ok (.ireturn, 1) := by decide +kernel
theorem dX7_restart_0 : decode cX7_restart 0 = .ok (.aload_n 0, 1) := by decide +kernel
theorem dX7_restart_1 : decode cX7_restart 1 = .ok (.getfield 29, 3) := by decide +kernel
theorem dX7_restart_4 : decode cX7_restart 4 = .ok (.aload_n 0, 1) := by decide +kernel
theorem dX7_restart_5 : decode cX7_restart 5 = .ok (.getfield 10, 3) := by decide +kernel
theorem dX7_restart_8 : decode cX7_restart 8 = .ok (.invokevirtual 40, 3) := by decide +kernel
theorem dX7_restart_11 : decode cX7_restart 11 = .ok (.aload_n 0, 1) := by decide +kernel
theorem dX7_restart_12 : decode cX7_restart 12 = .ok (.getfield 29, 3) := by decide +kernel
theorem dX7_restart_15 : decode cX7_restart 15 = .ok (.aload_n 0, 1) := by decide +kernel
theorem dX7_restart_16 : decode cX7_restart 16 = .ok (.getfield 22, 3) := by decide +kernel
theorem dX7_restart_19 : decode cX7_restart 19 = .ok (.aload_n 0, 1) := by decide +kernel
theorem dX7_restart_20 : decode cX7_restart 20 = .ok (.getfield 10, 3) := by decide +kernel
theorem dX7_restart_23 : decode cX7_restart 23 = .ok (.invokevirtual 80, 3) := by decide +kernel
theorem dX7_restart_26 : decode cX7_restart 26 = .ok (.invokevirtual 48, 3) := by decide +kernel
theorem dX7_restart_29 : decode cX7_restart 29 = .ok (.ireturn, 1) := by decide +kernel
theorem dX7_pageOf_0 : decode cX7_pageOf 0 = .ok (.iload_n 1, 1) := by decide +kernel
theorem dX7_pageOf_1 : decode cX7_pageOf 1 = .ok (.ifCond .lt 19, 3) := by decide +kernel
theorem dX7_pageOf_4 : decode cX7_pageOf 4 = .ok (.iload_n 1, 1) := by decide +kernel
theorem dX7_pageOf_5 : decode cX7_pageOf 5 = .ok (.bipush 8, 2) := by decide +kernel
theorem dX7_pageOf_7 : decode cX7_pageOf 7 = .ok (.if_icmp .ge 13, 3) := by decide +kernel
theorem dX7_pageOf_10 : decode cX7_pageOf 10 = .ok (.iload_n 2, 1) := by decide +kernel
theorem dX7_pageOf_11 : decode cX7_pageOf 11 = .ok (.ifCond .lt 9, 3) := by decide +kernel
theorem dX7_pageOf_14 : decode cX7_pageOf 14 = .ok (.iload_n 2, 1) := by decide +kernel
theorem dX7_pageOf_15 : decode cX7_pageOf 15 = .ok (.bipush 8, 2) := by decide +kernel
theorem dX7_pageOf_17 : decode cX7_pageOf 17 = .ok (.if_icmp .le 6, 3) := by decide +kernel
theorem dX7_pageOf_20 : decode cX7_pageOf 20 = .ok (.ldc 84, 2) := by decide +kernel
theorem dX7_pageOf_22 : decode cX7_pageOf 22 = .ok (.ireturn, 1) := by decide +kernel
theorem dX7_pageOf_23 : decode cX7_pageOf 23 = .ok (.iload_n 2, 1) := by decide +kernel
theorem dX7_pageOf_24 : decode cX7_pageOf 24 = .ok (.lookupswitch 52 #[(7, 28), (8, 40)], 28) := by decide +kernel
theorem dX7_pageOf_52 : decode cX7_pageOf 52 = .ok (.aload_n 0, 1) := by decide +kernel
theorem dX7_pageOf_53 : decode cX7_pageOf 53 = .ok (.getfield 10, 3) := by decide +kernel
theorem dX7_pageOf_56 : decode cX7_pageOf 56 = .ok (.getfield 85, 3) := by decide +kernel
theorem dX7_pageOf_59 : decode cX7_pageOf 59 = .ok (.iload_n 1, 1) := by decide +kernel
theorem dX7_pageOf_60 : decode cX7_pageOf 60 = .ok (.invokevirtual 89, 3) := by decide +kernel
theorem dX7_pageOf_63 : decode cX7_pageOf 63 = .ok (.ireturn, 1) := by decide +kernel
theorem dX7_pageOf_64 : decode cX7_pageOf 64 = .ok (.aload_n 0, 1) := by decide +kernel
theorem dX7_pageOf_65 : decode cX7_pageOf 65 = .ok (.getfield 10, 3) := by decide +kernel
theorem dX7_pageOf_68 : decode cX7_pageOf 68 = .ok (.getfield 94, 3) := by decide +kernel
theorem dX7_pageOf_71 : decode cX7_pageOf 71 = .ok (.iload_n 1, 1) := by decide +kernel
theorem dX7_pageOf_72 : decode cX7_pageOf 72 = .ok (.invokevirtual 98, 3) := by decide +kernel
theorem dX7_pageOf_75 : decode cX7_pageOf 75 = .ok (.ireturn, 1) := by decide +kernel
theorem dX7_pageOf_76 : decode cX7_pageOf 76 = .ok (.aload_n 0, 1) := by decide +kernel
theorem dX7_pageOf_77 : decode cX7_pageOf 77 = .ok (.getfield 10, 3) := by decide +kernel
theorem dX7_pageOf_80 : decode cX7_pageOf 80 = .ok (.getfield 103, 3) := by decide +kernel
theorem dX7_pageOf_83 : decode cX7_pageOf 83 = .ok (.iload_n 1, 1) := by decide +kernel
theorem dX7_pageOf_84 : decode cX7_pageOf 84 = .ok (.iload_n 2, 1) := by decide +kernel
theorem dX7_pageOf_85 : decode cX7_pageOf 85 = .ok (.invokevirtual 107, 3) := by decide +kernel
theorem dX7_pageOf_88 : decode cX7_pageOf 88 = .ok (.ireturn, 1) := by decide +kernel
theorem dX7_recordOf_0 : decode cX7_recordOf 0 = .ok (.iload_n 1, 1) := by decide +kernel
theorem dX7_recordOf_1 : decode cX7_recordOf 1 = .ok (.iconst 1, 1) := by decide +kernel
theorem dX7_recordOf_2 : decode cX7_recordOf 2 = .ok (.if_icmp .lt 13, 3) := by decide +kernel
theorem dX7_recordOf_5 : decode cX7_recordOf 5 = .ok (.iload_n 2, 1) := by decide +kernel
theorem dX7_recordOf_6 : decode cX7_recordOf 6 = .ok (.ifCond .lt 9, 3) := by decide +kernel
theorem dX7_recordOf_9 : decode cX7_recordOf 9 = .ok (.iload_n 2, 1) := by decide +kernel
theorem dX7_recordOf_10 : decode cX7_recordOf 10 = .ok (.bipush 8, 2) := by decide +kernel
theorem dX7_recordOf_12 : decode cX7_recordOf 12 = .ok (.if_icmp .le 6, 3) := by decide +kernel
theorem dX7_recordOf_15 : decode cX7_recordOf 15 = .ok (.ldc 84, 2) := by decide +kernel
theorem dX7_recordOf_17 : decode cX7_recordOf 17 = .ok (.ireturn, 1) := by decide +kernel
theorem dX7_recordOf_18 : decode cX7_recordOf 18 = .ok (.aload_n 0, 1) := by decide +kernel
theorem dX7_recordOf_19 : decode cX7_recordOf 19 = .ok (.getfield 10, 3) := by decide +kernel
theorem dX7_recordOf_22 : decode cX7_recordOf 22 = .ok (.getfield 94, 3) := by decide +kernel
theorem dX7_recordOf_25 : decode cX7_recordOf 25 = .ok (.iload_n 1, 1) := by decide +kernel
theorem dX7_recordOf_26 : decode cX7_recordOf 26 = .ok (.iload_n 2, 1) := by decide +kernel
theorem dX7_recordOf_27 : decode cX7_recordOf 27 = .ok (.invokevirtual 113, 3) := by decide +kernel
theorem dX7_recordOf_30 : decode cX7_recordOf 30 = .ok (.ireturn, 1) := by decide +kernel
theorem dX7_groupOf_0 : decode cX7_groupOf 0 = .ok (.iload_n 1, 1) := by decide +kernel
theorem dX7_groupOf_1 : decode cX7_groupOf 1 = .ok (.ifCond .lt 17, 3) := by decide +kernel
theorem dX7_groupOf_4 : decode cX7_groupOf 4 = .ok (.iload_n 1, 1) := by decide +kernel
theorem dX7_groupOf_5 : decode cX7_groupOf 5 = .ok (.iconst 4, 1) := by decide +kernel
theorem dX7_groupOf_6 : decode cX7_groupOf 6 = .ok (.if_icmp .ge 12, 3) := by decide +kernel
theorem dX7_groupOf_9 : decode cX7_groupOf 9 = .ok (.iload_n 2, 1) := by decide +kernel
theorem dX7_groupOf_10 : decode cX7_groupOf 10 = .ok (.ifCond .lt 8, 3) := by decide +kernel
theorem dX7_groupOf_13 : decode cX7_groupOf 13 = .ok (.iload_n 2, 1) := by decide +kernel
theorem dX7_groupOf_14 : decode cX7_groupOf 14 = .ok (.iconst 3, 1) := by decide +kernel
theorem dX7_groupOf_15 : decode cX7_groupOf 15 = .ok (.if_icmp .le 6, 3) := by decide +kernel
theorem dX7_groupOf_18 : decode cX7_groupOf 18 = .ok (.ldc 84, 2) := by decide +kernel
theorem dX7_groupOf_20 : decode cX7_groupOf 20 = .ok (.ireturn, 1) := by decide +kernel
theorem dX7_groupOf_21 : decode cX7_groupOf 21 = .ok (.aload_n 0, 1) := by decide +kernel
theorem dX7_groupOf_22 : decode cX7_groupOf 22 = .ok (.getfield 10, 3) := by decide +kernel
theorem dX7_groupOf_25 : decode cX7_groupOf 25 = .ok (.getfield 85, 3) := by decide +kernel
theorem dX7_groupOf_28 : decode cX7_groupOf 28 = .ok (.iload_n 1, 1) := by decide +kernel
theorem dX7_groupOf_29 : decode cX7_groupOf 29 = .ok (.iload_n 2, 1) := by decide +kernel
theorem dX7_groupOf_30 : decode cX7_groupOf 30 = .ok (.invokevirtual 114, 3) := by decide +kernel
theorem dX7_groupOf_33 : decode cX7_groupOf 33 = .ok (.ireturn, 1) := by decide +kernel
theorem dX7_would_0 : decode cX7_would 0 = .ok (.iload_n 2, 1) := by decide +kernel
theorem dX7_would_1 : decode cX7_would 1 = .ok (.bipush 10, 2) := by decide +kernel
theorem dX7_would_3 : decode cX7_would 3 = .ok (.if_icmp .lt 13, 3) := by decide +kernel
theorem dX7_would_6 : decode cX7_would 6 = .ok (.iload_n 2, 1) := by decide +kernel
theorem dX7_would_7 : decode cX7_would 7 = .ok (.bipush 18, 2) := by decide +kernel
theorem dX7_would_9 : decode cX7_would 9 = .ok (.if_icmp .ge 7, 3) := by decide +kernel
theorem dX7_would_12 : decode cX7_would 12 = .ok (.iconst 1, 1) := by decide +kernel
theorem dX7_would_13 : decode cX7_would 13 = .ok (.goto 4, 3) := by decide +kernel
theorem dX7_would_16 : decode cX7_would 16 = .ok (.iconst 0, 1) := by decide +kernel
theorem dX7_would_17 : decode cX7_would 17 = .ok (.istore_n 3, 1) := by decide +kernel
theorem dX7_would_18 : decode cX7_would 18 = .ok (.iload_n 1, 1) := by decide +kernel
theorem dX7_would_19 : decode cX7_would 19 = .ok (.ifCond .lt 21, 3) := by decide +kernel
theorem dX7_would_22 : decode cX7_would 22 = .ok (.iload_n 1, 1) := by decide +kernel
theorem dX7_would_23 : decode cX7_would 23 = .ok (.iconst 1, 1) := by decide +kernel
theorem dX7_would_24 : decode cX7_would 24 = .ok (.if_icmp .gt 16, 3) := by decide +kernel
theorem dX7_would_27 : decode cX7_would 27 = .ok (.iload_n 2, 1) := by decide +kernel
theorem dX7_would_28 : decode cX7_would 28 = .ok (.ifCond .lt 12, 3) := by decide +kernel
theorem dX7_would_31 : decode cX7_would 31 = .ok (.iload_n 2, 1) := by decide +kernel
theorem dX7_would_32 : decode cX7_would 32 = .ok (.iconst 4, 1) := by decide +kernel
theorem dX7_would_33 : decode cX7_would 33 = .ok (.if_icmp .le 10, 3) := by decide +kernel
theorem dX7_would_36 : decode cX7_would 36 = .ok (.iload_n 3, 1) := by decide +kernel
theorem dX7_would_37 : decode cX7_would 37 = .ok (.ifCond .ne 6, 3) := by decide +kernel
theorem dX7_would_40 : decode cX7_would 40 = .ok (.ldc 84, 2) := by decide +kernel
theorem dX7_would_42 : decode cX7_would 42 = .ok (.ireturn, 1) := by decide +kernel
theorem dX7_would_43 : decode cX7_would 43 = .ok (.aload_n 0, 1) := by decide +kernel
theorem dX7_would_44 : decode cX7_would 44 = .ok (.getfield 10, 3) := by decide +kernel
theorem dX7_would_47 : decode cX7_would 47 = .ok (.getfield 115, 3) := by decide +kernel
theorem dX7_would_50 : decode cX7_would 50 = .ok (.ifCond .eq 6, 3) := by decide +kernel
theorem dX7_would_53 : decode cX7_would 53 = .ok (.ldc 119, 2) := by decide +kernel
theorem dX7_would_55 : decode cX7_would 55 = .ok (.ireturn, 1) := by decide +kernel
theorem dX7_would_56 : decode cX7_would 56 = .ok (.aload_n 0, 1) := by decide +kernel
theorem dX7_would_57 : decode cX7_would 57 = .ok (.getfield 16, 3) := by decide +kernel
theorem dX7_would_60 : decode cX7_would 60 = .ok (.aload_n 0, 1) := by decide +kernel
theorem dX7_would_61 : decode cX7_would 61 = .ok (.getfield 10, 3) := by decide +kernel
theorem dX7_would_64 : decode cX7_would 64 = .ok (.invokevirtual 120, 3) := by decide +kernel
theorem dX7_would_67 : decode cX7_would 67 = .ok (.aload_n 0, 1) := by decide +kernel
theorem dX7_would_68 : decode cX7_would 68 = .ok (.getfield 16, 3) := by decide +kernel
theorem dX7_would_71 : decode cX7_would 71 = .ok (.iload_n 1, 1) := by decide +kernel
theorem dX7_would_72 : decode cX7_would 72 = .ok (.invokevirtual 77, 3) := by decide +kernel
theorem dX7_would_75 : decode cX7_would 75 = .ok (.istore 4, 2) := by decide +kernel
theorem dX7_would_77 : decode cX7_would 77 = .ok (.aload_n 0, 1) := by decide +kernel
theorem dX7_would_78 : decode cX7_would 78 = .ok (.getfield 22, 3) := by decide +kernel
theorem dX7_would_81 : decode cX7_would 81 = .ok (.aload_n 0, 1) := by decide +kernel
theorem dX7_would_82 : decode cX7_would 82 = .ok (.getfield 16, 3) := by decide +kernel
theorem dX7_would_85 : decode cX7_would 85 = .ok (.invokevirtual 80, 3) := by decide +kernel
theorem dX7_would_88 : decode cX7_would 88 = .ok (.pop, 1) := by decide +kernel
theorem dX7_would_89 : decode cX7_would 89 = .ok (.iload_n 3, 1) := by decide +kernel
theorem dX7_would_90 : decode cX7_would 90 = .ok (.ifCond .eq 18, 3) := by decide +kernel
theorem dX7_would_93 : decode cX7_would 93 = .ok (.aload_n 0, 1) := by decide +kernel
theorem dX7_would_94 : decode cX7_would 94 = .ok (.getfield 16, 3) := by decide +kernel
theorem dX7_would_97 : decode cX7_would 97 = .ok (.getfield 103, 3) := by decide +kernel
theorem dX7_would_100 : decode cX7_would 100 = .ok (.iload_n 2, 1) := by decide +kernel
theorem dX7_would_101 : decode cX7_would 101 = .ok (.bipush 10, 2) := by decide +kernel
theorem dX7_would_103 : decode cX7_would 103 = .ok (.isub, 1) := by decide +kernel
theorem dX7_would_104 : decode cX7_would 104 = .ok (.invokevirtual 123, 3) := by decide +kernel
theorem dX7_would_107 : decode cX7_would 107 = .ok (.ireturn, 1) := by decide +kernel
theorem dX7_would_108 : decode cX7_would 108 = .ok (.iload_n 2, 1) := by decide +kernel
theorem dX7_would_109 : decode cX7_would 109 = .ok (.ifCond .ne 8, 3) := by decide +kernel
theorem dX7_would_112 : decode cX7_would 112 = .ok (.iload 4, 2) := by decide +kernel
theorem dX7_would_114 : decode cX7_would 114 = .ok (.goto 11, 3) := by decide +kernel
theorem dX7_would_117 : decode cX7_would 117 = .ok (.aload_n 0, 1) := by decide +kernel
theorem dX7_would_118 : decode cX7_would 118 = .ok (.getfield 22, 3) := by decide +kernel
theorem dX7_would_121 : decode cX7_would 121 = .ok (.iload_n 2, 1) := by decide +kernel
theorem dX7_would_122 : decode cX7_would 122 = .ok (.invokevirtual 126, 3) := by decide +kernel
theorem dX7_would_125 : decode cX7_would 125 = .ok (.ireturn, 1) := by decide +kernel
theorem dX7_count_0 : decode cX7_count 0 = .ok (.iload_n 1, 1) := by decide +kernel
theorem dX7_count_1 : decode cX7_count 1 = .ok (.tableswitch 124 4 12 #[51, 62, 73, 84, 124, 124, 100, 108, 116], 51) := by decide +kernel
theorem dX7_count_52 : decode cX7_count 52 = .ok (.aload_n 0, 1) := by decide +kernel
theorem dX7_count_53 : decode cX7_count 53 = .ok (.getfield 10, 3) := by decide +kernel
theorem dX7_count_56 : decode cX7_count 56 = .ok (.getfield 85, 3) := by decide +kernel
theorem dX7_count_59 : decode cX7_count 59 = .ok (.getfield 128, 3) := by decide +kernel
theorem dX7_count_62 : decode cX7_count 62 = .ok (.ireturn, 1) := by decide +kernel
theorem dX7_count_63 : decode cX7_count 63 = .ok (.aload_n 0, 1) := by decide +kernel
theorem dX7_count_64 : decode cX7_count 64 = .ok (.getfield 10, 3) := by decide +kernel
theorem dX7_count_67 : decode cX7_count 67 = .ok (.getfield 103, 3) := by decide +kernel
theorem dX7_count_70 : decode cX7_count 70 = .ok (.getfield 132, 3) := by decide +kernel
theorem dX7_count_73 : decode cX7_count 73 = .ok (.ireturn, 1) := by decide +kernel
theorem dX7_count_74 : decode cX7_count 74 = .ok (.aload_n 0, 1) := by decide +kernel
theorem dX7_count_75 : decode cX7_count 75 = .ok (.getfield 10, 3) := by decide +kernel
theorem dX7_count_78 : decode cX7_count 78 = .ok (.getfield 103, 3) := by decide +kernel
theorem dX7_count_81 : decode cX7_count 81 = .ok (.getfield 135, 3) := by decide +kernel
theorem dX7_count_84 : decode cX7_count 84 = .ok (.ireturn, 1) := by decide +kernel
theorem dX7_count_85 : decode cX7_count 85 = .ok (.aload_n 0, 1) := by decide +kernel
theorem dX7_count_86 : decode cX7_count 86 = .ok (.getfield 10, 3) := by decide +kernel
theorem dX7_count_89 : decode cX7_count 89 = .ok (.getfield 115, 3) := by decide +kernel
theorem dX7_count_92 : decode cX7_count 92 = .ok (.ifCond .eq 7, 3) := by decide +kernel
theorem dX7_count_95 : decode cX7_count 95 = .ok (.iconst 1, 1) := by decide +kernel
theorem dX7_count_96 : decode cX7_count 96 = .ok (.goto 4, 3) := by decide +kernel
theorem dX7_count_99 : decode cX7_count 99 = .ok (.iconst 0, 1) := by decide +kernel
theorem dX7_count_100 : decode cX7_count 100 = .ok (.ireturn, 1) := by decide +kernel
theorem dX7_count_101 : decode cX7_count 101 = .ok (.aload_n 0, 1) := by decide +kernel
theorem dX7_count_102 : decode cX7_count 102 = .ok (.getfield 10, 3) := by decide +kernel
theorem dX7_count_105 : decode cX7_count 105 = .ok (.getfield 138, 3) := by decide +kernel
theorem dX7_count_108 : decode cX7_count 108 = .ok (.ireturn, 1) := by decide +kernel
theorem dX7_count_109 : decode cX7_count 109 = .ok (.aload_n 0, 1) := by decide +kernel
theorem dX7_count_110 : decode cX7_count 110 = .ok (.getfield 29, 3) := by decide +kernel
theorem dX7_count_113 : decode cX7_count 113 = .ok (.getfield 141, 3) := by decide +kernel
theorem dX7_count_116 : decode cX7_count 116 = .ok (.ireturn, 1) := by decide +kernel
theorem dX7_count_117 : decode cX7_count 117 = .ok (.aload_n 0, 1) := by decide +kernel
theorem dX7_count_118 : decode cX7_count 118 = .ok (.getfield 36, 3) := by decide +kernel
theorem dX7_count_121 : decode cX7_count 121 = .ok (.getfield 144, 3) := by decide +kernel
theorem dX7_count_124 : decode cX7_count 124 = .ok (.ireturn, 1) := by decide +kernel
theorem dX7_count_125 : decode cX7_count 125 = .ok (.aload_n 0, 1) := by decide +kernel
theorem dX7_count_126 : decode cX7_count 126 = .ok (.getfield 10, 3) := by decide +kernel
theorem dX7_count_129 : decode cX7_count 129 = .ok (.getfield 94, 3) := by decide +kernel
theorem dX7_count_132 : decode cX7_count 132 = .ok (.iload_n 1, 1) := by decide +kernel
theorem dX7_count_133 : decode cX7_count 133 = .ok (.invokevirtual 147, 3) := by decide +kernel
theorem dX7_count_136 : decode cX7_count 136 = .ok (.ireturn, 1) := by decide +kernel
theorem dX7_undo_0 : decode cX7_undo 0 = .ok (.aload_n 0, 1) := by decide +kernel
theorem dX7_undo_1 : decode cX7_undo 1 = .ok (.getfield 29, 3) := by decide +kernel
theorem dX7_undo_4 : decode cX7_undo 4 = .ok (.aload_n 0, 1) := by decide +kernel
theorem dX7_undo_5 : decode cX7_undo 5 = .ok (.getfield 10, 3) := by decide +kernel
theorem dX7_undo_8 : decode cX7_undo 8 = .ok (.invokevirtual 150, 3) := by decide +kernel
theorem dX7_undo_11 : decode cX7_undo 11 = .ok (.ireturn, 1) := by decide +kernel
theorem dX7_type_0 : decode cX7_type 0 = .ok (.iload_n 1, 1) := by decide +kernel
theorem dX7_type_1 : decode cX7_type 1 = .ok (.bipush 32, 2) := by decide +kernel
theorem dX7_type_3 : decode cX7_type 3 = .ok (.if_icmp .lt 9, 3) := by decide +kernel
theorem dX7_type_6 : decode cX7_type 6 = .ok (.iload_n 1, 1) := by decide +kernel
theorem dX7_type_7 : decode cX7_type 7 = .ok (.bipush 126, 2) := by decide +kernel
theorem dX7_type_9 : decode cX7_type 9 = .ok (.if_icmp .le 6, 3) := by decide +kernel
theorem dX7_type_12 : decode cX7_type 12 = .ok (.ldc 84, 2) := by decide +kernel
theorem dX7_type_14 : decode cX7_type 14 = .ok (.ireturn, 1) := by decide +kernel
theorem dX7_type_15 : decode cX7_type 15 = .ok (.aload_n 0, 1) := by decide +kernel
theorem dX7_type_16 : decode cX7_type 16 = .ok (.getfield 36, 3) := by decide +kernel
theorem dX7_type_19 : decode cX7_type 19 = .ok (.iload_n 1, 1) := by decide +kernel
theorem dX7_type_20 : decode cX7_type 20 = .ok (.i2c, 1) := by decide +kernel
theorem dX7_type_21 : decode cX7_type 21 = .ok (.invokevirtual 153, 3) := by decide +kernel
theorem dX7_type_24 : decode cX7_type 24 = .ok (.ireturn, 1) := by decide +kernel
theorem dX7_clearText_0 : decode cX7_clearText 0 = .ok (.aload_n 0, 1) := by decide +kernel
theorem dX7_clearText_1 : decode cX7_clearText 1 = .ok (.getfield 36, 3) := by decide +kernel
theorem dX7_clearText_4 : decode cX7_clearText 4 = .ok (.invokevirtual 157, 3) := by decide +kernel
theorem dX7_clearText_7 : decode cX7_clearText 7 = .ok (.ireturn, 1) := by decide +kernel
theorem dX7_fault_0 : decode cX7_fault 0 = .ok (.iload_n 1, 1) := by decide +kernel
theorem dX7_fault_1 : decode cX7_fault 1 = .ok (.ifCond .lt 8, 3) := by decide +kernel
theorem dX7_fault_4 : decode cX7_fault 4 = .ok (.iload_n 1, 1) := by decide +kernel
theorem dX7_fault_5 : decode cX7_fault 5 = .ok (.iconst 2, 1) := by decide +kernel
theorem dX7_fault_6 : decode cX7_fault 6 = .ok (.if_icmp .le 6, 3) := by decide +kernel
theorem dX7_fault_9 : decode cX7_fault 9 = .ok (.ldc 84, 2) := by decide +kernel
theorem dX7_fault_11 : decode cX7_fault 11 = .ok (.ireturn, 1) := by decide +kernel
theorem dX7_fault_12 : decode cX7_fault 12 = .ok (.aload_n 0, 1) := by decide +kernel
theorem dX7_fault_13 : decode cX7_fault 13 = .ok (.invokevirtual 160, 3) := by decide +kernel
theorem dX7_fault_16 : decode cX7_fault 16 = .ok (.aload_n 0, 1) := by decide +kernel
theorem dX7_fault_17 : decode cX7_fault 17 = .ok (.getfield 163, 3) := by decide +kernel
theorem dX7_fault_20 : decode cX7_fault 20 = .ok (.ifCond .eq 16, 3) := by decide +kernel
theorem dX7_fault_23 : decode cX7_fault 23 = .ok (.iload_n 1, 1) := by decide +kernel
theorem dX7_fault_24 : decode cX7_fault 24 = .ok (.iconst 2, 1) := by decide +kernel
theorem dX7_fault_25 : decode cX7_fault 25 = .ok (.if_icmp .ne 14, 3) := by decide +kernel
theorem dX7_fault_28 : decode cX7_fault 28 = .ok (.aload_n 0, 1) := by decide +kernel
theorem dX7_fault_29 : decode cX7_fault 29 = .ok (.getfield 163, 3) := by decide +kernel
theorem dX7_fault_32 : decode cX7_fault 32 = .ok (.iconst 1, 1) := by decide +kernel
theorem dX7_fault_33 : decode cX7_fault 33 = .ok (.if_icmp .eq 6, 3) := by decide +kernel
theorem dX7_fault_36 : decode cX7_fault 36 = .ok (.ldc 166, 2) := by decide +kernel
theorem dX7_fault_38 : decode cX7_fault 38 = .ok (.ireturn, 1) := by decide +kernel
theorem dX7_fault_39 : decode cX7_fault 39 = .ok (.iload_n 1, 1) := by decide +kernel
theorem dX7_fault_40 : decode cX7_fault 40 = .ok (.lookupswitch 38 #[(0, 28), (1, 33)], 28) := by decide +kernel
theorem dX7_fault_68 : decode cX7_fault 68 = .ok (.aload_n 0, 1) := by decide +kernel
theorem dX7_fault_69 : decode cX7_fault 69 = .ok (.getfield 167, 3) := by decide +kernel
theorem dX7_fault_72 : decode cX7_fault 72 = .ok (.ireturn, 1) := by decide +kernel
theorem dX7_fault_73 : decode cX7_fault 73 = .ok (.aload_n 0, 1) := by decide +kernel
theorem dX7_fault_74 : decode cX7_fault 74 = .ok (.getfield 163, 3) := by decide +kernel
theorem dX7_fault_77 : decode cX7_fault 77 = .ok (.ireturn, 1) := by decide +kernel
theorem dX7_fault_78 : decode cX7_fault 78 = .ok (.aload_n 0, 1) := by decide +kernel
theorem dX7_fault_79 : decode cX7_fault 79 = .ok (.getfield 36, 3) := by decide +kernel
theorem dX7_fault_82 : decode cX7_fault 82 = .ok (.getfield 170, 3) := by decide +kernel
theorem dX7_fault_85 : decode cX7_fault 85 = .ok (.ireturn, 1) := by decide +kernel
theorem dX7_play_0 : decode cX7_play 0 = .ok (.aload_n 0, 1) := by decide +kernel
theorem dX7_play_1 : decode cX7_play 1 = .ok (.invokevirtual 160, 3) := by decide +kernel
theorem dX7_play_4 : decode cX7_play 4 = .ok (.aload_n 0, 1) := by decide +kernel
theorem dX7_play_5 : decode cX7_play 5 = .ok (.getfield 163, 3) := by decide +kernel
theorem dX7_play_8 : decode cX7_play 8 = .ok (.ifCond .eq 6, 3) := by decide +kernel
theorem dX7_play_11 : decode cX7_play 11 = .ok (.ldc 119, 2) := by decide +kernel
theorem dX7_play_13 : decode cX7_play 13 = .ok (.ireturn, 1) := by decide +kernel
theorem dX7_play_14 : decode cX7_play 14 = .ok (.aload_n 0, 1) := by decide +kernel
theorem dX7_play_15 : decode cX7_play 15 = .ok (.getfield 29, 3) := by decide +kernel
theorem dX7_play_18 : decode cX7_play 18 = .ok (.aload_n 0, 1) := by decide +kernel
theorem dX7_play_19 : decode cX7_play 19 = .ok (.getfield 10, 3) := by decide +kernel
theorem dX7_play_22 : decode cX7_play 22 = .ok (.invokevirtual 40, 3) := by decide +kernel
theorem dX7_play_25 : decode cX7_play 25 = .ok (.aload_n 0, 1) := by decide +kernel
theorem dX7_play_26 : decode cX7_play 26 = .ok (.getfield 10, 3) := by decide +kernel
theorem dX7_play_29 : decode cX7_play 29 = .ok (.aload_n 0, 1) := by decide +kernel
theorem dX7_play_30 : decode cX7_play 30 = .ok (.getfield 16, 3) := by decide +kernel
theorem dX7_play_33 : decode cX7_play 33 = .ok (.invokevirtual 120, 3) := by decide +kernel
theorem dX7_play_36 : decode cX7_play 36 = .ok (.aload_n 0, 1) := by decide +kernel
theorem dX7_play_37 : decode cX7_play 37 = .ok (.getfield 29, 3) := by decide +kernel
theorem dX7_play_40 : decode cX7_play 40 = .ok (.aload_n 0, 1) := by decide +kernel
theorem dX7_play_41 : decode cX7_play 41 = .ok (.getfield 173, 3) := by decide +kernel
theorem dX7_play_44 : decode cX7_play 44 = .ok (.invokevirtual 48, 3) := by decide +kernel
theorem dX7_play_47 : decode cX7_play 47 = .ok (.ireturn, 1) := by decide +kernel
theorem dX7_tryText_0 : decode cX7_tryText 0 = .ok (.aload_n 0, 1) := by decide +kernel
theorem dX7_tryText_1 : decode cX7_tryText 1 = .ok (.getfield 16, 3) := by decide +kernel
theorem dX7_tryText_4 : decode cX7_tryText 4 = .ok (.aload_n 0, 1) := by decide +kernel
theorem dX7_tryText_5 : decode cX7_tryText 5 = .ok (.getfield 10, 3) := by decide +kernel
theorem dX7_tryText_8 : decode cX7_tryText 8 = .ok (.invokevirtual 120, 3) := by decide +kernel
theorem dX7_tryText_11 : decode cX7_tryText 11 = .ok (.aload_n 0, 1) := by decide +kernel
theorem dX7_tryText_12 : decode cX7_tryText 12 = .ok (.iconst 0, 1) := by decide +kernel
theorem dX7_tryText_13 : decode cX7_tryText 13 = .ok (.putfield 163, 3) := by decide +kernel
theorem dX7_tryText_16 : decode cX7_tryText 16 = .ok (.aload_n 0, 1) := by decide +kernel
theorem dX7_tryText_17 : decode cX7_tryText 17 = .ok (.iconst 0, 1) := by decide +kernel
theorem dX7_tryText_18 : decode cX7_tryText 18 = .ok (.putfield 173, 3) := by decide +kernel
theorem dX7_tryText_21 : decode cX7_tryText 21 = .ok (.aload_n 0, 1) := by decide +kernel
theorem dX7_tryText_22 : decode cX7_tryText 22 = .ok (.getfield 36, 3) := by decide +kernel
theorem dX7_tryText_25 : decode cX7_tryText 25 = .ok (.iconst 0, 1) := by decide +kernel
theorem dX7_tryText_26 : decode cX7_tryText 26 = .ok (.putfield 176, 3) := by decide +kernel
theorem dX7_tryText_29 : decode cX7_tryText 29 = .ok (.iconst 0, 1) := by decide +kernel
theorem dX7_tryText_30 : decode cX7_tryText 30 = .ok (.istore_n 1, 1) := by decide +kernel
theorem dX7_tryText_31 : decode cX7_tryText 31 = .ok (.iload_n 1, 1) := by decide +kernel
theorem dX7_tryText_32 : decode cX7_tryText 32 = .ok (.bipush 80, 2) := by decide +kernel
theorem dX7_tryText_34 : decode cX7_tryText 34 = .ok (.if_icmp .ge 80, 3) := by decide +kernel
theorem dX7_tryText_37 : decode cX7_tryText 37 = .ok (.aload_n 0, 1) := by decide +kernel
theorem dX7_tryText_38 : decode cX7_tryText 38 = .ok (.getfield 36, 3) := by decide +kernel
theorem dX7_tryText_41 : decode cX7_tryText 41 = .ok (.getfield 176, 3) := by decide +kernel
theorem dX7_tryText_44 : decode cX7_tryText 44 = .ok (.aload_n 0, 1) := by decide +kernel
theorem dX7_tryText_45 : decode cX7_tryText 45 = .ok (.getfield 36, 3) := by decide +kernel
theorem dX7_tryText_48 : decode cX7_tryText 48 = .ok (.getfield 144, 3) := by decide +kernel
theorem dX7_tryText_51 : decode cX7_tryText 51 = .ok (.if_icmp .ge 63, 3) := by decide +kernel
theorem dX7_tryText_54 : decode cX7_tryText 54 = .ok (.aload_n 0, 1) := by decide +kernel
theorem dX7_tryText_55 : decode cX7_tryText 55 = .ok (.aload_n 0, 1) := by decide +kernel
theorem dX7_tryText_56 : decode cX7_tryText 56 = .ok (.getfield 36, 3) := by decide +kernel
theorem dX7_tryText_59 : decode cX7_tryText 59 = .ok (.getfield 176, 3) := by decide +kernel
theorem dX7_tryText_62 : decode cX7_tryText 62 = .ok (.putfield 167, 3) := by decide +kernel
theorem dX7_tryText_65 : decode cX7_tryText 65 = .ok (.aload_n 0, 1) := by decide +kernel
theorem dX7_tryText_66 : decode cX7_tryText 66 = .ok (.aload_n 0, 1) := by decide +kernel
theorem dX7_tryText_67 : decode cX7_tryText 67 = .ok (.getfield 36, 3) := by decide +kernel
theorem dX7_tryText_70 : decode cX7_tryText 70 = .ok (.invokevirtual 179, 3) := by decide +kernel
theorem dX7_tryText_73 : decode cX7_tryText 73 = .ok (.ifCond .eq 13, 3) := by decide +kernel
theorem dX7_tryText_76 : decode cX7_tryText 76 = .ok (.aload_n 0, 1) := by decide +kernel
theorem dX7_tryText_77 : decode cX7_tryText 77 = .ok (.invokevirtual 183, 3) := by decide +kernel
theorem dX7_tryText_80 : decode cX7_tryText 80 = .ok (.invokestatic 186, 3) := by decide +kernel
theorem dX7_tryText_83 : decode cX7_tryText 83 = .ok (.goto 4, 3) := by decide +kernel
theorem dX7_tryText_86 : decode cX7_tryText 86 = .ok (.iconst 1, 1) := by decide +kernel
theorem dX7_tryText_87 : decode cX7_tryText 87 = .ok (.putfield 163, 3) := by decide +kernel
theorem dX7_tryText_90 : decode cX7_tryText 90 = .ok (.aload_n 0, 1) := by decide +kernel
theorem dX7_tryText_91 : decode cX7_tryText 91 = .ok (.getfield 163, 3) := by decide +kernel
theorem dX7_tryText_94 : decode cX7_tryText 94 = .ok (.ifCond .eq 4, 3) := by decide +kernel
theorem dX7_tryText_97 : decode cX7_tryText 97 = .ok (.return_, 1) := by decide +kernel
theorem dX7_tryText_98 : decode cX7_tryText 98 = .ok (.aload_n 0, 1) := by decide +kernel
theorem dX7_tryText_99 : decode cX7_tryText 99 = .ok (.dup, 1) := by decide +kernel
theorem dX7_tryText_100 : decode cX7_tryText 100 = .ok (.getfield 173, 3) := by decide +kernel
theorem dX7_tryText_103 : decode cX7_tryText 103 = .ok (.iconst 1, 1) := by decide +kernel
theorem dX7_tryText_104 : decode cX7_tryText 104 = .ok (.iadd, 1) := by decide +kernel
theorem dX7_tryText_105 : decode cX7_tryText 105 = .ok (.putfield 173, 3) := by decide +kernel
theorem dX7_tryText_108 : decode cX7_tryText 108 = .ok (.iinc 1 1, 3) := by decide +kernel
theorem dX7_tryText_111 : decode cX7_tryText 111 = .ok (.goto (-80), 3) := by decide +kernel
theorem dX7_tryText_114 : decode cX7_tryText 114 = .ok (.return_, 1) := by decide +kernel
theorem dX7_reasonOf_0 : decode cX7_reasonOf 0 = .ok (.iload_n 0, 1) := by decide +kernel
theorem dX7_reasonOf_1 : decode cX7_reasonOf 1 = .ok (.ldc 84, 2) := by decide +kernel
theorem dX7_reasonOf_3 : decode cX7_reasonOf 3 = .ok (.if_icmp .ne 5, 3) := by decide +kernel
theorem dX7_reasonOf_6 : decode cX7_reasonOf 6 = .ok (.iconst 2, 1) := by decide +kernel
theorem dX7_reasonOf_7 : decode cX7_reasonOf 7 = .ok (.ireturn, 1) := by decide +kernel
theorem dX7_reasonOf_8 : decode cX7_reasonOf 8 = .ok (.iload_n 0, 1) := by decide +kernel
theorem dX7_reasonOf_9 : decode cX7_reasonOf 9 = .ok (.ifCond .ge 7, 3) := by decide +kernel
theorem dX7_reasonOf_12 : decode cX7_reasonOf 12 = .ok (.iconst 3, 1) := by decide +kernel
theorem dX7_reasonOf_13 : decode cX7_reasonOf 13 = .ok (.goto 4, 3) := by decide +kernel
theorem dX7_reasonOf_16 : decode cX7_reasonOf 16 = .ok (.iconst 0, 1) := by decide +kernel
theorem dX7_reasonOf_17 : decode cX7_reasonOf 17 = .ok (.ireturn, 1) := by decide +kernel
theorem dX7_doOrder_0 : decode cX7_doOrder 0 = .ok (.aload_n 0, 1) := by decide +kernel
theorem dX7_doOrder_1 : decode cX7_doOrder 1 = .ok (.getfield 36, 3) := by decide +kernel
theorem dX7_doOrder_4 : decode cX7_doOrder 4 = .ok (.getfield 189, 3) := by decide +kernel
theorem dX7_doOrder_7 : decode cX7_doOrder 7 = .ok (.tableswitch 211 98 120 #[105, 194, 211, 211, 211, 211, 211, 211, 211, 211, 211, 211, 211, 179, 211, 211, 211, 149, 164, 211, 211, 120, 202], 105) := by decide +kernel
theorem dX7_doOrder_112 : decode cX7_doOrder 112 = .ok (.aload_n 0, 1) := by decide +kernel
theorem dX7_doOrder_113 : decode cX7_doOrder 113 = .ok (.getfield 16, 3) := by decide +kernel
theorem dX7_doOrder_116 : decode cX7_doOrder 116 = .ok (.aload_n 0, 1) := by decide +kernel
theorem dX7_doOrder_117 : decode cX7_doOrder 117 = .ok (.getfield 36, 3) := by decide +kernel
theorem dX7_doOrder_120 : decode cX7_doOrder 120 = .ok (.getfield 192, 3) := by decide +kernel
theorem dX7_doOrder_123 : decode cX7_doOrder 123 = .ok (.invokevirtual 44, 3) := by decide +kernel
theorem dX7_doOrder_126 : decode cX7_doOrder 126 = .ok (.ireturn, 1) := by decide +kernel
theorem dX7_doOrder_127 : decode cX7_doOrder 127 = .ok (.aload_n 0, 1) := by decide +kernel
theorem dX7_doOrder_128 : decode cX7_doOrder 128 = .ok (.getfield 16, 3) := by decide +kernel
theorem dX7_doOrder_131 : decode cX7_doOrder 131 = .ok (.aload_n 0, 1) := by decide +kernel
theorem dX7_doOrder_132 : decode cX7_doOrder 132 = .ok (.getfield 36, 3) := by decide +kernel
theorem dX7_doOrder_135 : decode cX7_doOrder 135 = .ok (.getfield 192, 3) := by decide +kernel
theorem dX7_doOrder_138 : decode cX7_doOrder 138 = .ok (.aload_n 0, 1) := by decide +kernel
theorem dX7_doOrder_139 : decode cX7_doOrder 139 = .ok (.getfield 36, 3) := by decide +kernel
theorem dX7_doOrder_142 : decode cX7_doOrder 142 = .ok (.getfield 195, 3) := by decide +kernel
theorem dX7_doOrder_145 : decode cX7_doOrder 145 = .ok (.aload_n 0, 1) := by decide +kernel
theorem dX7_doOrder_146 : decode cX7_doOrder 146 = .ok (.getfield 36, 3) := by decide +kernel
theorem dX7_doOrder_149 : decode cX7_doOrder 149 = .ok (.getfield 198, 3) := by decide +kernel
theorem dX7_doOrder_152 : decode cX7_doOrder 152 = .ok (.invokevirtual 51, 3) := by decide +kernel
theorem dX7_doOrder_155 : decode cX7_doOrder 155 = .ok (.ireturn, 1) := by decide +kernel
theorem dX7_doOrder_156 : decode cX7_doOrder 156 = .ok (.aload_n 0, 1) := by decide +kernel
theorem dX7_doOrder_157 : decode cX7_doOrder 157 = .ok (.getfield 16, 3) := by decide +kernel
theorem dX7_doOrder_160 : decode cX7_doOrder 160 = .ok (.aload_n 0, 1) := by decide +kernel
theorem dX7_doOrder_161 : decode cX7_doOrder 161 = .ok (.getfield 36, 3) := by decide +kernel
theorem dX7_doOrder_164 : decode cX7_doOrder 164 = .ok (.getfield 192, 3) := by decide +kernel
theorem dX7_doOrder_167 : decode cX7_doOrder 167 = .ok (.invokevirtual 55, 3) := by decide +kernel
theorem dX7_doOrder_170 : decode cX7_doOrder 170 = .ok (.ireturn, 1) := by decide +kernel
theorem dX7_doOrder_171 : decode cX7_doOrder 171 = .ok (.aload_n 0, 1) := by decide +kernel
theorem dX7_doOrder_172 : decode cX7_doOrder 172 = .ok (.getfield 16, 3) := by decide +kernel
theorem dX7_doOrder_175 : decode cX7_doOrder 175 = .ok (.aload_n 0, 1) := by decide +kernel
theorem dX7_doOrder_176 : decode cX7_doOrder 176 = .ok (.getfield 36, 3) := by decide +kernel
theorem dX7_doOrder_179 : decode cX7_doOrder 179 = .ok (.getfield 192, 3) := by decide +kernel
theorem dX7_doOrder_182 : decode cX7_doOrder 182 = .ok (.invokevirtual 58, 3) := by decide +kernel
theorem dX7_doOrder_185 : decode cX7_doOrder 185 = .ok (.ireturn, 1) := by decide +kernel
theorem dX7_doOrder_186 : decode cX7_doOrder 186 = .ok (.aload_n 0, 1) := by decide +kernel
theorem dX7_doOrder_187 : decode cX7_doOrder 187 = .ok (.getfield 16, 3) := by decide +kernel
theorem dX7_doOrder_190 : decode cX7_doOrder 190 = .ok (.aload_n 0, 1) := by decide +kernel
theorem dX7_doOrder_191 : decode cX7_doOrder 191 = .ok (.getfield 36, 3) := by decide +kernel
theorem dX7_doOrder_194 : decode cX7_doOrder 194 = .ok (.getfield 192, 3) := by decide +kernel
theorem dX7_doOrder_197 : decode cX7_doOrder 197 = .ok (.invokevirtual 61, 3) := by decide +kernel
theorem dX7_doOrder_200 : decode cX7_doOrder 200 = .ok (.ireturn, 1) := by decide +kernel
theorem dX7_doOrder_201 : decode cX7_doOrder 201 = .ok (.aload_n 0, 1) := by decide +kernel
theorem dX7_doOrder_202 : decode cX7_doOrder 202 = .ok (.getfield 16, 3) := by decide +kernel
end
section
theorem dX7_doOrder_205 : decode cX7_doOrder 205 = .ok (.invokevirtual 67, 3) := by decide +kernel
theorem dX7_doOrder_208 : decode cX7_doOrder 208 = .ok (.ireturn, 1) := by decide +kernel
theorem dX7_doOrder_209 : decode cX7_doOrder 209 = .ok (.aload_n 0, 1) := by decide +kernel
theorem dX7_doOrder_210 : decode cX7_doOrder 210 = .ok (.getfield 16, 3) := by decide +kernel
theorem dX7_doOrder_213 : decode cX7_doOrder 213 = .ok (.iconst 0, 1) := by decide +kernel
theorem dX7_doOrder_214 : decode cX7_doOrder 214 = .ok (.invokevirtual 77, 3) := by decide +kernel
theorem dX7_doOrder_217 : decode cX7_doOrder 217 = .ok (.ireturn, 1) := by decide +kernel
theorem dX7_doOrder_218 : decode cX7_doOrder 218 = .ok (.aload_n 0, 1) := by decide +kernel
theorem dX7_doOrder_219 : decode cX7_doOrder 219 = .ok (.getfield 22, 3) := by decide +kernel
theorem dX7_doOrder_222 : decode cX7_doOrder 222 = .ok (.aload_n 0, 1) := by decide +kernel
theorem dX7_doOrder_223 : decode cX7_doOrder 223 = .ok (.getfield 16, 3) := by decide +kernel
theorem dX7_doOrder_226 : decode cX7_doOrder 226 = .ok (.invokevirtual 80, 3) := by decide +kernel
theorem dX7_doOrder_229 : decode cX7_doOrder 229 = .ok (.ireturn, 1) := by decide +kernel
theorem dX8_init_0 : decode cX8_init 0 = .ok (.aload_n 0, 1) := by decide +kernel
theorem dX8_init_1 : decode cX8_init 1 = .ok (.invokespecial 1, 3) := by decide +kernel
theorem dX8_init_4 : decode cX8_init 4 = .ok (.aload_n 0, 1) := by decide +kernel
theorem dX8_init_5 : decode cX8_init 5 = .ok (.sipush 2117, 3) := by decide +kernel
theorem dX8_init_8 : decode cX8_init 8 = .ok (.newarray .int, 2) := by decide +kernel
theorem dX8_init_10 : decode cX8_init 10 = .ok (.putfield 7, 3) := by decide +kernel
theorem dX8_init_13 : decode cX8_init 13 = .ok (.aload_n 0, 1) := by decide +kernel
theorem dX8_init_14 : decode cX8_init 14 = .ok (.sipush 8468, 3) := by decide +kernel
theorem dX8_init_17 : decode cX8_init 17 = .ok (.newarray .int, 2) := by decide +kernel
theorem dX8_init_19 : decode cX8_init 19 = .ok (.putfield 13, 3) := by decide +kernel
theorem dX8_init_22 : decode cX8_init 22 = .ok (.aload_n 0, 1) := by decide +kernel
theorem dX8_init_23 : decode cX8_init 23 = .ok (.sipush 2117, 3) := by decide +kernel
theorem dX8_init_26 : decode cX8_init 26 = .ok (.newarray .int, 2) := by decide +kernel
theorem dX8_init_28 : decode cX8_init 28 = .ok (.putfield 16, 3) := by decide +kernel
theorem dX8_init_31 : decode cX8_init 31 = .ok (.aload_n 0, 1) := by decide +kernel
theorem dX8_init_32 : decode cX8_init 32 = .ok (.sipush 2117, 3) := by decide +kernel
theorem dX8_init_35 : decode cX8_init 35 = .ok (.newarray .int, 2) := by decide +kernel
theorem dX8_init_37 : decode cX8_init 37 = .ok (.putfield 19, 3) := by decide +kernel
theorem dX8_init_40 : decode cX8_init 40 = .ok (.aload_n 0, 1) := by decide +kernel
theorem dX8_init_41 : decode cX8_init 41 = .ok (.bipush 80, 2) := by decide +kernel
theorem dX8_init_43 : decode cX8_init 43 = .ok (.newarray .int, 2) := by decide +kernel
theorem dX8_init_45 : decode cX8_init 45 = .ok (.putfield 22, 3) := by decide +kernel
theorem dX8_init_48 : decode cX8_init 48 = .ok (.aload_n 0, 1) := by decide +kernel
theorem dX8_init_49 : decode cX8_init 49 = .ok (.bipush 8, 2) := by decide +kernel
theorem dX8_init_51 : decode cX8_init 51 = .ok (.newarray .int, 2) := by decide +kernel
theorem dX8_init_53 : decode cX8_init 53 = .ok (.putfield 25, 3) := by decide +kernel
theorem dX8_init_56 : decode cX8_init 56 = .ok (.aload_n 0, 1) := by decide +kernel
theorem dX8_init_57 : decode cX8_init 57 = .ok (.iconst 3, 1) := by decide +kernel
theorem dX8_init_58 : decode cX8_init 58 = .ok (.newarray .int, 2) := by decide +kernel
theorem dX8_init_60 : decode cX8_init 60 = .ok (.putfield 28, 3) := by decide +kernel
theorem dX8_init_63 : decode cX8_init 63 = .ok (.aload_n 0, 1) := by decide +kernel
theorem dX8_init_64 : decode cX8_init 64 = .ok (.getfield 7, 3) := by decide +kernel
theorem dX8_init_67 : decode cX8_init 67 = .ok (.iconst 0, 1) := by decide +kernel
theorem dX8_init_68 : decode cX8_init 68 = .ok (.iconst 1, 1) := by decide +kernel
theorem dX8_init_69 : decode cX8_init 69 = .ok (.iastore, 1) := by decide +kernel
theorem dX8_init_70 : decode cX8_init 70 = .ok (.return_, 1) := by decide +kernel
theorem dX8_in_0 : decode cX8_in 0 = .ok (.iload_n 0, 1) := by decide +kernel
theorem dX8_in_1 : decode cX8_in 1 = .ok (.iload_n 1, 1) := by decide +kernel
theorem dX8_in_2 : decode cX8_in 2 = .ok (.if_icmp .lt 12, 3) := by decide +kernel
theorem dX8_in_5 : decode cX8_in 5 = .ok (.iload_n 0, 1) := by decide +kernel
theorem dX8_in_6 : decode cX8_in 6 = .ok (.iload_n 2, 1) := by decide +kernel
theorem dX8_in_7 : decode cX8_in 7 = .ok (.if_icmp .gt 7, 3) := by decide +kernel
theorem dX8_in_10 : decode cX8_in 10 = .ok (.iconst 1, 1) := by decide +kernel
theorem dX8_in_11 : decode cX8_in 11 = .ok (.goto 4, 3) := by decide +kernel
theorem dX8_in_14 : decode cX8_in 14 = .ok (.iconst 0, 1) := by decide +kernel
theorem dX8_in_15 : decode cX8_in 15 = .ok (.ireturn, 1) := by decide +kernel
theorem dX8_copies_0 : decode cX8_copies 0 = .ok (.iconst 0, 1) := by decide +kernel
theorem dX8_copies_1 : decode cX8_copies 1 = .ok (.istore_n 2, 1) := by decide +kernel
theorem dX8_copies_2 : decode cX8_copies 2 = .ok (.iload_n 2, 1) := by decide +kernel
theorem dX8_copies_3 : decode cX8_copies 3 = .ok (.sipush 2117, 3) := by decide +kernel
theorem dX8_copies_6 : decode cX8_copies 6 = .ok (.if_icmp .ge 15, 3) := by decide +kernel
theorem dX8_copies_9 : decode cX8_copies 9 = .ok (.aload_n 1, 1) := by decide +kernel
theorem dX8_copies_10 : decode cX8_copies 10 = .ok (.iload_n 2, 1) := by decide +kernel
theorem dX8_copies_11 : decode cX8_copies 11 = .ok (.aload_n 0, 1) := by decide +kernel
theorem dX8_copies_12 : decode cX8_copies 12 = .ok (.iload_n 2, 1) := by decide +kernel
theorem dX8_copies_13 : decode cX8_copies 13 = .ok (.iaload, 1) := by decide +kernel
theorem dX8_copies_14 : decode cX8_copies 14 = .ok (.iastore, 1) := by decide +kernel
theorem dX8_copies_15 : decode cX8_copies 15 = .ok (.iinc 2 1, 3) := by decide +kernel
theorem dX8_copies_18 : decode cX8_copies 18 = .ok (.goto (-16), 3) := by decide +kernel
theorem dX8_copies_21 : decode cX8_copies 21 = .ok (.return_, 1) := by decide +kernel
theorem dX8_changes_0 : decode cX8_changes 0 = .ok (.aload_n 0, 1) := by decide +kernel
theorem dX8_changes_1 : decode cX8_changes 1 = .ok (.getfield 31, 3) := by decide +kernel
theorem dX8_changes_4 : decode cX8_changes 4 = .ok (.ifCond .eq 4, 3) := by decide +kernel
theorem dX8_changes_7 : decode cX8_changes 7 = .ok (.return_, 1) := by decide +kernel
theorem dX8_changes_8 : decode cX8_changes 8 = .ok (.aload_n 0, 1) := by decide +kernel
theorem dX8_changes_9 : decode cX8_changes 9 = .ok (.getfield 35, 3) := by decide +kernel
theorem dX8_changes_12 : decode cX8_changes 12 = .ok (.iconst 4, 1) := by decide +kernel
theorem dX8_changes_13 : decode cX8_changes 13 = .ok (.if_icmp .ne 44, 3) := by decide +kernel
theorem dX8_changes_16 : decode cX8_changes 16 = .ok (.iconst 0, 1) := by decide +kernel
theorem dX8_changes_17 : decode cX8_changes 17 = .ok (.istore_n 1, 1) := by decide +kernel
theorem dX8_changes_18 : decode cX8_changes 18 = .ok (.iload_n 1, 1) := by decide +kernel
theorem dX8_changes_19 : decode cX8_changes 19 = .ok (.sipush 6351, 3) := by decide +kernel
theorem dX8_changes_22 : decode cX8_changes 22 = .ok (.if_icmp .ge 25, 3) := by decide +kernel
theorem dX8_changes_25 : decode cX8_changes 25 = .ok (.aload_n 0, 1) := by decide +kernel
theorem dX8_changes_26 : decode cX8_changes 26 = .ok (.getfield 13, 3) := by decide +kernel
theorem dX8_changes_29 : decode cX8_changes 29 = .ok (.iload_n 1, 1) := by decide +kernel
theorem dX8_changes_30 : decode cX8_changes 30 = .ok (.aload_n 0, 1) := by decide +kernel
theorem dX8_changes_31 : decode cX8_changes 31 = .ok (.getfield 13, 3) := by decide +kernel
theorem dX8_changes_34 : decode cX8_changes 34 = .ok (.iload_n 1, 1) := by decide +kernel
theorem dX8_changes_35 : decode cX8_changes 35 = .ok (.sipush 2117, 3) := by decide +kernel
theorem dX8_changes_38 : decode cX8_changes 38 = .ok (.iadd, 1) := by decide +kernel
theorem dX8_changes_39 : decode cX8_changes 39 = .ok (.iaload, 1) := by decide +kernel
theorem dX8_changes_40 : decode cX8_changes 40 = .ok (.iastore, 1) := by decide +kernel
theorem dX8_changes_41 : decode cX8_changes 41 = .ok (.iinc 1 1, 3) := by decide +kernel
theorem dX8_changes_44 : decode cX8_changes 44 = .ok (.goto (-26), 3) := by decide +kernel
theorem dX8_changes_47 : decode cX8_changes 47 = .ok (.aload_n 0, 1) := by decide +kernel
theorem dX8_changes_48 : decode cX8_changes 48 = .ok (.dup, 1) := by decide +kernel
theorem dX8_changes_49 : decode cX8_changes 49 = .ok (.getfield 35, 3) := by decide +kernel
theorem dX8_changes_52 : decode cX8_changes 52 = .ok (.iconst 1, 1) := by decide +kernel
theorem dX8_changes_53 : decode cX8_changes 53 = .ok (.isub, 1) := by decide +kernel
theorem dX8_changes_54 : decode cX8_changes 54 = .ok (.putfield 35, 3) := by decide +kernel
theorem dX8_changes_57 : decode cX8_changes 57 = .ok (.iconst 0, 1) := by decide +kernel
theorem dX8_changes_58 : decode cX8_changes 58 = .ok (.istore_n 1, 1) := by decide +kernel
theorem dX8_changes_59 : decode cX8_changes 59 = .ok (.iload_n 1, 1) := by decide +kernel
theorem dX8_changes_60 : decode cX8_changes 60 = .ok (.sipush 2117, 3) := by decide +kernel
theorem dX8_changes_63 : decode cX8_changes 63 = .ok (.if_icmp .ge 30, 3) := by decide +kernel
theorem dX8_changes_66 : decode cX8_changes 66 = .ok (.aload_n 0, 1) := by decide +kernel
theorem dX8_changes_67 : decode cX8_changes 67 = .ok (.getfield 13, 3) := by decide +kernel
theorem dX8_changes_70 : decode cX8_changes 70 = .ok (.sipush 2117, 3) := by decide +kernel
theorem dX8_changes_73 : decode cX8_changes 73 = .ok (.aload_n 0, 1) := by decide +kernel
theorem dX8_changes_74 : decode cX8_changes 74 = .ok (.getfield 35, 3) := by decide +kernel
theorem dX8_changes_77 : decode cX8_changes 77 = .ok (.imul, 1) := by decide +kernel
theorem dX8_changes_78 : decode cX8_changes 78 = .ok (.iload_n 1, 1) := by decide +kernel
theorem dX8_changes_79 : decode cX8_changes 79 = .ok (.iadd, 1) := by decide +kernel
theorem dX8_changes_80 : decode cX8_changes 80 = .ok (.aload_n 0, 1) := by decide +kernel
theorem dX8_changes_81 : decode cX8_changes 81 = .ok (.getfield 7, 3) := by decide +kernel
theorem dX8_changes_84 : decode cX8_changes 84 = .ok (.iload_n 1, 1) := by decide +kernel
theorem dX8_changes_85 : decode cX8_changes 85 = .ok (.iaload, 1) := by decide +kernel
theorem dX8_changes_86 : decode cX8_changes 86 = .ok (.iastore, 1) := by decide +kernel
theorem dX8_changes_87 : decode cX8_changes 87 = .ok (.iinc 1 1, 3) := by decide +kernel
theorem dX8_changes_90 : decode cX8_changes 90 = .ok (.goto (-31), 3) := by decide +kernel
theorem dX8_changes_93 : decode cX8_changes 93 = .ok (.aload_n 0, 1) := by decide +kernel
theorem dX8_changes_94 : decode cX8_changes 94 = .ok (.dup, 1) := by decide +kernel
theorem dX8_changes_95 : decode cX8_changes 95 = .ok (.getfield 35, 3) := by decide +kernel
theorem dX8_changes_98 : decode cX8_changes 98 = .ok (.iconst 1, 1) := by decide +kernel
theorem dX8_changes_99 : decode cX8_changes 99 = .ok (.iadd, 1) := by decide +kernel
theorem dX8_changes_100 : decode cX8_changes 100 = .ok (.putfield 35, 3) := by decide +kernel
theorem dX8_changes_103 : decode cX8_changes 103 = .ok (.return_, 1) := by decide +kernel
theorem dX8_isStopped_0 : decode cX8_isStopped 0 = .ok (.aload_n 0, 1) := by decide +kernel
theorem dX8_isStopped_1 : decode cX8_isStopped 1 = .ok (.getfield 7, 3) := by decide +kernel
theorem dX8_isStopped_4 : decode cX8_isStopped 4 = .ok (.iconst 3, 1) := by decide +kernel
theorem dX8_isStopped_5 : decode cX8_isStopped 5 = .ok (.iaload, 1) := by decide +kernel
theorem dX8_isStopped_6 : decode cX8_isStopped 6 = .ok (.iconst 1, 1) := by decide +kernel
theorem dX8_isStopped_7 : decode cX8_isStopped 7 = .ok (.if_icmp .ne 7, 3) := by decide +kernel
theorem dX8_isStopped_10 : decode cX8_isStopped 10 = .ok (.iconst 1, 1) := by decide +kernel
theorem dX8_isStopped_11 : decode cX8_isStopped 11 = .ok (.goto 4, 3) := by decide +kernel
theorem dX8_isStopped_14 : decode cX8_isStopped 14 = .ok (.iconst 0, 1) := by decide +kernel
theorem dX8_isStopped_15 : decode cX8_isStopped 15 = .ok (.ireturn, 1) := by decide +kernel
theorem dX8_ofGroup_0 : decode cX8_ofGroup 0 = .ok (.aload_n 0, 1) := by decide +kernel
theorem dX8_ofGroup_1 : decode cX8_ofGroup 1 = .ok (.getfield 7, 3) := by decide +kernel
theorem dX8_ofGroup_4 : decode cX8_ofGroup 4 = .ok (.iconst 5, 1) := by decide +kernel
theorem dX8_ofGroup_5 : decode cX8_ofGroup 5 = .ok (.iconst 4, 1) := by decide +kernel
theorem dX8_ofGroup_6 : decode cX8_ofGroup 6 = .ok (.iload_n 1, 1) := by decide +kernel
theorem dX8_ofGroup_7 : decode cX8_ofGroup 7 = .ok (.imul, 1) := by decide +kernel
theorem dX8_ofGroup_8 : decode cX8_ofGroup 8 = .ok (.iadd, 1) := by decide +kernel
theorem dX8_ofGroup_9 : decode cX8_ofGroup 9 = .ok (.iload_n 2, 1) := by decide +kernel
theorem dX8_ofGroup_10 : decode cX8_ofGroup 10 = .ok (.iadd, 1) := by decide +kernel
theorem dX8_ofGroup_11 : decode cX8_ofGroup 11 = .ok (.iaload, 1) := by decide +kernel
theorem dX8_ofGroup_12 : decode cX8_ofGroup 12 = .ok (.ireturn, 1) := by decide +kernel
theorem dX8_putsGroup_0 : decode cX8_putsGroup 0 = .ok (.aload_n 0, 1) := by decide +kernel
theorem dX8_putsGroup_1 : decode cX8_putsGroup 1 = .ok (.getfield 7, 3) := by decide +kernel
theorem dX8_putsGroup_4 : decode cX8_putsGroup 4 = .ok (.iconst 5, 1) := by decide +kernel
theorem dX8_putsGroup_5 : decode cX8_putsGroup 5 = .ok (.iconst 4, 1) := by decide +kernel
theorem dX8_putsGroup_6 : decode cX8_putsGroup 6 = .ok (.iload_n 1, 1) := by decide +kernel
theorem dX8_putsGroup_7 : decode cX8_putsGroup 7 = .ok (.imul, 1) := by decide +kernel
theorem dX8_putsGroup_8 : decode cX8_putsGroup 8 = .ok (.iadd, 1) := by decide +kernel
theorem dX8_putsGroup_9 : decode cX8_putsGroup 9 = .ok (.iload_n 2, 1) := by decide +kernel
theorem dX8_putsGroup_10 : decode cX8_putsGroup 10 = .ok (.iadd, 1) := by decide +kernel
theorem dX8_putsGroup_11 : decode cX8_putsGroup 11 = .ok (.iload_n 3, 1) := by decide +kernel
theorem dX8_putsGroup_12 : decode cX8_putsGroup 12 = .ok (.iastore, 1) := by decide +kernel
theorem dX8_putsGroup_13 : decode cX8_putsGroup 13 = .ok (.return_, 1) := by decide +kernel
theorem dX8_isOpen_0 : decode cX8_isOpen 0 = .ok (.aload_n 0, 1) := by decide +kernel
theorem dX8_isOpen_1 : decode cX8_isOpen 1 = .ok (.iload_n 1, 1) := by decide +kernel
theorem dX8_isOpen_2 : decode cX8_isOpen 2 = .ok (.iconst 0, 1) := by decide +kernel
theorem dX8_isOpen_3 : decode cX8_isOpen 3 = .ok (.invokevirtual 39, 3) := by decide +kernel
theorem dX8_isOpen_6 : decode cX8_isOpen 6 = .ok (.iconst 1, 1) := by decide +kernel
theorem dX8_isOpen_7 : decode cX8_isOpen 7 = .ok (.if_icmp .ne 7, 3) := by decide +kernel
theorem dX8_isOpen_10 : decode cX8_isOpen 10 = .ok (.iconst 1, 1) := by decide +kernel
theorem dX8_isOpen_11 : decode cX8_isOpen 11 = .ok (.goto 4, 3) := by decide +kernel
theorem dX8_isOpen_14 : decode cX8_isOpen 14 = .ok (.iconst 0, 1) := by decide +kernel
theorem dX8_isOpen_15 : decode cX8_isOpen 15 = .ok (.ireturn, 1) := by decide +kernel
theorem dX8_ofPage_0 : decode cX8_ofPage 0 = .ok (.aload_n 0, 1) := by decide +kernel
theorem dX8_ofPage_1 : decode cX8_ofPage 1 = .ok (.getfield 7, 3) := by decide +kernel
theorem dX8_ofPage_4 : decode cX8_ofPage 4 = .ok (.bipush 21, 2) := by decide +kernel
theorem dX8_ofPage_6 : decode cX8_ofPage 6 = .ok (.bipush 6, 2) := by decide +kernel
theorem dX8_ofPage_8 : decode cX8_ofPage 8 = .ok (.iload_n 1, 1) := by decide +kernel
theorem dX8_ofPage_9 : decode cX8_ofPage 9 = .ok (.imul, 1) := by decide +kernel
theorem dX8_ofPage_10 : decode cX8_ofPage 10 = .ok (.iadd, 1) := by decide +kernel
theorem dX8_ofPage_11 : decode cX8_ofPage 11 = .ok (.iload_n 2, 1) := by decide +kernel
theorem dX8_ofPage_12 : decode cX8_ofPage 12 = .ok (.iadd, 1) := by decide +kernel
theorem dX8_ofPage_13 : decode cX8_ofPage 13 = .ok (.iaload, 1) := by decide +kernel
theorem dX8_ofPage_14 : decode cX8_ofPage 14 = .ok (.ireturn, 1) := by decide +kernel
theorem dX8_putsPage_0 : decode cX8_putsPage 0 = .ok (.aload_n 0, 1) := by decide +kernel
theorem dX8_putsPage_1 : decode cX8_putsPage 1 = .ok (.getfield 7, 3) := by decide +kernel
theorem dX8_putsPage_4 : decode cX8_putsPage 4 = .ok (.bipush 21, 2) := by decide +kernel
theorem dX8_putsPage_6 : decode cX8_putsPage 6 = .ok (.bipush 6, 2) := by decide +kernel
theorem dX8_putsPage_8 : decode cX8_putsPage 8 = .ok (.iload_n 1, 1) := by decide +kernel
theorem dX8_putsPage_9 : decode cX8_putsPage 9 = .ok (.imul, 1) := by decide +kernel
theorem dX8_putsPage_10 : decode cX8_putsPage 10 = .ok (.iadd, 1) := by decide +kernel
theorem dX8_putsPage_11 : decode cX8_putsPage 11 = .ok (.iload_n 2, 1) := by decide +kernel
theorem dX8_putsPage_12 : decode cX8_putsPage 12 = .ok (.iadd, 1) := by decide +kernel
theorem dX8_putsPage_13 : decode cX8_putsPage 13 = .ok (.iload_n 3, 1) := by decide +kernel
theorem dX8_putsPage_14 : decode cX8_putsPage 14 = .ok (.iastore, 1) := by decide +kernel
theorem dX8_putsPage_15 : decode cX8_putsPage 15 = .ok (.return_, 1) := by decide +kernel
theorem dX8_value_0 : decode cX8_value 0 = .ok (.aload_n 0, 1) := by decide +kernel
theorem dX8_value_1 : decode cX8_value 1 = .ok (.iload_n 1, 1) := by decide +kernel
theorem dX8_value_2 : decode cX8_value 2 = .ok (.aload_n 0, 1) := by decide +kernel
theorem dX8_value_3 : decode cX8_value 3 = .ok (.iload_n 1, 1) := by decide +kernel
theorem dX8_value_4 : decode cX8_value 4 = .ok (.iconst 2, 1) := by decide +kernel
theorem dX8_value_5 : decode cX8_value 5 = .ok (.invokevirtual 43, 3) := by decide +kernel
theorem dX8_value_8 : decode cX8_value 8 = .ok (.iconst 1, 1) := by decide +kernel
theorem dX8_value_9 : decode cX8_value 9 = .ok (.if_icmp .ne 7, 3) := by decide +kernel
theorem dX8_value_12 : decode cX8_value 12 = .ok (.iconst 3, 1) := by decide +kernel
theorem dX8_value_13 : decode cX8_value 13 = .ok (.goto 4, 3) := by decide +kernel
theorem dX8_value_16 : decode cX8_value 16 = .ok (.iconst 0, 1) := by decide +kernel
theorem dX8_value_17 : decode cX8_value 17 = .ok (.invokevirtual 43, 3) := by decide +kernel
theorem dX8_value_20 : decode cX8_value 20 = .ok (.ireturn, 1) := by decide +kernel
theorem dX8_mark_0 : decode cX8_mark 0 = .ok (.aload_n 0, 1) := by decide +kernel
theorem dX8_mark_1 : decode cX8_mark 1 = .ok (.iload_n 1, 1) := by decide +kernel
theorem dX8_mark_2 : decode cX8_mark 2 = .ok (.aload_n 0, 1) := by decide +kernel
theorem dX8_mark_3 : decode cX8_mark 3 = .ok (.iload_n 1, 1) := by decide +kernel
theorem dX8_mark_4 : decode cX8_mark 4 = .ok (.iconst 2, 1) := by decide +kernel
theorem dX8_mark_5 : decode cX8_mark 5 = .ok (.invokevirtual 43, 3) := by decide +kernel
theorem dX8_mark_8 : decode cX8_mark 8 = .ok (.iconst 1, 1) := by decide +kernel
theorem dX8_mark_9 : decode cX8_mark 9 = .ok (.if_icmp .ne 7, 3) := by decide +kernel
theorem dX8_mark_12 : decode cX8_mark 12 = .ok (.iconst 4, 1) := by decide +kernel
theorem dX8_mark_13 : decode cX8_mark 13 = .ok (.goto 4, 3) := by decide +kernel
theorem dX8_mark_16 : decode cX8_mark 16 = .ok (.iconst 1, 1) := by decide +kernel
theorem dX8_mark_17 : decode cX8_mark 17 = .ok (.invokevirtual 43, 3) := by decide +kernel
theorem dX8_mark_20 : decode cX8_mark 20 = .ok (.ireturn, 1) := by decide +kernel
theorem dX8_isDirty_0 : decode cX8_isDirty 0 = .ok (.aload_n 0, 1) := by decide +kernel
theorem dX8_isDirty_1 : decode cX8_isDirty 1 = .ok (.iload_n 1, 1) := by decide +kernel
theorem dX8_isDirty_2 : decode cX8_isDirty 2 = .ok (.invokevirtual 46, 3) := by decide +kernel
theorem dX8_isDirty_5 : decode cX8_isDirty 5 = .ok (.aload_n 0, 1) := by decide +kernel
theorem dX8_isDirty_6 : decode cX8_isDirty 6 = .ok (.iload_n 1, 1) := by decide +kernel
theorem dX8_isDirty_7 : decode cX8_isDirty 7 = .ok (.iconst 1, 1) := by decide +kernel
theorem dX8_isDirty_8 : decode cX8_isDirty 8 = .ok (.invokevirtual 43, 3) := by decide +kernel
theorem dX8_isDirty_11 : decode cX8_isDirty 11 = .ok (.if_icmp .eq 7, 3) := by decide +kernel
theorem dX8_isDirty_14 : decode cX8_isDirty 14 = .ok (.iconst 1, 1) := by decide +kernel
theorem dX8_isDirty_15 : decode cX8_isDirty 15 = .ok (.goto 4, 3) := by decide +kernel
theorem dX8_isDirty_18 : decode cX8_isDirty 18 = .ok (.iconst 0, 1) := by decide +kernel
theorem dX8_isDirty_19 : decode cX8_isDirty 19 = .ok (.ireturn, 1) := by decide +kernel
theorem dX8_last_0 : decode cX8_last 0 = .ok (.aload_n 0, 1) := by decide +kernel
theorem dX8_last_1 : decode cX8_last 1 = .ok (.getfield 7, 3) := by decide +kernel
theorem dX8_last_4 : decode cX8_last 4 = .ok (.iconst 0, 1) := by decide +kernel
theorem dX8_last_5 : decode cX8_last 5 = .ok (.iaload, 1) := by decide +kernel
theorem dX8_last_6 : decode cX8_last 6 = .ok (.aload_n 0, 1) := by decide +kernel
theorem dX8_last_7 : decode cX8_last 7 = .ok (.getfield 7, 3) := by decide +kernel
theorem dX8_last_10 : decode cX8_last 10 = .ok (.iconst 1, 1) := by decide +kernel
theorem dX8_last_11 : decode cX8_last 11 = .ok (.iaload, 1) := by decide +kernel
theorem dX8_last_12 : decode cX8_last 12 = .ok (.iadd, 1) := by decide +kernel
theorem dX8_last_13 : decode cX8_last 13 = .ok (.iconst 1, 1) := by decide +kernel
theorem dX8_last_14 : decode cX8_last 14 = .ok (.isub, 1) := by decide +kernel
theorem dX8_last_15 : decode cX8_last 15 = .ok (.ireturn, 1) := by decide +kernel
theorem dX8_isRecord_0 : decode cX8_isRecord 0 = .ok (.iload_n 1, 1) := by decide +kernel
theorem dX8_isRecord_1 : decode cX8_isRecord 1 = .ok (.aload_n 0, 1) := by decide +kernel
theorem dX8_isRecord_2 : decode cX8_isRecord 2 = .ok (.getfield 7, 3) := by decide +kernel
theorem dX8_isRecord_5 : decode cX8_isRecord 5 = .ok (.iconst 0, 1) := by decide +kernel
theorem dX8_isRecord_6 : decode cX8_isRecord 6 = .ok (.iaload, 1) := by decide +kernel
theorem dX8_isRecord_7 : decode cX8_isRecord 7 = .ok (.if_icmp .lt 15, 3) := by decide +kernel
theorem dX8_isRecord_10 : decode cX8_isRecord 10 = .ok (.iload_n 1, 1) := by decide +kernel
theorem dX8_isRecord_11 : decode cX8_isRecord 11 = .ok (.aload_n 0, 1) := by decide +kernel
theorem dX8_isRecord_12 : decode cX8_isRecord 12 = .ok (.invokevirtual 50, 3) := by decide +kernel
theorem dX8_isRecord_15 : decode cX8_isRecord 15 = .ok (.if_icmp .gt 7, 3) := by decide +kernel
theorem dX8_isRecord_18 : decode cX8_isRecord 18 = .ok (.iconst 1, 1) := by decide +kernel
theorem dX8_isRecord_19 : decode cX8_isRecord 19 = .ok (.goto 4, 3) := by decide +kernel
theorem dX8_isRecord_22 : decode cX8_isRecord 22 = .ok (.iconst 0, 1) := by decide +kernel
theorem dX8_isRecord_23 : decode cX8_isRecord 23 = .ok (.ireturn, 1) := by decide +kernel
theorem dX8_of_0 : decode cX8_of 0 = .ok (.aload_n 0, 1) := by decide +kernel
theorem dX8_of_1 : decode cX8_of 1 = .ok (.getfield 7, 3) := by decide +kernel
theorem dX8_of_4 : decode cX8_of 4 = .ok (.bipush 69, 2) := by decide +kernel
theorem dX8_of_6 : decode cX8_of 6 = .ok (.bipush 16, 2) := by decide +kernel
theorem dX8_of_8 : decode cX8_of 8 = .ok (.iload_n 1, 1) := by decide +kernel
theorem dX8_of_9 : decode cX8_of 9 = .ok (.aload_n 0, 1) := by decide +kernel
theorem dX8_of_10 : decode cX8_of 10 = .ok (.getfield 7, 3) := by decide +kernel
theorem dX8_of_13 : decode cX8_of 13 = .ok (.iconst 0, 1) := by decide +kernel
theorem dX8_of_14 : decode cX8_of 14 = .ok (.iaload, 1) := by decide +kernel
theorem dX8_of_15 : decode cX8_of 15 = .ok (.isub, 1) := by decide +kernel
theorem dX8_of_16 : decode cX8_of 16 = .ok (.imul, 1) := by decide +kernel
theorem dX8_of_17 : decode cX8_of 17 = .ok (.iadd, 1) := by decide +kernel
theorem dX8_of_18 : decode cX8_of 18 = .ok (.iload_n 2, 1) := by decide +kernel
theorem dX8_of_19 : decode cX8_of 19 = .ok (.iadd, 1) := by decide +kernel
theorem dX8_of_20 : decode cX8_of 20 = .ok (.iaload, 1) := by decide +kernel
theorem dX8_of_21 : decode cX8_of 21 = .ok (.ireturn, 1) := by decide +kernel
theorem dX8_adds_0 : decode cX8_adds 0 = .ok (.bipush 69, 2) := by decide +kernel
theorem dX8_adds_2 : decode cX8_adds 2 = .ok (.bipush 16, 2) := by decide +kernel
theorem dX8_adds_4 : decode cX8_adds 4 = .ok (.aload_n 0, 1) := by decide +kernel
theorem dX8_adds_5 : decode cX8_adds 5 = .ok (.getfield 7, 3) := by decide +kernel
theorem dX8_adds_8 : decode cX8_adds 8 = .ok (.iconst 1, 1) := by decide +kernel
theorem dX8_adds_9 : decode cX8_adds 9 = .ok (.iaload, 1) := by decide +kernel
theorem dX8_adds_10 : decode cX8_adds 10 = .ok (.imul, 1) := by decide +kernel
theorem dX8_adds_11 : decode cX8_adds 11 = .ok (.iadd, 1) := by decide +kernel
theorem dX8_adds_12 : decode cX8_adds 12 = .ok (.istore 7, 2) := by decide +kernel
theorem dX8_adds_14 : decode cX8_adds 14 = .ok (.iconst 0, 1) := by decide +kernel
theorem dX8_adds_15 : decode cX8_adds 15 = .ok (.istore 8, 2) := by decide +kernel
theorem dX8_adds_17 : decode cX8_adds 17 = .ok (.iload 8, 2) := by decide +kernel
theorem dX8_adds_19 : decode cX8_adds 19 = .ok (.bipush 16, 2) := by decide +kernel
theorem dX8_adds_21 : decode cX8_adds 21 = .ok (.if_icmp .ge 20, 3) := by decide +kernel
theorem dX8_adds_24 : decode cX8_adds 24 = .ok (.aload_n 0, 1) := by decide +kernel
theorem dX8_adds_25 : decode cX8_adds 25 = .ok (.getfield 7, 3) := by decide +kernel
theorem dX8_adds_28 : decode cX8_adds 28 = .ok (.iload 7, 2) := by decide +kernel
theorem dX8_adds_30 : decode cX8_adds 30 = .ok (.iload 8, 2) := by decide +kernel
theorem dX8_adds_32 : decode cX8_adds 32 = .ok (.iadd, 1) := by decide +kernel
theorem dX8_adds_33 : decode cX8_adds 33 = .ok (.iconst 0, 1) := by decide +kernel
theorem dX8_adds_34 : decode cX8_adds 34 = .ok (.iastore, 1) := by decide +kernel
theorem dX8_adds_35 : decode cX8_adds 35 = .ok (.iinc 8 1, 3) := by decide +kernel
theorem dX8_adds_38 : decode cX8_adds 38 = .ok (.goto (-21), 3) := by decide +kernel
theorem dX8_adds_41 : decode cX8_adds 41 = .ok (.aload_n 0, 1) := by decide +kernel
theorem dX8_adds_42 : decode cX8_adds 42 = .ok (.getfield 7, 3) := by decide +kernel
theorem dX8_adds_45 : decode cX8_adds 45 = .ok (.iload 7, 2) := by decide +kernel
theorem dX8_adds_47 : decode cX8_adds 47 = .ok (.iconst 0, 1) := by decide +kernel
theorem dX8_adds_48 : decode cX8_adds 48 = .ok (.iadd, 1) := by decide +kernel
theorem dX8_adds_49 : decode cX8_adds 49 = .ok (.iload_n 1, 1) := by decide +kernel
theorem dX8_adds_50 : decode cX8_adds 50 = .ok (.iastore, 1) := by decide +kernel
theorem dX8_adds_51 : decode cX8_adds 51 = .ok (.aload_n 0, 1) := by decide +kernel
theorem dX8_adds_52 : decode cX8_adds 52 = .ok (.getfield 7, 3) := by decide +kernel
theorem dX8_adds_55 : decode cX8_adds 55 = .ok (.iload 7, 2) := by decide +kernel
theorem dX8_adds_57 : decode cX8_adds 57 = .ok (.iconst 1, 1) := by decide +kernel
theorem dX8_adds_58 : decode cX8_adds 58 = .ok (.iadd, 1) := by decide +kernel
theorem dX8_adds_59 : decode cX8_adds 59 = .ok (.iload_n 2, 1) := by decide +kernel
theorem dX8_adds_60 : decode cX8_adds 60 = .ok (.iastore, 1) := by decide +kernel
theorem dX8_adds_61 : decode cX8_adds 61 = .ok (.aload_n 0, 1) := by decide +kernel
theorem dX8_adds_62 : decode cX8_adds 62 = .ok (.getfield 7, 3) := by decide +kernel
theorem dX8_adds_65 : decode cX8_adds 65 = .ok (.iload 7, 2) := by decide +kernel
theorem dX8_adds_67 : decode cX8_adds 67 = .ok (.iconst 2, 1) := by decide +kernel
theorem dX8_adds_68 : decode cX8_adds 68 = .ok (.iadd, 1) := by decide +kernel
theorem dX8_adds_69 : decode cX8_adds 69 = .ok (.iload_n 3, 1) := by decide +kernel
theorem dX8_adds_70 : decode cX8_adds 70 = .ok (.iastore, 1) := by decide +kernel
theorem dX8_adds_71 : decode cX8_adds 71 = .ok (.aload_n 0, 1) := by decide +kernel
theorem dX8_adds_72 : decode cX8_adds 72 = .ok (.getfield 7, 3) := by decide +kernel
theorem dX8_adds_75 : decode cX8_adds 75 = .ok (.iload 7, 2) := by decide +kernel
theorem dX8_adds_77 : decode cX8_adds 77 = .ok (.iconst 3, 1) := by decide +kernel
theorem dX8_adds_78 : decode cX8_adds 78 = .ok (.iadd, 1) := by decide +kernel
theorem dX8_adds_79 : decode cX8_adds 79 = .ok (.iload 4, 2) := by decide +kernel
theorem dX8_adds_81 : decode cX8_adds 81 = .ok (.iastore, 1) := by decide +kernel
theorem dX8_adds_82 : decode cX8_adds 82 = .ok (.aload_n 0, 1) := by decide +kernel
theorem dX8_adds_83 : decode cX8_adds 83 = .ok (.getfield 7, 3) := by decide +kernel
theorem dX8_adds_86 : decode cX8_adds 86 = .ok (.iload 7, 2) := by decide +kernel
theorem dX8_adds_88 : decode cX8_adds 88 = .ok (.iconst 4, 1) := by decide +kernel
theorem dX8_adds_89 : decode cX8_adds 89 = .ok (.iadd, 1) := by decide +kernel
theorem dX8_adds_90 : decode cX8_adds 90 = .ok (.iload 5, 2) := by decide +kernel
theorem dX8_adds_92 : decode cX8_adds 92 = .ok (.iastore, 1) := by decide +kernel
theorem dX8_adds_93 : decode cX8_adds 93 = .ok (.aload_n 0, 1) := by decide +kernel
theorem dX8_adds_94 : decode cX8_adds 94 = .ok (.getfield 7, 3) := by decide +kernel
theorem dX8_adds_97 : decode cX8_adds 97 = .ok (.iload 7, 2) := by decide +kernel
theorem dX8_adds_99 : decode cX8_adds 99 = .ok (.iconst 5, 1) := by decide +kernel
theorem dX8_adds_100 : decode cX8_adds 100 = .ok (.iadd, 1) := by decide +kernel
theorem dX8_adds_101 : decode cX8_adds 101 = .ok (.iload 6, 2) := by decide +kernel
theorem dX8_adds_103 : decode cX8_adds 103 = .ok (.iastore, 1) := by decide +kernel
theorem dX8_adds_104 : decode cX8_adds 104 = .ok (.aload_n 0, 1) := by decide +kernel
theorem dX8_adds_105 : decode cX8_adds 105 = .ok (.getfield 7, 3) := by decide +kernel
theorem dX8_adds_108 : decode cX8_adds 108 = .ok (.iconst 1, 1) := by decide +kernel
theorem dX8_adds_109 : decode cX8_adds 109 = .ok (.dup2, 1) := by decide +kernel
theorem dX8_adds_110 : decode cX8_adds 110 = .ok (.iaload, 1) := by decide +kernel
theorem dX8_adds_111 : decode cX8_adds 111 = .ok (.iconst 1, 1) := by decide +kernel
theorem dX8_adds_112 : decode cX8_adds 112 = .ok (.iadd, 1) := by decide +kernel
theorem dX8_adds_113 : decode cX8_adds 113 = .ok (.iastore, 1) := by decide +kernel
theorem dX8_adds_114 : decode cX8_adds 114 = .ok (.aload_n 0, 1) := by decide +kernel
theorem dX8_adds_115 : decode cX8_adds 115 = .ok (.invokevirtual 50, 3) := by decide +kernel
theorem dX8_adds_118 : decode cX8_adds 118 = .ok (.ireturn, 1) := by decide +kernel
theorem dX8_forces_0 : decode cX8_forces 0 = .ok (.iload_n 1, 1) := by decide +kernel
theorem dX8_forces_1 : decode cX8_forces 1 = .ok (.aload_n 0, 1) := by decide +kernel
theorem dX8_forces_2 : decode cX8_forces 2 = .ok (.getfield 7, 3) := by decide +kernel
theorem dX8_forces_5 : decode cX8_forces 5 = .ok (.iconst 2, 1) := by decide +kernel
theorem dX8_forces_6 : decode cX8_forces 6 = .ok (.iaload, 1) := by decide +kernel
theorem dX8_forces_7 : decode cX8_forces 7 = .ok (.if_icmp .le 14, 3) := by decide +kernel
theorem dX8_forces_10 : decode cX8_forces 10 = .ok (.iload_n 1, 1) := by decide +kernel
theorem dX8_forces_11 : decode cX8_forces 11 = .ok (.aload_n 0, 1) := by decide +kernel
theorem dX8_forces_12 : decode cX8_forces 12 = .ok (.getfield 7, 3) := by decide +kernel
theorem dX8_forces_15 : decode cX8_forces 15 = .ok (.iconst 2, 1) := by decide +kernel
theorem dX8_forces_16 : decode cX8_forces 16 = .ok (.iaload, 1) := by decide +kernel
theorem dX8_forces_17 : decode cX8_forces 17 = .ok (.isub, 1) := by decide +kernel
theorem dX8_forces_18 : decode cX8_forces 18 = .ok (.goto 4, 3) := by decide +kernel
theorem dX8_forces_21 : decode cX8_forces 21 = .ok (.iconst 0, 1) := by decide +kernel
theorem dX8_forces_22 : decode cX8_forces 22 = .ok (.istore_n 2, 1) := by decide +kernel
theorem dX8_forces_23 : decode cX8_forces 23 = .ok (.aload_n 0, 1) := by decide +kernel
theorem dX8_forces_24 : decode cX8_forces 24 = .ok (.getfield 7, 3) := by decide +kernel
theorem dX8_forces_27 : decode cX8_forces 27 = .ok (.iconst 2, 1) := by decide +kernel
theorem dX8_forces_28 : decode cX8_forces 28 = .ok (.dup2, 1) := by decide +kernel
theorem dX8_forces_29 : decode cX8_forces 29 = .ok (.iaload, 1) := by decide +kernel
theorem dX8_forces_30 : decode cX8_forces 30 = .ok (.iload_n 2, 1) := by decide +kernel
theorem dX8_forces_31 : decode cX8_forces 31 = .ok (.iadd, 1) := by decide +kernel
theorem dX8_forces_32 : decode cX8_forces 32 = .ok (.iastore, 1) := by decide +kernel
theorem dX8_forces_33 : decode cX8_forces 33 = .ok (.iload_n 2, 1) := by decide +kernel
theorem dX8_forces_34 : decode cX8_forces 34 = .ok (.ireturn, 1) := by decide +kernel
theorem dX8_comes_0 : decode cX8_comes 0 = .ok (.aload_n 0, 1) := by decide +kernel
theorem dX8_comes_1 : decode cX8_comes 1 = .ok (.iload_n 1, 1) := by decide +kernel
theorem dX8_comes_2 : decode cX8_comes 2 = .ok (.iconst 5, 1) := by decide +kernel
theorem dX8_comes_3 : decode cX8_comes 3 = .ok (.aload_n 0, 1) := by decide +kernel
theorem dX8_comes_4 : decode cX8_comes 4 = .ok (.iload_n 1, 1) := by decide +kernel
theorem dX8_comes_5 : decode cX8_comes 5 = .ok (.invokevirtual 54, 3) := by decide +kernel
theorem dX8_comes_8 : decode cX8_comes 8 = .ok (.ifCond .eq 12, 3) := by decide +kernel
theorem dX8_comes_11 : decode cX8_comes 11 = .ok (.aload_n 0, 1) := by decide +kernel
theorem dX8_comes_12 : decode cX8_comes 12 = .ok (.iload_n 1, 1) := by decide +kernel
theorem dX8_comes_13 : decode cX8_comes 13 = .ok (.iconst 5, 1) := by decide +kernel
theorem dX8_comes_14 : decode cX8_comes 14 = .ok (.invokevirtual 43, 3) := by decide +kernel
theorem dX8_comes_17 : decode cX8_comes 17 = .ok (.goto 4, 3) := by decide +kernel
theorem dX8_comes_20 : decode cX8_comes 20 = .ok (.iload_n 3, 1) := by decide +kernel
theorem dX8_comes_21 : decode cX8_comes 21 = .ok (.invokevirtual 58, 3) := by decide +kernel
theorem dX8_comes_24 : decode cX8_comes 24 = .ok (.aload_n 0, 1) := by decide +kernel
theorem dX8_comes_25 : decode cX8_comes 25 = .ok (.iload_n 1, 1) := by decide +kernel
theorem dX8_comes_26 : decode cX8_comes 26 = .ok (.iconst 2, 1) := by decide +kernel
theorem dX8_comes_27 : decode cX8_comes 27 = .ok (.iconst 1, 1) := by decide +kernel
theorem dX8_comes_28 : decode cX8_comes 28 = .ok (.invokevirtual 58, 3) := by decide +kernel
theorem dX8_comes_31 : decode cX8_comes 31 = .ok (.aload_n 0, 1) := by decide +kernel
theorem dX8_comes_32 : decode cX8_comes 32 = .ok (.iload_n 1, 1) := by decide +kernel
theorem dX8_comes_33 : decode cX8_comes 33 = .ok (.iconst 3, 1) := by decide +kernel
theorem dX8_comes_34 : decode cX8_comes 34 = .ok (.iload_n 2, 1) := by decide +kernel
theorem dX8_comes_35 : decode cX8_comes 35 = .ok (.invokevirtual 58, 3) := by decide +kernel
theorem dX8_comes_38 : decode cX8_comes 38 = .ok (.aload_n 0, 1) := by decide +kernel
theorem dX8_comes_39 : decode cX8_comes 39 = .ok (.iload_n 1, 1) := by decide +kernel
theorem dX8_comes_40 : decode cX8_comes 40 = .ok (.iconst 4, 1) := by decide +kernel
theorem dX8_comes_41 : decode cX8_comes 41 = .ok (.iload_n 3, 1) := by decide +kernel
theorem dX8_comes_42 : decode cX8_comes 42 = .ok (.invokevirtual 58, 3) := by decide +kernel
theorem dX8_comes_45 : decode cX8_comes 45 = .ok (.return_, 1) := by decide +kernel
theorem dX8_holder_0 : decode cX8_holder 0 = .ok (.ldc 62, 2) := by decide +kernel
theorem dX8_holder_2 : decode cX8_holder 2 = .ok (.istore_n 2, 1) := by decide +kernel
theorem dX8_holder_3 : decode cX8_holder 3 = .ok (.iconst 0, 1) := by decide +kernel
theorem dX8_holder_4 : decode cX8_holder 4 = .ok (.istore_n 3, 1) := by decide +kernel
theorem dX8_holder_5 : decode cX8_holder 5 = .ok (.iload_n 3, 1) := by decide +kernel
theorem dX8_holder_6 : decode cX8_holder 6 = .ok (.iconst 4, 1) := by decide +kernel
theorem dX8_holder_7 : decode cX8_holder 7 = .ok (.if_icmp .ge 37, 3) := by decide +kernel
theorem dX8_holder_10 : decode cX8_holder 10 = .ok (.aload_n 0, 1) := by decide +kernel
theorem dX8_holder_11 : decode cX8_holder 11 = .ok (.iload_n 3, 1) := by decide +kernel
theorem dX8_holder_12 : decode cX8_holder 12 = .ok (.invokevirtual 63, 3) := by decide +kernel
theorem dX8_holder_15 : decode cX8_holder 15 = .ok (.ifCond .eq 21, 3) := by decide +kernel
theorem dX8_holder_18 : decode cX8_holder 18 = .ok (.aload_n 0, 1) := by decide +kernel
theorem dX8_holder_19 : decode cX8_holder 19 = .ok (.iload_n 3, 1) := by decide +kernel
theorem dX8_holder_20 : decode cX8_holder 20 = .ok (.iconst 3, 1) := by decide +kernel
theorem dX8_holder_21 : decode cX8_holder 21 = .ok (.invokevirtual 39, 3) := by decide +kernel
theorem dX8_holder_24 : decode cX8_holder 24 = .ok (.iload_n 1, 1) := by decide +kernel
theorem dX8_holder_25 : decode cX8_holder 25 = .ok (.ishr, 1) := by decide +kernel
theorem dX8_holder_26 : decode cX8_holder 26 = .ok (.iconst 1, 1) := by decide +kernel
theorem dX8_holder_27 : decode cX8_holder 27 = .ok (.iand, 1) := by decide +kernel
theorem dX8_holder_28 : decode cX8_holder 28 = .ok (.iconst 1, 1) := by decide +kernel
theorem dX8_holder_29 : decode cX8_holder 29 = .ok (.if_icmp .ne 7, 3) := by decide +kernel
theorem dX8_holder_32 : decode cX8_holder 32 = .ok (.iload_n 3, 1) := by decide +kernel
theorem dX8_holder_33 : decode cX8_holder 33 = .ok (.goto 4, 3) := by decide +kernel
theorem dX8_holder_36 : decode cX8_holder 36 = .ok (.iload_n 2, 1) := by decide +kernel
theorem dX8_holder_37 : decode cX8_holder 37 = .ok (.istore_n 2, 1) := by decide +kernel
theorem dX8_holder_38 : decode cX8_holder 38 = .ok (.iinc 3 1, 3) := by decide +kernel
theorem dX8_holder_41 : decode cX8_holder 41 = .ok (.goto (-36), 3) := by decide +kernel
theorem dX8_holder_44 : decode cX8_holder 44 = .ok (.iload_n 2, 1) := by decide +kernel
theorem dX8_holder_45 : decode cX8_holder 45 = .ok (.ireturn, 1) := by decide +kernel
theorem dX8_begin_0 : decode cX8_begin 0 = .ok (.iload_n 1, 1) := by decide +kernel
theorem dX8_begin_1 : decode cX8_begin 1 = .ok (.iconst 0, 1) := by decide +kernel
theorem dX8_begin_2 : decode cX8_begin 2 = .ok (.iconst 3, 1) := by decide +kernel
theorem dX8_begin_3 : decode cX8_begin 3 = .ok (.invokestatic 66, 3) := by decide +kernel
theorem dX8_begin_6 : decode cX8_begin 6 = .ok (.ifCond .ne 6, 3) := by decide +kernel
theorem dX8_begin_9 : decode cX8_begin 9 = .ok (.ldc 70, 2) := by decide +kernel
theorem dX8_begin_11 : decode cX8_begin 11 = .ok (.ireturn, 1) := by decide +kernel
theorem dX8_begin_12 : decode cX8_begin 12 = .ok (.aload_n 0, 1) := by decide +kernel
theorem dX8_begin_13 : decode cX8_begin 13 = .ok (.invokevirtual 71, 3) := by decide +kernel
theorem dX8_begin_16 : decode cX8_begin 16 = .ok (.ifCond .ne 11, 3) := by decide +kernel
theorem dX8_begin_19 : decode cX8_begin 19 = .ok (.aload_n 0, 1) := by decide +kernel
theorem dX8_begin_20 : decode cX8_begin 20 = .ok (.iload_n 1, 1) := by decide +kernel
theorem dX8_begin_21 : decode cX8_begin 21 = .ok (.invokevirtual 63, 3) := by decide +kernel
theorem dX8_begin_24 : decode cX8_begin 24 = .ok (.ifCond .eq 6, 3) := by decide +kernel
theorem dX8_begin_27 : decode cX8_begin 27 = .ok (.ldc 75, 2) := by decide +kernel
theorem dX8_begin_29 : decode cX8_begin 29 = .ok (.ireturn, 1) := by decide +kernel
theorem dX8_begin_30 : decode cX8_begin 30 = .ok (.aload_n 0, 1) := by decide +kernel
theorem dX8_begin_31 : decode cX8_begin 31 = .ok (.getfield 7, 3) := by decide +kernel
theorem dX8_begin_34 : decode cX8_begin 34 = .ok (.iconst 1, 1) := by decide +kernel
theorem dX8_begin_35 : decode cX8_begin 35 = .ok (.iaload, 1) := by decide +kernel
theorem dX8_begin_36 : decode cX8_begin 36 = .ok (.bipush 60, 2) := by decide +kernel
theorem dX8_begin_38 : decode cX8_begin 38 = .ok (.if_icmp .lt 6, 3) := by decide +kernel
theorem dX8_begin_41 : decode cX8_begin 41 = .ok (.ldc 76, 2) := by decide +kernel
theorem dX8_begin_43 : decode cX8_begin 43 = .ok (.ireturn, 1) := by decide +kernel
theorem dX8_begin_44 : decode cX8_begin 44 = .ok (.aload_n 0, 1) := by decide +kernel
theorem dX8_begin_45 : decode cX8_begin 45 = .ok (.invokevirtual 77, 3) := by decide +kernel
theorem dX8_begin_48 : decode cX8_begin 48 = .ok (.aload_n 0, 1) := by decide +kernel
theorem dX8_begin_49 : decode cX8_begin 49 = .ok (.iconst 0, 1) := by decide +kernel
theorem dX8_begin_50 : decode cX8_begin 50 = .ok (.iload_n 1, 1) := by decide +kernel
theorem dX8_begin_51 : decode cX8_begin 51 = .ok (.ldc 62, 2) := by decide +kernel
theorem dX8_begin_53 : decode cX8_begin 53 = .ok (.ldc 62, 2) := by decide +kernel
theorem dX8_begin_55 : decode cX8_begin 55 = .ok (.ldc 62, 2) := by decide +kernel
theorem dX8_begin_57 : decode cX8_begin 57 = .ok (.ldc 62, 2) := by decide +kernel
theorem dX8_begin_59 : decode cX8_begin 59 = .ok (.invokevirtual 80, 3) := by decide +kernel
theorem dX8_begin_62 : decode cX8_begin 62 = .ok (.istore_n 2, 1) := by decide +kernel
theorem dX8_begin_63 : decode cX8_begin 63 = .ok (.aload_n 0, 1) := by decide +kernel
theorem dX8_begin_64 : decode cX8_begin 64 = .ok (.iload_n 1, 1) := by decide +kernel
theorem dX8_begin_65 : decode cX8_begin 65 = .ok (.iconst 0, 1) := by decide +kernel
theorem dX8_begin_66 : decode cX8_begin 66 = .ok (.iconst 1, 1) := by decide +kernel
theorem dX8_begin_67 : decode cX8_begin 67 = .ok (.invokevirtual 84, 3) := by decide +kernel
theorem dX8_begin_70 : decode cX8_begin 70 = .ok (.aload_n 0, 1) := by decide +kernel
theorem dX8_begin_71 : decode cX8_begin 71 = .ok (.iload_n 1, 1) := by decide +kernel
theorem dX8_begin_72 : decode cX8_begin 72 = .ok (.iconst 1, 1) := by decide +kernel
theorem dX8_begin_73 : decode cX8_begin 73 = .ok (.iload_n 2, 1) := by decide +kernel
theorem dX8_begin_74 : decode cX8_begin 74 = .ok (.invokevirtual 84, 3) := by decide +kernel
theorem dX8_begin_77 : decode cX8_begin 77 = .ok (.aload_n 0, 1) := by decide +kernel
theorem dX8_begin_78 : decode cX8_begin 78 = .ok (.iload_n 1, 1) := by decide +kernel
theorem dX8_begin_79 : decode cX8_begin 79 = .ok (.iconst 2, 1) := by decide +kernel
theorem dX8_begin_80 : decode cX8_begin 80 = .ok (.iconst 0, 1) := by decide +kernel
theorem dX8_begin_81 : decode cX8_begin 81 = .ok (.invokevirtual 84, 3) := by decide +kernel
theorem dX8_begin_84 : decode cX8_begin 84 = .ok (.aload_n 0, 1) := by decide +kernel
theorem dX8_begin_85 : decode cX8_begin 85 = .ok (.iload_n 1, 1) := by decide +kernel
theorem dX8_begin_86 : decode cX8_begin 86 = .ok (.iconst 3, 1) := by decide +kernel
theorem dX8_begin_87 : decode cX8_begin 87 = .ok (.iconst 0, 1) := by decide +kernel
theorem dX8_begin_88 : decode cX8_begin 88 = .ok (.invokevirtual 84, 3) := by decide +kernel
theorem dX8_begin_91 : decode cX8_begin 91 = .ok (.iload_n 2, 1) := by decide +kernel
theorem dX8_begin_92 : decode cX8_begin 92 = .ok (.ireturn, 1) := by decide +kernel
theorem dX8_write_0 : decode cX8_write 0 = .ok (.iload_n 1, 1) := by decide +kernel
theorem dX8_write_1 : decode cX8_write 1 = .ok (.iconst 0, 1) := by decide +kernel
theorem dX8_write_2 : decode cX8_write 2 = .ok (.iconst 3, 1) := by decide +kernel
theorem dX8_write_3 : decode cX8_write 3 = .ok (.invokestatic 66, 3) := by decide +kernel
theorem dX8_write_6 : decode cX8_write 6 = .ok (.ifCond .eq 23, 3) := by decide +kernel
theorem dX8_write_9 : decode cX8_write 9 = .ok (.iload_n 2, 1) := by decide +kernel
theorem dX8_write_10 : decode cX8_write 10 = .ok (.iconst 0, 1) := by decide +kernel
theorem dX8_write_11 : decode cX8_write 11 = .ok (.bipush 7, 2) := by decide +kernel
theorem dX8_write_13 : decode cX8_write 13 = .ok (.invokestatic 66, 3) := by decide +kernel
theorem dX8_write_16 : decode cX8_write 16 = .ok (.ifCond .eq 13, 3) := by decide +kernel
theorem dX8_write_19 : decode cX8_write 19 = .ok (.iload_n 3, 1) := by decide +kernel
theorem dX8_write_20 : decode cX8_write 20 = .ok (.iconst 0, 1) := by decide +kernel
theorem dX8_write_21 : decode cX8_write 21 = .ok (.bipush 99, 2) := by decide +kernel
theorem dX8_write_23 : decode cX8_write 23 = .ok (.invokestatic 66, 3) := by decide +kernel
theorem dX8_write_26 : decode cX8_write 26 = .ok (.ifCond .ne 6, 3) := by decide +kernel
theorem dX8_write_29 : decode cX8_write 29 = .ok (.ldc 70, 2) := by decide +kernel
theorem dX8_write_31 : decode cX8_write 31 = .ok (.ireturn, 1) := by decide +kernel
theorem dX8_write_32 : decode cX8_write 32 = .ok (.aload_n 0, 1) := by decide +kernel
theorem dX8_write_33 : decode cX8_write 33 = .ok (.iload_n 2, 1) := by decide +kernel
theorem dX8_write_34 : decode cX8_write 34 = .ok (.invokevirtual 87, 3) := by decide +kernel
theorem dX8_write_37 : decode cX8_write 37 = .ok (.istore 4, 2) := by decide +kernel
theorem dX8_write_39 : decode cX8_write 39 = .ok (.aload_n 0, 1) := by decide +kernel
theorem dX8_write_40 : decode cX8_write 40 = .ok (.invokevirtual 71, 3) := by decide +kernel
theorem dX8_write_43 : decode cX8_write 43 = .ok (.ifCond .ne 22, 3) := by decide +kernel
theorem dX8_write_46 : decode cX8_write 46 = .ok (.aload_n 0, 1) := by decide +kernel
theorem dX8_write_47 : decode cX8_write 47 = .ok (.iload_n 1, 1) := by decide +kernel
theorem dX8_write_48 : decode cX8_write 48 = .ok (.invokevirtual 63, 3) := by decide +kernel
theorem dX8_write_51 : decode cX8_write 51 = .ok (.ifCond .eq 14, 3) := by decide +kernel
theorem dX8_write_54 : decode cX8_write 54 = .ok (.iload 4, 2) := by decide +kernel
theorem dX8_write_56 : decode cX8_write 56 = .ok (.ifCond .lt 12, 3) := by decide +kernel
theorem dX8_write_59 : decode cX8_write 59 = .ok (.iload 4, 2) := by decide +kernel
theorem dX8_write_61 : decode cX8_write 61 = .ok (.iload_n 1, 1) := by decide +kernel
theorem dX8_write_62 : decode cX8_write 62 = .ok (.if_icmp .eq 6, 3) := by decide +kernel
theorem dX8_write_65 : decode cX8_write 65 = .ok (.ldc 75, 2) := by decide +kernel
theorem dX8_write_67 : decode cX8_write 67 = .ok (.ireturn, 1) := by decide +kernel
theorem dX8_write_68 : decode cX8_write 68 = .ok (.aload_n 0, 1) := by decide +kernel
theorem dX8_write_69 : decode cX8_write 69 = .ok (.getfield 7, 3) := by decide +kernel
theorem dX8_write_72 : decode cX8_write 72 = .ok (.iconst 1, 1) := by decide +kernel
theorem dX8_write_73 : decode cX8_write 73 = .ok (.iaload, 1) := by decide +kernel
theorem dX8_write_74 : decode cX8_write 74 = .ok (.bipush 60, 2) := by decide +kernel
theorem dX8_write_76 : decode cX8_write 76 = .ok (.if_icmp .lt 6, 3) := by decide +kernel
theorem dX8_write_79 : decode cX8_write 79 = .ok (.ldc 76, 2) := by decide +kernel
theorem dX8_write_81 : decode cX8_write 81 = .ok (.ireturn, 1) := by decide +kernel
theorem dX8_write_82 : decode cX8_write 82 = .ok (.aload_n 0, 1) := by decide +kernel
theorem dX8_write_83 : decode cX8_write 83 = .ok (.invokevirtual 77, 3) := by decide +kernel
theorem dX8_write_86 : decode cX8_write 86 = .ok (.aload_n 0, 1) := by decide +kernel
theorem dX8_write_87 : decode cX8_write 87 = .ok (.iload_n 2, 1) := by decide +kernel
theorem dX8_write_88 : decode cX8_write 88 = .ok (.invokevirtual 90, 3) := by decide +kernel
theorem dX8_write_91 : decode cX8_write 91 = .ok (.istore 5, 2) := by decide +kernel
theorem dX8_write_93 : decode cX8_write 93 = .ok (.aload_n 0, 1) := by decide +kernel
theorem dX8_write_94 : decode cX8_write 94 = .ok (.iconst 1, 1) := by decide +kernel
theorem dX8_write_95 : decode cX8_write 95 = .ok (.iload_n 1, 1) := by decide +kernel
theorem dX8_write_96 : decode cX8_write 96 = .ok (.iload_n 2, 1) := by decide +kernel
theorem dX8_write_97 : decode cX8_write 97 = .ok (.iload 5, 2) := by decide +kernel
theorem dX8_write_99 : decode cX8_write 99 = .ok (.iload_n 3, 1) := by decide +kernel
theorem dX8_write_100 : decode cX8_write 100 = .ok (.ldc 62, 2) := by decide +kernel
theorem dX8_write_102 : decode cX8_write 102 = .ok (.invokevirtual 80, 3) := by decide +kernel
theorem dX8_write_105 : decode cX8_write 105 = .ok (.istore 6, 2) := by decide +kernel
theorem dX8_write_107 : decode cX8_write 107 = .ok (.aload_n 0, 1) := by decide +kernel
theorem dX8_write_108 : decode cX8_write 108 = .ok (.iload_n 2, 1) := by decide +kernel
theorem dX8_write_109 : decode cX8_write 109 = .ok (.iload_n 3, 1) := by decide +kernel
theorem dX8_write_110 : decode cX8_write 110 = .ok (.iload 6, 2) := by decide +kernel
theorem dX8_write_112 : decode cX8_write 112 = .ok (.invokevirtual 93, 3) := by decide +kernel
theorem dX8_write_115 : decode cX8_write 115 = .ok (.aload_n 0, 1) := by decide +kernel
theorem dX8_write_116 : decode cX8_write 116 = .ok (.iload_n 1, 1) := by decide +kernel
theorem dX8_write_117 : decode cX8_write 117 = .ok (.iconst 2, 1) := by decide +kernel
theorem dX8_write_118 : decode cX8_write 118 = .ok (.aload_n 0, 1) := by decide +kernel
theorem dX8_write_119 : decode cX8_write 119 = .ok (.iload_n 1, 1) := by decide +kernel
theorem dX8_write_120 : decode cX8_write 120 = .ok (.iconst 2, 1) := by decide +kernel
theorem dX8_write_121 : decode cX8_write 121 = .ok (.invokevirtual 39, 3) := by decide +kernel
theorem dX8_write_124 : decode cX8_write 124 = .ok (.iconst 1, 1) := by decide +kernel
theorem dX8_write_125 : decode cX8_write 125 = .ok (.iadd, 1) := by decide +kernel
theorem dX8_write_126 : decode cX8_write 126 = .ok (.invokevirtual 84, 3) := by decide +kernel
theorem dX8_write_129 : decode cX8_write 129 = .ok (.aload_n 0, 1) := by decide +kernel
theorem dX8_write_130 : decode cX8_write 130 = .ok (.iload_n 1, 1) := by decide +kernel
theorem dX8_write_131 : decode cX8_write 131 = .ok (.iconst 3, 1) := by decide +kernel
theorem dX8_write_132 : decode cX8_write 132 = .ok (.aload_n 0, 1) := by decide +kernel
theorem dX8_write_133 : decode cX8_write 133 = .ok (.iload_n 1, 1) := by decide +kernel
theorem dX8_write_134 : decode cX8_write 134 = .ok (.iconst 3, 1) := by decide +kernel
theorem dX8_write_135 : decode cX8_write 135 = .ok (.invokevirtual 39, 3) := by decide +kernel
theorem dX8_write_138 : decode cX8_write 138 = .ok (.iconst 1, 1) := by decide +kernel
theorem dX8_write_139 : decode cX8_write 139 = .ok (.iload_n 2, 1) := by decide +kernel
theorem dX8_write_140 : decode cX8_write 140 = .ok (.ishl, 1) := by decide +kernel
theorem dX8_write_141 : decode cX8_write 141 = .ok (.ior, 1) := by decide +kernel
theorem dX8_write_142 : decode cX8_write 142 = .ok (.invokevirtual 84, 3) := by decide +kernel
theorem dX8_write_145 : decode cX8_write 145 = .ok (.iload 5, 2) := by decide +kernel
theorem dX8_write_147 : decode cX8_write 147 = .ok (.ireturn, 1) := by decide +kernel
theorem dX8_bits_0 : decode cX8_bits 0 = .ok (.iconst 0, 1) := by decide +kernel
theorem dX8_bits_1 : decode cX8_bits 1 = .ok (.istore_n 1, 1) := by decide +kernel
theorem dX8_bits_2 : decode cX8_bits 2 = .ok (.iconst 0, 1) := by decide +kernel
theorem dX8_bits_3 : decode cX8_bits 3 = .ok (.istore_n 2, 1) := by decide +kernel
theorem dX8_bits_4 : decode cX8_bits 4 = .ok (.iload_n 2, 1) := by decide +kernel
theorem dX8_bits_5 : decode cX8_bits 5 = .ok (.bipush 8, 2) := by decide +kernel
theorem dX8_bits_7 : decode cX8_bits 7 = .ok (.if_icmp .ge 17, 3) := by decide +kernel
theorem dX8_bits_10 : decode cX8_bits 10 = .ok (.iload_n 1, 1) := by decide +kernel
theorem dX8_bits_11 : decode cX8_bits 11 = .ok (.iload_n 0, 1) := by decide +kernel
theorem dX8_bits_12 : decode cX8_bits 12 = .ok (.iload_n 2, 1) := by decide +kernel
theorem dX8_bits_13 : decode cX8_bits 13 = .ok (.ishr, 1) := by decide +kernel
theorem dX8_bits_14 : decode cX8_bits 14 = .ok (.iconst 1, 1) := by decide +kernel
theorem dX8_bits_15 : decode cX8_bits 15 = .ok (.iand, 1) := by decide +kernel
theorem dX8_bits_16 : decode cX8_bits 16 = .ok (.iadd, 1) := by decide +kernel
theorem dX8_bits_17 : decode cX8_bits 17 = .ok (.istore_n 1, 1) := by decide +kernel
theorem dX8_bits_18 : decode cX8_bits 18 = .ok (.iinc 2 1, 3) := by decide +kernel
theorem dX8_bits_21 : decode cX8_bits 21 = .ok (.goto (-17), 3) := by decide +kernel
theorem dX8_bits_24 : decode cX8_bits 24 = .ok (.iload_n 1, 1) := by decide +kernel
theorem dX8_bits_25 : decode cX8_bits 25 = .ok (.ireturn, 1) := by decide +kernel
theorem dX8_closes_0 : decode cX8_closes 0 = .ok (.iconst 0, 1) := by decide +kernel
theorem dX8_closes_1 : decode cX8_closes 1 = .ok (.istore_n 2, 1) := by decide +kernel
theorem dX8_closes_2 : decode cX8_closes 2 = .ok (.iload_n 2, 1) := by decide +kernel
theorem dX8_closes_3 : decode cX8_closes 3 = .ok (.iconst 4, 1) := by decide +kernel
theorem dX8_closes_4 : decode cX8_closes 4 = .ok (.if_icmp .ge 16, 3) := by decide +kernel
theorem dX8_closes_7 : decode cX8_closes 7 = .ok (.aload_n 0, 1) := by decide +kernel
theorem dX8_closes_8 : decode cX8_closes 8 = .ok (.iload_n 1, 1) := by decide +kernel
theorem dX8_closes_9 : decode cX8_closes 9 = .ok (.iload_n 2, 1) := by decide +kernel
theorem dX8_closes_10 : decode cX8_closes 10 = .ok (.iconst 0, 1) := by decide +kernel
theorem dX8_closes_11 : decode cX8_closes 11 = .ok (.invokevirtual 84, 3) := by decide +kernel
theorem dX8_closes_14 : decode cX8_closes 14 = .ok (.iinc 2 1, 3) := by decide +kernel
theorem dX8_closes_17 : decode cX8_closes 17 = .ok (.goto (-15), 3) := by decide +kernel
theorem dX8_closes_20 : decode cX8_closes 20 = .ok (.return_, 1) := by decide +kernel
theorem dX8_settle_0 : decode cX8_settle 0 = .ok (.iload_n 1, 1) := by decide +kernel
theorem dX8_settle_1 : decode cX8_settle 1 = .ok (.iconst 0, 1) := by decide +kernel
theorem dX8_settle_2 : decode cX8_settle 2 = .ok (.iconst 3, 1) := by decide +kernel
theorem dX8_settle_3 : decode cX8_settle 3 = .ok (.invokestatic 66, 3) := by decide +kernel
theorem dX8_settle_6 : decode cX8_settle 6 = .ok (.ifCond .ne 6, 3) := by decide +kernel
theorem dX8_settle_9 : decode cX8_settle 9 = .ok (.ldc 70, 2) := by decide +kernel
theorem dX8_settle_11 : decode cX8_settle 11 = .ok (.ireturn, 1) := by decide +kernel
theorem dX8_settle_12 : decode cX8_settle 12 = .ok (.aload_n 0, 1) := by decide +kernel
theorem dX8_settle_13 : decode cX8_settle 13 = .ok (.invokevirtual 71, 3) := by decide +kernel
theorem dX8_settle_16 : decode cX8_settle 16 = .ok (.ifCond .ne 11, 3) := by decide +kernel
theorem dX8_settle_19 : decode cX8_settle 19 = .ok (.aload_n 0, 1) := by decide +kernel
theorem dX8_settle_20 : decode cX8_settle 20 = .ok (.iload_n 1, 1) := by decide +kernel
theorem dX8_settle_21 : decode cX8_settle 21 = .ok (.invokevirtual 63, 3) := by decide +kernel
theorem dX8_settle_24 : decode cX8_settle 24 = .ok (.ifCond .ne 6, 3) := by decide +kernel
theorem dX8_settle_27 : decode cX8_settle 27 = .ok (.ldc 75, 2) := by decide +kernel
theorem dX8_settle_29 : decode cX8_settle 29 = .ok (.ireturn, 1) := by decide +kernel
theorem dX8_settle_30 : decode cX8_settle 30 = .ok (.aload_n 0, 1) := by decide +kernel
theorem dX8_settle_31 : decode cX8_settle 31 = .ok (.getfield 7, 3) := by decide +kernel
theorem dX8_settle_34 : decode cX8_settle 34 = .ok (.iconst 1, 1) := by decide +kernel
theorem dX8_settle_35 : decode cX8_settle 35 = .ok (.iaload, 1) := by decide +kernel
theorem dX8_settle_36 : decode cX8_settle 36 = .ok (.bipush 60, 2) := by decide +kernel
theorem dX8_settle_38 : decode cX8_settle 38 = .ok (.if_icmp .lt 6, 3) := by decide +kernel
theorem dX8_settle_41 : decode cX8_settle 41 = .ok (.ldc 76, 2) := by decide +kernel
theorem dX8_settle_43 : decode cX8_settle 43 = .ok (.ireturn, 1) := by decide +kernel
theorem dX8_settle_44 : decode cX8_settle 44 = .ok (.aload_n 0, 1) := by decide +kernel
theorem dX8_settle_45 : decode cX8_settle 45 = .ok (.invokevirtual 77, 3) := by decide +kernel
theorem dX8_settle_48 : decode cX8_settle 48 = .ok (.aload_n 0, 1) := by decide +kernel
theorem dX8_settle_49 : decode cX8_settle 49 = .ok (.aload_n 0, 1) := by decide +kernel
theorem dX8_settle_50 : decode cX8_settle 50 = .ok (.iconst 2, 1) := by decide +kernel
theorem dX8_settle_51 : decode cX8_settle 51 = .ok (.iload_n 1, 1) := by decide +kernel
theorem dX8_settle_52 : decode cX8_settle 52 = .ok (.ldc 62, 2) := by decide +kernel
theorem dX8_settle_54 : decode cX8_settle 54 = .ok (.ldc 62, 2) := by decide +kernel
theorem dX8_settle_56 : decode cX8_settle 56 = .ok (.ldc 62, 2) := by decide +kernel
theorem dX8_settle_58 : decode cX8_settle 58 = .ok (.ldc 62, 2) := by decide +kernel
theorem dX8_settle_60 : decode cX8_settle 60 = .ok (.invokevirtual 80, 3) := by decide +kernel
theorem dX8_settle_63 : decode cX8_settle 63 = .ok (.invokevirtual 96, 3) := by decide +kernel
theorem dX8_settle_66 : decode cX8_settle 66 = .ok (.pop, 1) := by decide +kernel
theorem dX8_settle_67 : decode cX8_settle 67 = .ok (.aload_n 0, 1) := by decide +kernel
theorem dX8_settle_68 : decode cX8_settle 68 = .ok (.iload_n 1, 1) := by decide +kernel
theorem dX8_settle_69 : decode cX8_settle 69 = .ok (.iconst 3, 1) := by decide +kernel
theorem dX8_settle_70 : decode cX8_settle 70 = .ok (.invokevirtual 39, 3) := by decide +kernel
theorem dX8_settle_73 : decode cX8_settle 73 = .ok (.invokestatic 99, 3) := by decide +kernel
theorem dX8_settle_76 : decode cX8_settle 76 = .ok (.istore_n 2, 1) := by decide +kernel
theorem dX8_settle_77 : decode cX8_settle 77 = .ok (.aload_n 0, 1) := by decide +kernel
theorem dX8_settle_78 : decode cX8_settle 78 = .ok (.iload_n 1, 1) := by decide +kernel
theorem dX8_settle_79 : decode cX8_settle 79 = .ok (.invokevirtual 102, 3) := by decide +kernel
theorem dX8_settle_82 : decode cX8_settle 82 = .ok (.iload_n 2, 1) := by decide +kernel
theorem dX8_settle_83 : decode cX8_settle 83 = .ok (.ireturn, 1) := by decide +kernel
theorem dX8_isTakenBack_0 : decode cX8_isTakenBack 0 = .ok (.iconst 0, 1) := by decide +kernel
theorem dX8_isTakenBack_1 : decode cX8_isTakenBack 1 = .ok (.istore_n 2, 1) := by decide +kernel
theorem dX8_isTakenBack_2 : decode cX8_isTakenBack 2 = .ok (.aload_n 0, 1) := by decide +kernel
theorem dX8_isTakenBack_3 : decode cX8_isTakenBack 3 = .ok (.getfield 7, 3) := by decide +kernel
theorem dX8_isTakenBack_6 : decode cX8_isTakenBack 6 = .ok (.iconst 0, 1) := by decide +kernel
theorem dX8_isTakenBack_7 : decode cX8_isTakenBack 7 = .ok (.iaload, 1) := by decide +kernel
theorem dX8_isTakenBack_8 : decode cX8_isTakenBack 8 = .ok (.istore_n 3, 1) := by decide +kernel
theorem dX8_isTakenBack_9 : decode cX8_isTakenBack 9 = .ok (.iload_n 3, 1) := by decide +kernel
theorem dX8_isTakenBack_10 : decode cX8_isTakenBack 10 = .ok (.aload_n 0, 1) := by decide +kernel
theorem dX8_isTakenBack_11 : decode cX8_isTakenBack 11 = .ok (.invokevirtual 50, 3) := by decide +kernel
theorem dX8_isTakenBack_14 : decode cX8_isTakenBack 14 = .ok (.if_icmp .gt 39, 3) := by decide +kernel
theorem dX8_isTakenBack_17 : decode cX8_isTakenBack 17 = .ok (.iload_n 2, 1) := by decide +kernel
theorem dX8_isTakenBack_18 : decode cX8_isTakenBack 18 = .ok (.ifCond .ne 23, 3) := by decide +kernel
theorem dX8_isTakenBack_21 : decode cX8_isTakenBack 21 = .ok (.aload_n 0, 1) := by decide +kernel
theorem dX8_isTakenBack_22 : decode cX8_isTakenBack 22 = .ok (.iload_n 3, 1) := by decide +kernel
theorem dX8_isTakenBack_23 : decode cX8_isTakenBack 23 = .ok (.iconst 0, 1) := by decide +kernel
theorem dX8_isTakenBack_24 : decode cX8_isTakenBack 24 = .ok (.invokevirtual 106, 3) := by decide +kernel
theorem dX8_isTakenBack_27 : decode cX8_isTakenBack 27 = .ok (.iconst 3, 1) := by decide +kernel
theorem dX8_isTakenBack_28 : decode cX8_isTakenBack 28 = .ok (.if_icmp .ne 17, 3) := by decide +kernel
theorem dX8_isTakenBack_31 : decode cX8_isTakenBack 31 = .ok (.aload_n 0, 1) := by decide +kernel
theorem dX8_isTakenBack_32 : decode cX8_isTakenBack 32 = .ok (.iload_n 3, 1) := by decide +kernel
theorem dX8_isTakenBack_33 : decode cX8_isTakenBack 33 = .ok (.iconst 5, 1) := by decide +kernel
theorem dX8_isTakenBack_34 : decode cX8_isTakenBack 34 = .ok (.invokevirtual 106, 3) := by decide +kernel
theorem dX8_isTakenBack_37 : decode cX8_isTakenBack 37 = .ok (.iload_n 1, 1) := by decide +kernel
theorem dX8_isTakenBack_38 : decode cX8_isTakenBack 38 = .ok (.if_icmp .ne 7, 3) := by decide +kernel
theorem dX8_isTakenBack_41 : decode cX8_isTakenBack 41 = .ok (.iconst 1, 1) := by decide +kernel
theorem dX8_isTakenBack_42 : decode cX8_isTakenBack 42 = .ok (.goto 4, 3) := by decide +kernel
theorem dX8_isTakenBack_45 : decode cX8_isTakenBack 45 = .ok (.iconst 0, 1) := by decide +kernel
theorem dX8_isTakenBack_46 : decode cX8_isTakenBack 46 = .ok (.istore_n 2, 1) := by decide +kernel
theorem dX8_isTakenBack_47 : decode cX8_isTakenBack 47 = .ok (.iinc 3 1, 3) := by decide +kernel
theorem dX8_isTakenBack_50 : decode cX8_isTakenBack 50 = .ok (.goto (-41), 3) := by decide +kernel
theorem dX8_isTakenBack_53 : decode cX8_isTakenBack 53 = .ok (.iload_n 2, 1) := by decide +kernel
theorem dX8_isTakenBack_54 : decode cX8_isTakenBack 54 = .ok (.ireturn, 1) := by decide +kernel
theorem dX8_takes_0 : decode cX8_takes 0 = .ok (.iload_n 1, 1) := by decide +kernel
theorem dX8_takes_1 : decode cX8_takes 1 = .ok (.istore_n 2, 1) := by decide +kernel
theorem dX8_takes_2 : decode cX8_takes 2 = .ok (.iconst 0, 1) := by decide +kernel
theorem dX8_takes_3 : decode cX8_takes 3 = .ok (.istore_n 3, 1) := by decide +kernel
theorem dX8_takes_4 : decode cX8_takes 4 = .ok (.aload_n 0, 1) := by decide +kernel
theorem dX8_takes_5 : decode cX8_takes 5 = .ok (.invokevirtual 50, 3) := by decide +kernel
theorem dX8_takes_8 : decode cX8_takes 8 = .ok (.istore 4, 2) := by decide +kernel
theorem dX8_takes_10 : decode cX8_takes 10 = .ok (.iload 4, 2) := by decide +kernel
theorem dX8_takes_12 : decode cX8_takes 12 = .ok (.aload_n 0, 1) := by decide +kernel
theorem dX8_takes_13 : decode cX8_takes 13 = .ok (.getfield 7, 3) := by decide +kernel
theorem dX8_takes_16 : decode cX8_takes 16 = .ok (.iconst 0, 1) := by decide +kernel
theorem dX8_takes_17 : decode cX8_takes 17 = .ok (.iaload, 1) := by decide +kernel
theorem dX8_takes_18 : decode cX8_takes 18 = .ok (.if_icmp .lt 154, 3) := by decide +kernel
theorem dX8_takes_21 : decode cX8_takes 21 = .ok (.iload_n 2, 1) := by decide +kernel
theorem dX8_takes_22 : decode cX8_takes 22 = .ok (.ifCond .le 150, 3) := by decide +kernel
theorem dX8_takes_25 : decode cX8_takes 25 = .ok (.aload_n 0, 1) := by decide +kernel
theorem dX8_takes_26 : decode cX8_takes 26 = .ok (.iload 4, 2) := by decide +kernel
theorem dX8_takes_28 : decode cX8_takes 28 = .ok (.iconst 1, 1) := by decide +kernel
theorem dX8_takes_29 : decode cX8_takes 29 = .ok (.invokevirtual 106, 3) := by decide +kernel
theorem dX8_takes_32 : decode cX8_takes 32 = .ok (.istore 5, 2) := by decide +kernel
theorem dX8_takes_34 : decode cX8_takes 34 = .ok (.aload_n 0, 1) := by decide +kernel
theorem dX8_takes_35 : decode cX8_takes 35 = .ok (.iload 4, 2) := by decide +kernel
theorem dX8_takes_37 : decode cX8_takes 37 = .ok (.iconst 0, 1) := by decide +kernel
theorem dX8_takes_38 : decode cX8_takes 38 = .ok (.invokevirtual 106, 3) := by decide +kernel
theorem dX8_takes_41 : decode cX8_takes 41 = .ok (.iconst 2, 1) := by decide +kernel
theorem dX8_takes_42 : decode cX8_takes 42 = .ok (.if_icmp .ge 17, 3) := by decide +kernel
theorem dX8_takes_45 : decode cX8_takes 45 = .ok (.iload_n 2, 1) := by decide +kernel
theorem dX8_takes_46 : decode cX8_takes 46 = .ok (.iload 5, 2) := by decide +kernel
theorem dX8_takes_48 : decode cX8_takes 48 = .ok (.ishr, 1) := by decide +kernel
theorem dX8_takes_49 : decode cX8_takes 49 = .ok (.iconst 1, 1) := by decide +kernel
theorem dX8_takes_50 : decode cX8_takes 50 = .ok (.iand, 1) := by decide +kernel
theorem dX8_takes_51 : decode cX8_takes 51 = .ok (.iconst 1, 1) := by decide +kernel
theorem dX8_takes_52 : decode cX8_takes 52 = .ok (.if_icmp .ne 7, 3) := by decide +kernel
theorem dX8_takes_55 : decode cX8_takes 55 = .ok (.iconst 1, 1) := by decide +kernel
theorem dX8_takes_56 : decode cX8_takes 56 = .ok (.goto 4, 3) := by decide +kernel
theorem dX8_takes_59 : decode cX8_takes 59 = .ok (.iconst 0, 1) := by decide +kernel
theorem dX8_takes_60 : decode cX8_takes 60 = .ok (.istore 6, 2) := by decide +kernel
theorem dX8_takes_62 : decode cX8_takes 62 = .ok (.iload 6, 2) := by decide +kernel
theorem dX8_takes_64 : decode cX8_takes 64 = .ok (.ifCond .eq 39, 3) := by decide +kernel
theorem dX8_takes_67 : decode cX8_takes 67 = .ok (.aload_n 0, 1) := by decide +kernel
theorem dX8_takes_68 : decode cX8_takes 68 = .ok (.iload 4, 2) := by decide +kernel
theorem dX8_takes_70 : decode cX8_takes 70 = .ok (.iconst 0, 1) := by decide +kernel
theorem dX8_takes_71 : decode cX8_takes 71 = .ok (.invokevirtual 106, 3) := by decide +kernel
theorem dX8_takes_74 : decode cX8_takes 74 = .ok (.ifCond .ne 29, 3) := by decide +kernel
theorem dX8_takes_77 : decode cX8_takes 77 = .ok (.aload_n 0, 1) := by decide +kernel
theorem dX8_takes_78 : decode cX8_takes 78 = .ok (.iconst 4, 1) := by decide +kernel
theorem dX8_takes_79 : decode cX8_takes 79 = .ok (.iload 5, 2) := by decide +kernel
theorem dX8_takes_81 : decode cX8_takes 81 = .ok (.ldc 62, 2) := by decide +kernel
theorem dX8_takes_83 : decode cX8_takes 83 = .ok (.ldc 62, 2) := by decide +kernel
theorem dX8_takes_85 : decode cX8_takes 85 = .ok (.ldc 62, 2) := by decide +kernel
theorem dX8_takes_87 : decode cX8_takes 87 = .ok (.ldc 62, 2) := by decide +kernel
theorem dX8_takes_89 : decode cX8_takes 89 = .ok (.invokevirtual 80, 3) := by decide +kernel
theorem dX8_takes_92 : decode cX8_takes 92 = .ok (.pop, 1) := by decide +kernel
theorem dX8_takes_93 : decode cX8_takes 93 = .ok (.iload_n 2, 1) := by decide +kernel
theorem dX8_takes_94 : decode cX8_takes 94 = .ok (.iconst 1, 1) := by decide +kernel
theorem dX8_takes_95 : decode cX8_takes 95 = .ok (.iload 5, 2) := by decide +kernel
theorem dX8_takes_97 : decode cX8_takes 97 = .ok (.ishl, 1) := by decide +kernel
theorem dX8_takes_98 : decode cX8_takes 98 = .ok (.isub, 1) := by decide +kernel
theorem dX8_takes_99 : decode cX8_takes 99 = .ok (.istore_n 2, 1) := by decide +kernel
theorem dX8_takes_100 : decode cX8_takes 100 = .ok (.goto 66, 3) := by decide +kernel
theorem dX8_takes_103 : decode cX8_takes 103 = .ok (.iload 6, 2) := by decide +kernel
theorem dX8_takes_105 : decode cX8_takes 105 = .ok (.ifCond .eq 61, 3) := by decide +kernel
theorem dX8_takes_108 : decode cX8_takes 108 = .ok (.aload_n 0, 1) := by decide +kernel
theorem dX8_takes_109 : decode cX8_takes 109 = .ok (.iload 4, 2) := by decide +kernel
theorem dX8_takes_111 : decode cX8_takes 111 = .ok (.invokevirtual 109, 3) := by decide +kernel
theorem dX8_takes_114 : decode cX8_takes 114 = .ok (.ifCond .ne 52, 3) := by decide +kernel
theorem dX8_takes_117 : decode cX8_takes 117 = .ok (.aload_n 0, 1) := by decide +kernel
theorem dX8_takes_118 : decode cX8_takes 118 = .ok (.iload 4, 2) := by decide +kernel
theorem dX8_takes_120 : decode cX8_takes 120 = .ok (.iconst 2, 1) := by decide +kernel
theorem dX8_takes_121 : decode cX8_takes 121 = .ok (.invokevirtual 106, 3) := by decide +kernel
theorem dX8_takes_124 : decode cX8_takes 124 = .ok (.istore 7, 2) := by decide +kernel
theorem dX8_takes_126 : decode cX8_takes 126 = .ok (.aload_n 0, 1) := by decide +kernel
theorem dX8_takes_127 : decode cX8_takes 127 = .ok (.iload 7, 2) := by decide +kernel
theorem dX8_takes_129 : decode cX8_takes 129 = .ok (.aload_n 0, 1) := by decide +kernel
theorem dX8_takes_130 : decode cX8_takes 130 = .ok (.iload 4, 2) := by decide +kernel
theorem dX8_takes_132 : decode cX8_takes 132 = .ok (.iconst 3, 1) := by decide +kernel
theorem dX8_takes_133 : decode cX8_takes 133 = .ok (.invokevirtual 106, 3) := by decide +kernel
theorem dX8_takes_136 : decode cX8_takes 136 = .ok (.aload_n 0, 1) := by decide +kernel
theorem dX8_takes_137 : decode cX8_takes 137 = .ok (.iconst 3, 1) := by decide +kernel
theorem dX8_takes_138 : decode cX8_takes 138 = .ok (.iload 5, 2) := by decide +kernel
theorem dX8_takes_140 : decode cX8_takes 140 = .ok (.iload 7, 2) := by decide +kernel
theorem dX8_takes_142 : decode cX8_takes 142 = .ok (.aload_n 0, 1) := by decide +kernel
theorem dX8_takes_143 : decode cX8_takes 143 = .ok (.iload 7, 2) := by decide +kernel
theorem dX8_takes_145 : decode cX8_takes 145 = .ok (.invokevirtual 90, 3) := by decide +kernel
theorem dX8_takes_148 : decode cX8_takes 148 = .ok (.aload_n 0, 1) := by decide +kernel
theorem dX8_takes_149 : decode cX8_takes 149 = .ok (.iload 4, 2) := by decide +kernel
theorem dX8_takes_151 : decode cX8_takes 151 = .ok (.iconst 3, 1) := by decide +kernel
theorem dX8_takes_152 : decode cX8_takes 152 = .ok (.invokevirtual 106, 3) := by decide +kernel
theorem dX8_takes_155 : decode cX8_takes 155 = .ok (.iload 4, 2) := by decide +kernel
theorem dX8_takes_157 : decode cX8_takes 157 = .ok (.invokevirtual 80, 3) := by decide +kernel
theorem dX8_takes_160 : decode cX8_takes 160 = .ok (.invokevirtual 93, 3) := by decide +kernel
theorem dX8_takes_163 : decode cX8_takes 163 = .ok (.iinc 3 1, 3) := by decide +kernel
theorem dX8_takes_166 : decode cX8_takes 166 = .ok (.iinc 4 (-1), 3) := by decide +kernel
theorem dX8_takes_169 : decode cX8_takes 169 = .ok (.goto (-159), 3) := by decide +kernel
theorem dX8_takes_172 : decode cX8_takes 172 = .ok (.iload_n 3, 1) := by decide +kernel
theorem dX8_takes_173 : decode cX8_takes 173 = .ok (.ireturn, 1) := by decide +kernel
theorem dX8_takeBack_0 : decode cX8_takeBack 0 = .ok (.iload_n 1, 1) := by decide +kernel
theorem dX8_takeBack_1 : decode cX8_takeBack 1 = .ok (.iconst 0, 1) := by decide +kernel
theorem dX8_takeBack_2 : decode cX8_takeBack 2 = .ok (.iconst 3, 1) := by decide +kernel
theorem dX8_takeBack_3 : decode cX8_takeBack 3 = .ok (.invokestatic 66, 3) := by decide +kernel
theorem dX8_takeBack_6 : decode cX8_takeBack 6 = .ok (.ifCond .ne 6, 3) := by decide +kernel
theorem dX8_takeBack_9 : decode cX8_takeBack 9 = .ok (.ldc 70, 2) := by decide +kernel
theorem dX8_takeBack_11 : decode cX8_takeBack 11 = .ok (.ireturn, 1) := by decide +kernel
theorem dX8_takeBack_12 : decode cX8_takeBack 12 = .ok (.aload_n 0, 1) := by decide +kernel
theorem dX8_takeBack_13 : decode cX8_takeBack 13 = .ok (.invokevirtual 71, 3) := by decide +kernel
theorem dX8_takeBack_16 : decode cX8_takeBack 16 = .ok (.ifCond .ne 11, 3) := by decide +kernel
theorem dX8_takeBack_19 : decode cX8_takeBack 19 = .ok (.aload_n 0, 1) := by decide +kernel
theorem dX8_takeBack_20 : decode cX8_takeBack 20 = .ok (.iload_n 1, 1) := by decide +kernel
theorem dX8_takeBack_21 : decode cX8_takeBack 21 = .ok (.invokevirtual 63, 3) := by decide +kernel
theorem dX8_takeBack_24 : decode cX8_takeBack 24 = .ok (.ifCond .ne 6, 3) := by decide +kernel
theorem dX8_takeBack_27 : decode cX8_takeBack 27 = .ok (.ldc 75, 2) := by decide +kernel
theorem dX8_takeBack_29 : decode cX8_takeBack 29 = .ok (.ireturn, 1) := by decide +kernel
theorem dX8_takeBack_30 : decode cX8_takeBack 30 = .ok (.aload_n 0, 1) := by decide +kernel
theorem dX8_takeBack_31 : decode cX8_takeBack 31 = .ok (.getfield 7, 3) := by decide +kernel
theorem dX8_takeBack_34 : decode cX8_takeBack 34 = .ok (.iconst 1, 1) := by decide +kernel
theorem dX8_takeBack_35 : decode cX8_takeBack 35 = .ok (.iaload, 1) := by decide +kernel
theorem dX8_takeBack_36 : decode cX8_takeBack 36 = .ok (.aload_n 0, 1) := by decide +kernel
theorem dX8_takeBack_37 : decode cX8_takeBack 37 = .ok (.iload_n 1, 1) := by decide +kernel
theorem dX8_takeBack_38 : decode cX8_takeBack 38 = .ok (.iconst 2, 1) := by decide +kernel
theorem dX8_takeBack_39 : decode cX8_takeBack 39 = .ok (.invokevirtual 39, 3) := by decide +kernel
theorem dX8_takeBack_42 : decode cX8_takeBack 42 = .ok (.iadd, 1) := by decide +kernel
theorem dX8_takeBack_43 : decode cX8_takeBack 43 = .ok (.iconst 1, 1) := by decide +kernel
theorem dX8_takeBack_44 : decode cX8_takeBack 44 = .ok (.iadd, 1) := by decide +kernel
theorem dX8_takeBack_45 : decode cX8_takeBack 45 = .ok (.bipush 60, 2) := by decide +kernel
theorem dX8_takeBack_47 : decode cX8_takeBack 47 = .ok (.if_icmp .le 6, 3) := by decide +kernel
theorem dX8_takeBack_50 : decode cX8_takeBack 50 = .ok (.ldc 76, 2) := by decide +kernel
theorem dX8_takeBack_52 : decode cX8_takeBack 52 = .ok (.ireturn, 1) := by decide +kernel
theorem dX8_takeBack_53 : decode cX8_takeBack 53 = .ok (.aload_n 0, 1) := by decide +kernel
theorem dX8_takeBack_54 : decode cX8_takeBack 54 = .ok (.invokevirtual 77, 3) := by decide +kernel
theorem dX8_takeBack_57 : decode cX8_takeBack 57 = .ok (.aload_n 0, 1) := by decide +kernel
theorem dX8_takeBack_58 : decode cX8_takeBack 58 = .ok (.iconst 1, 1) := by decide +kernel
theorem dX8_takeBack_59 : decode cX8_takeBack 59 = .ok (.iload_n 1, 1) := by decide +kernel
theorem dX8_takeBack_60 : decode cX8_takeBack 60 = .ok (.ishl, 1) := by decide +kernel
theorem dX8_takeBack_61 : decode cX8_takeBack 61 = .ok (.invokevirtual 112, 3) := by decide +kernel
theorem dX8_takeBack_64 : decode cX8_takeBack 64 = .ok (.istore_n 2, 1) := by decide +kernel
theorem dX8_takeBack_65 : decode cX8_takeBack 65 = .ok (.aload_n 0, 1) := by decide +kernel
theorem dX8_takeBack_66 : decode cX8_takeBack 66 = .ok (.iload_n 1, 1) := by decide +kernel
theorem dX8_takeBack_67 : decode cX8_takeBack 67 = .ok (.invokevirtual 102, 3) := by decide +kernel
theorem dX8_takeBack_70 : decode cX8_takeBack 70 = .ok (.iload_n 2, 1) := by decide +kernel
theorem dX8_takeBack_71 : decode cX8_takeBack 71 = .ok (.ireturn, 1) := by decide +kernel
theorem dX8_writeOut_0 : decode cX8_writeOut 0 = .ok (.iload_n 1, 1) := by decide +kernel
theorem dX8_writeOut_1 : decode cX8_writeOut 1 = .ok (.iconst 0, 1) := by decide +kernel
theorem dX8_writeOut_2 : decode cX8_writeOut 2 = .ok (.bipush 7, 2) := by decide +kernel
theorem dX8_writeOut_4 : decode cX8_writeOut 4 = .ok (.invokestatic 66, 3) := by decide +kernel
theorem dX8_writeOut_7 : decode cX8_writeOut 7 = .ok (.ifCond .ne 6, 3) := by decide +kernel
theorem dX8_writeOut_10 : decode cX8_writeOut 10 = .ok (.ldc 70, 2) := by decide +kernel
theorem dX8_writeOut_12 : decode cX8_writeOut 12 = .ok (.ireturn, 1) := by decide +kernel
theorem dX8_writeOut_13 : decode cX8_writeOut 13 = .ok (.aload_n 0, 1) := by decide +kernel
theorem dX8_writeOut_14 : decode cX8_writeOut 14 = .ok (.invokevirtual 71, 3) := by decide +kernel
theorem dX8_writeOut_17 : decode cX8_writeOut 17 = .ok (.ifCond .ne 11, 3) := by decide +kernel
theorem dX8_writeOut_20 : decode cX8_writeOut 20 = .ok (.aload_n 0, 1) := by decide +kernel
theorem dX8_writeOut_21 : decode cX8_writeOut 21 = .ok (.iload_n 1, 1) := by decide +kernel
theorem dX8_writeOut_22 : decode cX8_writeOut 22 = .ok (.invokevirtual 54, 3) := by decide +kernel
theorem dX8_writeOut_25 : decode cX8_writeOut 25 = .ok (.ifCond .ne 6, 3) := by decide +kernel
theorem dX8_writeOut_28 : decode cX8_writeOut 28 = .ok (.ldc 75, 2) := by decide +kernel
theorem dX8_writeOut_30 : decode cX8_writeOut 30 = .ok (.ireturn, 1) := by decide +kernel
theorem dX8_writeOut_31 : decode cX8_writeOut 31 = .ok (.aload_n 0, 1) := by decide +kernel
theorem dX8_writeOut_32 : decode cX8_writeOut 32 = .ok (.invokevirtual 77, 3) := by decide +kernel
theorem dX8_writeOut_35 : decode cX8_writeOut 35 = .ok (.aload_n 0, 1) := by decide +kernel
theorem dX8_writeOut_36 : decode cX8_writeOut 36 = .ok (.aload_n 0, 1) := by decide +kernel
theorem dX8_writeOut_37 : decode cX8_writeOut 37 = .ok (.iload_n 1, 1) := by decide +kernel
theorem dX8_writeOut_38 : decode cX8_writeOut 38 = .ok (.invokevirtual 46, 3) := by decide +kernel
theorem dX8_writeOut_41 : decode cX8_writeOut 41 = .ok (.invokevirtual 96, 3) := by decide +kernel
theorem dX8_writeOut_44 : decode cX8_writeOut 44 = .ok (.istore_n 2, 1) := by decide +kernel
theorem dX8_writeOut_45 : decode cX8_writeOut 45 = .ok (.aload_n 0, 1) := by decide +kernel
theorem dX8_writeOut_46 : decode cX8_writeOut 46 = .ok (.iload_n 1, 1) := by decide +kernel
theorem dX8_writeOut_47 : decode cX8_writeOut 47 = .ok (.iconst 0, 1) := by decide +kernel
theorem dX8_writeOut_48 : decode cX8_writeOut 48 = .ok (.aload_n 0, 1) := by decide +kernel
theorem dX8_writeOut_49 : decode cX8_writeOut 49 = .ok (.iload_n 1, 1) := by decide +kernel
theorem dX8_writeOut_50 : decode cX8_writeOut 50 = .ok (.iconst 3, 1) := by decide +kernel
theorem dX8_writeOut_51 : decode cX8_writeOut 51 = .ok (.invokevirtual 43, 3) := by decide +kernel
theorem dX8_writeOut_54 : decode cX8_writeOut 54 = .ok (.invokevirtual 58, 3) := by decide +kernel
theorem dX8_writeOut_57 : decode cX8_writeOut 57 = .ok (.aload_n 0, 1) := by decide +kernel
theorem dX8_writeOut_58 : decode cX8_writeOut 58 = .ok (.iload_n 1, 1) := by decide +kernel
theorem dX8_writeOut_59 : decode cX8_writeOut 59 = .ok (.iconst 1, 1) := by decide +kernel
theorem dX8_writeOut_60 : decode cX8_writeOut 60 = .ok (.aload_n 0, 1) := by decide +kernel
theorem dX8_writeOut_61 : decode cX8_writeOut 61 = .ok (.iload_n 1, 1) := by decide +kernel
theorem dX8_writeOut_62 : decode cX8_writeOut 62 = .ok (.iconst 4, 1) := by decide +kernel
theorem dX8_writeOut_63 : decode cX8_writeOut 63 = .ok (.invokevirtual 43, 3) := by decide +kernel
theorem dX8_writeOut_66 : decode cX8_writeOut 66 = .ok (.invokevirtual 58, 3) := by decide +kernel
theorem dX8_writeOut_69 : decode cX8_writeOut 69 = .ok (.iload_n 2, 1) := by decide +kernel
theorem dX8_writeOut_70 : decode cX8_writeOut 70 = .ok (.ireturn, 1) := by decide +kernel
theorem dX8_pages_0 : decode cX8_pages 0 = .ok (.iconst 0, 1) := by decide +kernel
theorem dX8_pages_1 : decode cX8_pages 1 = .ok (.istore_n 2, 1) := by decide +kernel
theorem dX8_pages_2 : decode cX8_pages 2 = .ok (.iconst 0, 1) := by decide +kernel
theorem dX8_pages_3 : decode cX8_pages 3 = .ok (.istore_n 3, 1) := by decide +kernel
theorem dX8_pages_4 : decode cX8_pages 4 = .ok (.iload_n 3, 1) := by decide +kernel
theorem dX8_pages_5 : decode cX8_pages 5 = .ok (.bipush 8, 2) := by decide +kernel
theorem dX8_pages_7 : decode cX8_pages 7 = .ok (.if_icmp .ge 42, 3) := by decide +kernel
theorem dX8_pages_10 : decode cX8_pages 10 = .ok (.iload_n 2, 1) := by decide +kernel
theorem dX8_pages_11 : decode cX8_pages 11 = .ok (.iload_n 1, 1) := by decide +kernel
theorem dX8_pages_12 : decode cX8_pages 12 = .ok (.ifCond .ne 14, 3) := by decide +kernel
theorem dX8_pages_15 : decode cX8_pages 15 = .ok (.aload_n 0, 1) := by decide +kernel
theorem dX8_pages_16 : decode cX8_pages 16 = .ok (.iload_n 3, 1) := by decide +kernel
theorem dX8_pages_17 : decode cX8_pages 17 = .ok (.iconst 2, 1) := by decide +kernel
theorem dX8_pages_18 : decode cX8_pages 18 = .ok (.invokevirtual 43, 3) := by decide +kernel
theorem dX8_pages_21 : decode cX8_pages 21 = .ok (.iload_n 3, 1) := by decide +kernel
theorem dX8_pages_22 : decode cX8_pages 22 = .ok (.ishl, 1) := by decide +kernel
theorem dX8_pages_23 : decode cX8_pages 23 = .ok (.goto 18, 3) := by decide +kernel
theorem dX8_pages_26 : decode cX8_pages 26 = .ok (.aload_n 0, 1) := by decide +kernel
theorem dX8_pages_27 : decode cX8_pages 27 = .ok (.iload_n 3, 1) := by decide +kernel
theorem dX8_pages_28 : decode cX8_pages 28 = .ok (.invokevirtual 54, 3) := by decide +kernel
theorem dX8_pages_31 : decode cX8_pages 31 = .ok (.ifCond .eq 9, 3) := by decide +kernel
theorem dX8_pages_34 : decode cX8_pages 34 = .ok (.iconst 1, 1) := by decide +kernel
theorem dX8_pages_35 : decode cX8_pages 35 = .ok (.iload_n 3, 1) := by decide +kernel
theorem dX8_pages_36 : decode cX8_pages 36 = .ok (.ishl, 1) := by decide +kernel
theorem dX8_pages_37 : decode cX8_pages 37 = .ok (.goto 4, 3) := by decide +kernel
theorem dX8_pages_40 : decode cX8_pages 40 = .ok (.iconst 0, 1) := by decide +kernel
theorem dX8_pages_41 : decode cX8_pages 41 = .ok (.ior, 1) := by decide +kernel
theorem dX8_pages_42 : decode cX8_pages 42 = .ok (.istore_n 2, 1) := by decide +kernel
theorem dX8_pages_43 : decode cX8_pages 43 = .ok (.iinc 3 1, 3) := by decide +kernel
theorem dX8_pages_46 : decode cX8_pages 46 = .ok (.goto (-42), 3) := by decide +kernel
theorem dX8_pages_49 : decode cX8_pages 49 = .ok (.iload_n 2, 1) := by decide +kernel
theorem dX8_pages_50 : decode cX8_pages 50 = .ok (.ireturn, 1) := by decide +kernel
theorem dX8_dropOut_0 : decode cX8_dropOut 0 = .ok (.iload_n 1, 1) := by decide +kernel
theorem dX8_dropOut_1 : decode cX8_dropOut 1 = .ok (.iconst 0, 1) := by decide +kernel
theorem dX8_dropOut_2 : decode cX8_dropOut 2 = .ok (.bipush 7, 2) := by decide +kernel
theorem dX8_dropOut_4 : decode cX8_dropOut 4 = .ok (.invokestatic 66, 3) := by decide +kernel
theorem dX8_dropOut_7 : decode cX8_dropOut 7 = .ok (.ifCond .ne 6, 3) := by decide +kernel
theorem dX8_dropOut_10 : decode cX8_dropOut 10 = .ok (.ldc 70, 2) := by decide +kernel
theorem dX8_dropOut_12 : decode cX8_dropOut 12 = .ok (.ireturn, 1) := by decide +kernel
theorem dX8_dropOut_13 : decode cX8_dropOut 13 = .ok (.aload_n 0, 1) := by decide +kernel
theorem dX8_dropOut_14 : decode cX8_dropOut 14 = .ok (.invokevirtual 71, 3) := by decide +kernel
theorem dX8_dropOut_17 : decode cX8_dropOut 17 = .ok (.ifCond .ne 20, 3) := by decide +kernel
theorem dX8_dropOut_20 : decode cX8_dropOut 20 = .ok (.aload_n 0, 1) := by decide +kernel
theorem dX8_dropOut_21 : decode cX8_dropOut 21 = .ok (.iload_n 1, 1) := by decide +kernel
theorem dX8_dropOut_22 : decode cX8_dropOut 22 = .ok (.iconst 2, 1) := by decide +kernel
theorem dX8_dropOut_23 : decode cX8_dropOut 23 = .ok (.invokevirtual 43, 3) := by decide +kernel
theorem dX8_dropOut_26 : decode cX8_dropOut 26 = .ok (.ifCond .eq 11, 3) := by decide +kernel
theorem dX8_dropOut_29 : decode cX8_dropOut 29 = .ok (.aload_n 0, 1) := by decide +kernel
theorem dX8_dropOut_30 : decode cX8_dropOut 30 = .ok (.iload_n 1, 1) := by decide +kernel
theorem dX8_dropOut_31 : decode cX8_dropOut 31 = .ok (.invokevirtual 54, 3) := by decide +kernel
theorem dX8_dropOut_34 : decode cX8_dropOut 34 = .ok (.ifCond .eq 6, 3) := by decide +kernel
theorem dX8_dropOut_37 : decode cX8_dropOut 37 = .ok (.ldc 75, 2) := by decide +kernel
theorem dX8_dropOut_39 : decode cX8_dropOut 39 = .ok (.ireturn, 1) := by decide +kernel
theorem dX8_dropOut_40 : decode cX8_dropOut 40 = .ok (.aload_n 0, 1) := by decide +kernel
theorem dX8_dropOut_41 : decode cX8_dropOut 41 = .ok (.invokevirtual 77, 3) := by decide +kernel
theorem dX8_dropOut_44 : decode cX8_dropOut 44 = .ok (.aload_n 0, 1) := by decide +kernel
theorem dX8_dropOut_45 : decode cX8_dropOut 45 = .ok (.iload_n 1, 1) := by decide +kernel
theorem dX8_dropOut_46 : decode cX8_dropOut 46 = .ok (.iconst 2, 1) := by decide +kernel
theorem dX8_dropOut_47 : decode cX8_dropOut 47 = .ok (.iconst 0, 1) := by decide +kernel
theorem dX8_dropOut_48 : decode cX8_dropOut 48 = .ok (.invokevirtual 58, 3) := by decide +kernel
theorem dX8_dropOut_51 : decode cX8_dropOut 51 = .ok (.aload_n 0, 1) := by decide +kernel
theorem dX8_dropOut_52 : decode cX8_dropOut 52 = .ok (.iconst 0, 1) := by decide +kernel
theorem dX8_dropOut_53 : decode cX8_dropOut 53 = .ok (.invokevirtual 115, 3) := by decide +kernel
theorem dX8_dropOut_56 : decode cX8_dropOut 56 = .ok (.invokestatic 99, 3) := by decide +kernel
theorem dX8_dropOut_59 : decode cX8_dropOut 59 = .ok (.ireturn, 1) := by decide +kernel
theorem dX8_openSet_0 : decode cX8_openSet 0 = .ok (.iconst 0, 1) := by decide +kernel
theorem dX8_openSet_1 : decode cX8_openSet 1 = .ok (.istore_n 1, 1) := by decide +kernel
theorem dX8_openSet_2 : decode cX8_openSet 2 = .ok (.iconst 0, 1) := by decide +kernel
theorem dX8_openSet_3 : decode cX8_openSet 3 = .ok (.istore_n 2, 1) := by decide +kernel
theorem dX8_openSet_4 : decode cX8_openSet 4 = .ok (.iload_n 2, 1) := by decide +kernel
theorem dX8_openSet_5 : decode cX8_openSet 5 = .ok (.iconst 4, 1) := by decide +kernel
theorem dX8_openSet_6 : decode cX8_openSet 6 = .ok (.if_icmp .ge 20, 3) := by decide +kernel
theorem dX8_openSet_9 : decode cX8_openSet 9 = .ok (.iload_n 1, 1) := by decide +kernel
theorem dX8_openSet_10 : decode cX8_openSet 10 = .ok (.aload_n 0, 1) := by decide +kernel
theorem dX8_openSet_11 : decode cX8_openSet 11 = .ok (.iload_n 2, 1) := by decide +kernel
theorem dX8_openSet_12 : decode cX8_openSet 12 = .ok (.iconst 0, 1) := by decide +kernel
theorem dX8_openSet_13 : decode cX8_openSet 13 = .ok (.invokevirtual 39, 3) := by decide +kernel
theorem dX8_openSet_16 : decode cX8_openSet 16 = .ok (.iload_n 2, 1) := by decide +kernel
theorem dX8_openSet_17 : decode cX8_openSet 17 = .ok (.ishl, 1) := by decide +kernel
theorem dX8_openSet_18 : decode cX8_openSet 18 = .ok (.ior, 1) := by decide +kernel
theorem dX8_openSet_19 : decode cX8_openSet 19 = .ok (.istore_n 1, 1) := by decide +kernel
theorem dX8_openSet_20 : decode cX8_openSet 20 = .ok (.iinc 2 1, 3) := by decide +kernel
theorem dX8_openSet_23 : decode cX8_openSet 23 = .ok (.goto (-19), 3) := by decide +kernel
theorem dX8_openSet_26 : decode cX8_openSet 26 = .ok (.iload_n 1, 1) := by decide +kernel
theorem dX8_openSet_27 : decode cX8_openSet 27 = .ok (.ireturn, 1) := by decide +kernel
theorem dX8_checkpoint_0 : decode cX8_checkpoint 0 = .ok (.aload_n 0, 1) := by decide +kernel
theorem dX8_checkpoint_1 : decode cX8_checkpoint 1 = .ok (.invokevirtual 71, 3) := by decide +kernel
theorem dX8_checkpoint_4 : decode cX8_checkpoint 4 = .ok (.ifCond .eq 6, 3) := by decide +kernel
theorem dX8_checkpoint_7 : decode cX8_checkpoint 7 = .ok (.ldc 75, 2) := by decide +kernel
theorem dX8_checkpoint_9 : decode cX8_checkpoint 9 = .ok (.ireturn, 1) := by decide +kernel
theorem dX8_checkpoint_10 : decode cX8_checkpoint 10 = .ok (.aload_n 0, 1) := by decide +kernel
theorem dX8_checkpoint_11 : decode cX8_checkpoint 11 = .ok (.getfield 7, 3) := by decide +kernel
theorem dX8_checkpoint_14 : decode cX8_checkpoint 14 = .ok (.iconst 1, 1) := by decide +kernel
theorem dX8_checkpoint_15 : decode cX8_checkpoint 15 = .ok (.iaload, 1) := by decide +kernel
theorem dX8_checkpoint_16 : decode cX8_checkpoint 16 = .ok (.bipush 60, 2) := by decide +kernel
theorem dX8_checkpoint_18 : decode cX8_checkpoint 18 = .ok (.if_icmp .lt 6, 3) := by decide +kernel
theorem dX8_checkpoint_21 : decode cX8_checkpoint 21 = .ok (.ldc 76, 2) := by decide +kernel
theorem dX8_checkpoint_23 : decode cX8_checkpoint 23 = .ok (.ireturn, 1) := by decide +kernel
theorem dX8_checkpoint_24 : decode cX8_checkpoint 24 = .ok (.aload_n 0, 1) := by decide +kernel
theorem dX8_checkpoint_25 : decode cX8_checkpoint 25 = .ok (.invokevirtual 77, 3) := by decide +kernel
theorem dX8_checkpoint_28 : decode cX8_checkpoint 28 = .ok (.aload_n 0, 1) := by decide +kernel
theorem dX8_checkpoint_29 : decode cX8_checkpoint 29 = .ok (.iconst 5, 1) := by decide +kernel
theorem dX8_checkpoint_30 : decode cX8_checkpoint 30 = .ok (.ldc 62, 2) := by decide +kernel
theorem dX8_checkpoint_32 : decode cX8_checkpoint 32 = .ok (.ldc 62, 2) := by decide +kernel
theorem dX8_checkpoint_34 : decode cX8_checkpoint 34 = .ok (.ldc 62, 2) := by decide +kernel
theorem dX8_checkpoint_36 : decode cX8_checkpoint 36 = .ok (.ldc 62, 2) := by decide +kernel
theorem dX8_checkpoint_38 : decode cX8_checkpoint 38 = .ok (.ldc 62, 2) := by decide +kernel
theorem dX8_checkpoint_40 : decode cX8_checkpoint 40 = .ok (.invokevirtual 80, 3) := by decide +kernel
theorem dX8_checkpoint_43 : decode cX8_checkpoint 43 = .ok (.istore_n 1, 1) := by decide +kernel
theorem dX8_checkpoint_44 : decode cX8_checkpoint 44 = .ok (.bipush 69, 2) := by decide +kernel
theorem dX8_checkpoint_46 : decode cX8_checkpoint 46 = .ok (.bipush 16, 2) := by decide +kernel
theorem dX8_checkpoint_48 : decode cX8_checkpoint 48 = .ok (.iload_n 1, 1) := by decide +kernel
theorem dX8_checkpoint_49 : decode cX8_checkpoint 49 = .ok (.aload_n 0, 1) := by decide +kernel
theorem dX8_checkpoint_50 : decode cX8_checkpoint 50 = .ok (.getfield 7, 3) := by decide +kernel
theorem dX8_checkpoint_53 : decode cX8_checkpoint 53 = .ok (.iconst 0, 1) := by decide +kernel
theorem dX8_checkpoint_54 : decode cX8_checkpoint 54 = .ok (.iaload, 1) := by decide +kernel
theorem dX8_checkpoint_55 : decode cX8_checkpoint 55 = .ok (.isub, 1) := by decide +kernel
theorem dX8_checkpoint_56 : decode cX8_checkpoint 56 = .ok (.imul, 1) := by decide +kernel
theorem dX8_checkpoint_57 : decode cX8_checkpoint 57 = .ok (.iadd, 1) := by decide +kernel
theorem dX8_checkpoint_58 : decode cX8_checkpoint 58 = .ok (.istore_n 2, 1) := by decide +kernel
theorem dX8_checkpoint_59 : decode cX8_checkpoint 59 = .ok (.aload_n 0, 1) := by decide +kernel
theorem dX8_checkpoint_60 : decode cX8_checkpoint 60 = .ok (.getfield 7, 3) := by decide +kernel
theorem dX8_checkpoint_63 : decode cX8_checkpoint 63 = .ok (.iload_n 2, 1) := by decide +kernel
theorem dX8_checkpoint_64 : decode cX8_checkpoint 64 = .ok (.bipush 6, 2) := by decide +kernel
end
section
theorem dX8_checkpoint_66 : decode cX8_checkpoint 66 = .ok (.iadd, 1) := by decide +kernel
theorem dX8_checkpoint_67 : decode cX8_checkpoint 67 = .ok (.aload_n 0, 1) := by decide +kernel
theorem dX8_checkpoint_68 : decode cX8_checkpoint 68 = .ok (.invokevirtual 118, 3) := by decide +kernel
theorem dX8_checkpoint_71 : decode cX8_checkpoint 71 = .ok (.iastore, 1) := by decide +kernel
theorem dX8_checkpoint_72 : decode cX8_checkpoint 72 = .ok (.aload_n 0, 1) := by decide +kernel
theorem dX8_checkpoint_73 : decode cX8_checkpoint 73 = .ok (.getfield 7, 3) := by decide +kernel
theorem dX8_checkpoint_76 : decode cX8_checkpoint 76 = .ok (.iload_n 2, 1) := by decide +kernel
theorem dX8_checkpoint_77 : decode cX8_checkpoint 77 = .ok (.bipush 7, 2) := by decide +kernel
theorem dX8_checkpoint_79 : decode cX8_checkpoint 79 = .ok (.iadd, 1) := by decide +kernel
theorem dX8_checkpoint_80 : decode cX8_checkpoint 80 = .ok (.aload_n 0, 1) := by decide +kernel
theorem dX8_checkpoint_81 : decode cX8_checkpoint 81 = .ok (.iconst 1, 1) := by decide +kernel
theorem dX8_checkpoint_82 : decode cX8_checkpoint 82 = .ok (.invokevirtual 115, 3) := by decide +kernel
theorem dX8_checkpoint_85 : decode cX8_checkpoint 85 = .ok (.iastore, 1) := by decide +kernel
theorem dX8_checkpoint_86 : decode cX8_checkpoint 86 = .ok (.iconst 0, 1) := by decide +kernel
theorem dX8_checkpoint_87 : decode cX8_checkpoint 87 = .ok (.istore_n 3, 1) := by decide +kernel
theorem dX8_checkpoint_88 : decode cX8_checkpoint 88 = .ok (.iload_n 3, 1) := by decide +kernel
theorem dX8_checkpoint_89 : decode cX8_checkpoint 89 = .ok (.bipush 8, 2) := by decide +kernel
theorem dX8_checkpoint_91 : decode cX8_checkpoint 91 = .ok (.if_icmp .ge 38, 3) := by decide +kernel
theorem dX8_checkpoint_94 : decode cX8_checkpoint 94 = .ok (.aload_n 0, 1) := by decide +kernel
theorem dX8_checkpoint_95 : decode cX8_checkpoint 95 = .ok (.getfield 7, 3) := by decide +kernel
theorem dX8_checkpoint_98 : decode cX8_checkpoint 98 = .ok (.iload_n 2, 1) := by decide +kernel
theorem dX8_checkpoint_99 : decode cX8_checkpoint 99 = .ok (.bipush 8, 2) := by decide +kernel
theorem dX8_checkpoint_101 : decode cX8_checkpoint 101 = .ok (.iadd, 1) := by decide +kernel
theorem dX8_checkpoint_102 : decode cX8_checkpoint 102 = .ok (.iload_n 3, 1) := by decide +kernel
theorem dX8_checkpoint_103 : decode cX8_checkpoint 103 = .ok (.iadd, 1) := by decide +kernel
theorem dX8_checkpoint_104 : decode cX8_checkpoint 104 = .ok (.aload_n 0, 1) := by decide +kernel
theorem dX8_checkpoint_105 : decode cX8_checkpoint 105 = .ok (.iload_n 3, 1) := by decide +kernel
theorem dX8_checkpoint_106 : decode cX8_checkpoint 106 = .ok (.invokevirtual 54, 3) := by decide +kernel
theorem dX8_checkpoint_109 : decode cX8_checkpoint 109 = .ok (.ifCond .eq 12, 3) := by decide +kernel
theorem dX8_checkpoint_112 : decode cX8_checkpoint 112 = .ok (.aload_n 0, 1) := by decide +kernel
theorem dX8_checkpoint_113 : decode cX8_checkpoint 113 = .ok (.iload_n 3, 1) := by decide +kernel
theorem dX8_checkpoint_114 : decode cX8_checkpoint 114 = .ok (.iconst 5, 1) := by decide +kernel
theorem dX8_checkpoint_115 : decode cX8_checkpoint 115 = .ok (.invokevirtual 43, 3) := by decide +kernel
theorem dX8_checkpoint_118 : decode cX8_checkpoint 118 = .ok (.goto 4, 3) := by decide +kernel
theorem dX8_checkpoint_121 : decode cX8_checkpoint 121 = .ok (.iconst 0, 1) := by decide +kernel
theorem dX8_checkpoint_122 : decode cX8_checkpoint 122 = .ok (.iastore, 1) := by decide +kernel
theorem dX8_checkpoint_123 : decode cX8_checkpoint 123 = .ok (.iinc 3 1, 3) := by decide +kernel
theorem dX8_checkpoint_126 : decode cX8_checkpoint 126 = .ok (.goto (-38), 3) := by decide +kernel
theorem dX8_checkpoint_129 : decode cX8_checkpoint 129 = .ok (.aload_n 0, 1) := by decide +kernel
theorem dX8_checkpoint_130 : decode cX8_checkpoint 130 = .ok (.iload_n 1, 1) := by decide +kernel
theorem dX8_checkpoint_131 : decode cX8_checkpoint 131 = .ok (.invokevirtual 96, 3) := by decide +kernel
theorem dX8_checkpoint_134 : decode cX8_checkpoint 134 = .ok (.pop, 1) := by decide +kernel
theorem dX8_checkpoint_135 : decode cX8_checkpoint 135 = .ok (.iload_n 1, 1) := by decide +kernel
theorem dX8_checkpoint_136 : decode cX8_checkpoint 136 = .ok (.ireturn, 1) := by decide +kernel
theorem dX8_latest_0 : decode cX8_latest 0 = .ok (.iconst 0, 1) := by decide +kernel
theorem dX8_latest_1 : decode cX8_latest 1 = .ok (.istore_n 1, 1) := by decide +kernel
theorem dX8_latest_2 : decode cX8_latest 2 = .ok (.aload_n 0, 1) := by decide +kernel
theorem dX8_latest_3 : decode cX8_latest 3 = .ok (.getfield 7, 3) := by decide +kernel
theorem dX8_latest_6 : decode cX8_latest 6 = .ok (.iconst 0, 1) := by decide +kernel
theorem dX8_latest_7 : decode cX8_latest 7 = .ok (.iaload, 1) := by decide +kernel
theorem dX8_latest_8 : decode cX8_latest 8 = .ok (.istore_n 2, 1) := by decide +kernel
theorem dX8_latest_9 : decode cX8_latest 9 = .ok (.iload_n 2, 1) := by decide +kernel
theorem dX8_latest_10 : decode cX8_latest 10 = .ok (.aload_n 0, 1) := by decide +kernel
theorem dX8_latest_11 : decode cX8_latest 11 = .ok (.invokevirtual 50, 3) := by decide +kernel
theorem dX8_latest_14 : decode cX8_latest 14 = .ok (.if_icmp .gt 25, 3) := by decide +kernel
theorem dX8_latest_17 : decode cX8_latest 17 = .ok (.aload_n 0, 1) := by decide +kernel
theorem dX8_latest_18 : decode cX8_latest 18 = .ok (.iload_n 2, 1) := by decide +kernel
theorem dX8_latest_19 : decode cX8_latest 19 = .ok (.iconst 0, 1) := by decide +kernel
theorem dX8_latest_20 : decode cX8_latest 20 = .ok (.invokevirtual 106, 3) := by decide +kernel
theorem dX8_latest_23 : decode cX8_latest 23 = .ok (.iconst 5, 1) := by decide +kernel
theorem dX8_latest_24 : decode cX8_latest 24 = .ok (.if_icmp .ne 7, 3) := by decide +kernel
theorem dX8_latest_27 : decode cX8_latest 27 = .ok (.iload_n 2, 1) := by decide +kernel
theorem dX8_latest_28 : decode cX8_latest 28 = .ok (.goto 4, 3) := by decide +kernel
theorem dX8_latest_31 : decode cX8_latest 31 = .ok (.iload_n 1, 1) := by decide +kernel
theorem dX8_latest_32 : decode cX8_latest 32 = .ok (.istore_n 1, 1) := by decide +kernel
theorem dX8_latest_33 : decode cX8_latest 33 = .ok (.iinc 2 1, 3) := by decide +kernel
theorem dX8_latest_36 : decode cX8_latest 36 = .ok (.goto (-27), 3) := by decide +kernel
theorem dX8_latest_39 : decode cX8_latest 39 = .ok (.iload_n 1, 1) := by decide +kernel
theorem dX8_latest_40 : decode cX8_latest 40 = .ok (.ireturn, 1) := by decide +kernel
theorem dX8_canDrop_0 : decode cX8_canDrop 0 = .ok (.aload_n 0, 1) := by decide +kernel
theorem dX8_canDrop_1 : decode cX8_canDrop 1 = .ok (.invokevirtual 121, 3) := by decide +kernel
theorem dX8_canDrop_4 : decode cX8_canDrop 4 = .ok (.istore_n 1, 1) := by decide +kernel
theorem dX8_canDrop_5 : decode cX8_canDrop 5 = .ok (.iload_n 1, 1) := by decide +kernel
theorem dX8_canDrop_6 : decode cX8_canDrop 6 = .ok (.ifCond .ne 5, 3) := by decide +kernel
theorem dX8_canDrop_9 : decode cX8_canDrop 9 = .ok (.iconst 0, 1) := by decide +kernel
theorem dX8_canDrop_10 : decode cX8_canDrop 10 = .ok (.ireturn, 1) := by decide +kernel
theorem dX8_canDrop_11 : decode cX8_canDrop 11 = .ok (.iload_n 1, 1) := by decide +kernel
theorem dX8_canDrop_12 : decode cX8_canDrop 12 = .ok (.istore_n 2, 1) := by decide +kernel
theorem dX8_canDrop_13 : decode cX8_canDrop 13 = .ok (.iconst 0, 1) := by decide +kernel
theorem dX8_canDrop_14 : decode cX8_canDrop 14 = .ok (.istore_n 3, 1) := by decide +kernel
theorem dX8_canDrop_15 : decode cX8_canDrop 15 = .ok (.iload_n 3, 1) := by decide +kernel
theorem dX8_canDrop_16 : decode cX8_canDrop 16 = .ok (.iconst 4, 1) := by decide +kernel
theorem dX8_canDrop_17 : decode cX8_canDrop 17 = .ok (.if_icmp .ge 90, 3) := by decide +kernel
theorem dX8_canDrop_20 : decode cX8_canDrop 20 = .ok (.iload_n 1, 1) := by decide +kernel
theorem dX8_canDrop_21 : decode cX8_canDrop 21 = .ok (.istore 4, 2) := by decide +kernel
theorem dX8_canDrop_23 : decode cX8_canDrop 23 = .ok (.aload_n 0, 1) := by decide +kernel
theorem dX8_canDrop_24 : decode cX8_canDrop 24 = .ok (.getfield 7, 3) := by decide +kernel
theorem dX8_canDrop_27 : decode cX8_canDrop 27 = .ok (.iconst 0, 1) := by decide +kernel
theorem dX8_canDrop_28 : decode cX8_canDrop 28 = .ok (.iaload, 1) := by decide +kernel
theorem dX8_canDrop_29 : decode cX8_canDrop 29 = .ok (.istore 5, 2) := by decide +kernel
theorem dX8_canDrop_31 : decode cX8_canDrop 31 = .ok (.iload 5, 2) := by decide +kernel
theorem dX8_canDrop_33 : decode cX8_canDrop 33 = .ok (.iload_n 1, 1) := by decide +kernel
theorem dX8_canDrop_34 : decode cX8_canDrop 34 = .ok (.if_icmp .ge 54, 3) := by decide +kernel
theorem dX8_canDrop_37 : decode cX8_canDrop 37 = .ok (.aload_n 0, 1) := by decide +kernel
theorem dX8_canDrop_38 : decode cX8_canDrop 38 = .ok (.iload_n 1, 1) := by decide +kernel
theorem dX8_canDrop_39 : decode cX8_canDrop 39 = .ok (.bipush 6, 2) := by decide +kernel
theorem dX8_canDrop_41 : decode cX8_canDrop 41 = .ok (.invokevirtual 106, 3) := by decide +kernel
theorem dX8_canDrop_44 : decode cX8_canDrop 44 = .ok (.iload_n 3, 1) := by decide +kernel
theorem dX8_canDrop_45 : decode cX8_canDrop 45 = .ok (.ishr, 1) := by decide +kernel
theorem dX8_canDrop_46 : decode cX8_canDrop 46 = .ok (.iconst 1, 1) := by decide +kernel
theorem dX8_canDrop_47 : decode cX8_canDrop 47 = .ok (.iand, 1) := by decide +kernel
theorem dX8_canDrop_48 : decode cX8_canDrop 48 = .ok (.iconst 1, 1) := by decide +kernel
theorem dX8_canDrop_49 : decode cX8_canDrop 49 = .ok (.if_icmp .ne 39, 3) := by decide +kernel
theorem dX8_canDrop_52 : decode cX8_canDrop 52 = .ok (.aload_n 0, 1) := by decide +kernel
theorem dX8_canDrop_53 : decode cX8_canDrop 53 = .ok (.iload 5, 2) := by decide +kernel
theorem dX8_canDrop_55 : decode cX8_canDrop 55 = .ok (.iconst 0, 1) := by decide +kernel
theorem dX8_canDrop_56 : decode cX8_canDrop 56 = .ok (.invokevirtual 106, 3) := by decide +kernel
theorem dX8_canDrop_59 : decode cX8_canDrop 59 = .ok (.ifCond .ne 19, 3) := by decide +kernel
theorem dX8_canDrop_62 : decode cX8_canDrop 62 = .ok (.aload_n 0, 1) := by decide +kernel
theorem dX8_canDrop_63 : decode cX8_canDrop 63 = .ok (.iload 5, 2) := by decide +kernel
theorem dX8_canDrop_65 : decode cX8_canDrop 65 = .ok (.iconst 1, 1) := by decide +kernel
theorem dX8_canDrop_66 : decode cX8_canDrop 66 = .ok (.invokevirtual 106, 3) := by decide +kernel
theorem dX8_canDrop_69 : decode cX8_canDrop 69 = .ok (.iload_n 3, 1) := by decide +kernel
theorem dX8_canDrop_70 : decode cX8_canDrop 70 = .ok (.if_icmp .ne 8, 3) := by decide +kernel
theorem dX8_canDrop_73 : decode cX8_canDrop 73 = .ok (.iload 5, 2) := by decide +kernel
theorem dX8_canDrop_75 : decode cX8_canDrop 75 = .ok (.goto 5, 3) := by decide +kernel
theorem dX8_canDrop_78 : decode cX8_canDrop 78 = .ok (.iload 4, 2) := by decide +kernel
theorem dX8_canDrop_80 : decode cX8_canDrop 80 = .ok (.istore 4, 2) := by decide +kernel
theorem dX8_canDrop_82 : decode cX8_canDrop 82 = .ok (.iinc 5 1, 3) := by decide +kernel
theorem dX8_canDrop_85 : decode cX8_canDrop 85 = .ok (.goto (-54), 3) := by decide +kernel
theorem dX8_canDrop_88 : decode cX8_canDrop 88 = .ok (.iload 4, 2) := by decide +kernel
theorem dX8_canDrop_90 : decode cX8_canDrop 90 = .ok (.iload_n 2, 1) := by decide +kernel
theorem dX8_canDrop_91 : decode cX8_canDrop 91 = .ok (.if_icmp .ge 8, 3) := by decide +kernel
theorem dX8_canDrop_94 : decode cX8_canDrop 94 = .ok (.iload 4, 2) := by decide +kernel
theorem dX8_canDrop_96 : decode cX8_canDrop 96 = .ok (.goto 4, 3) := by decide +kernel
theorem dX8_canDrop_99 : decode cX8_canDrop 99 = .ok (.iload_n 2, 1) := by decide +kernel
theorem dX8_canDrop_100 : decode cX8_canDrop 100 = .ok (.istore_n 2, 1) := by decide +kernel
theorem dX8_canDrop_101 : decode cX8_canDrop 101 = .ok (.iinc 3 1, 3) := by decide +kernel
theorem dX8_canDrop_104 : decode cX8_canDrop 104 = .ok (.goto (-89), 3) := by decide +kernel
theorem dX8_canDrop_107 : decode cX8_canDrop 107 = .ok (.iconst 0, 1) := by decide +kernel
theorem dX8_canDrop_108 : decode cX8_canDrop 108 = .ok (.istore_n 3, 1) := by decide +kernel
theorem dX8_canDrop_109 : decode cX8_canDrop 109 = .ok (.iload_n 3, 1) := by decide +kernel
theorem dX8_canDrop_110 : decode cX8_canDrop 110 = .ok (.bipush 8, 2) := by decide +kernel
theorem dX8_canDrop_112 : decode cX8_canDrop 112 = .ok (.if_icmp .ge 38, 3) := by decide +kernel
theorem dX8_canDrop_115 : decode cX8_canDrop 115 = .ok (.aload_n 0, 1) := by decide +kernel
theorem dX8_canDrop_116 : decode cX8_canDrop 116 = .ok (.iload_n 1, 1) := by decide +kernel
theorem dX8_canDrop_117 : decode cX8_canDrop 117 = .ok (.bipush 8, 2) := by decide +kernel
theorem dX8_canDrop_119 : decode cX8_canDrop 119 = .ok (.iload_n 3, 1) := by decide +kernel
theorem dX8_canDrop_120 : decode cX8_canDrop 120 = .ok (.iadd, 1) := by decide +kernel
theorem dX8_canDrop_121 : decode cX8_canDrop 121 = .ok (.invokevirtual 106, 3) := by decide +kernel
theorem dX8_canDrop_124 : decode cX8_canDrop 124 = .ok (.istore 4, 2) := by decide +kernel
theorem dX8_canDrop_126 : decode cX8_canDrop 126 = .ok (.iload 4, 2) := by decide +kernel
theorem dX8_canDrop_128 : decode cX8_canDrop 128 = .ok (.ifCond .le 14, 3) := by decide +kernel
theorem dX8_canDrop_131 : decode cX8_canDrop 131 = .ok (.iload 4, 2) := by decide +kernel
theorem dX8_canDrop_133 : decode cX8_canDrop 133 = .ok (.iload_n 2, 1) := by decide +kernel
theorem dX8_canDrop_134 : decode cX8_canDrop 134 = .ok (.if_icmp .ge 8, 3) := by decide +kernel
theorem dX8_canDrop_137 : decode cX8_canDrop 137 = .ok (.iload 4, 2) := by decide +kernel
theorem dX8_canDrop_139 : decode cX8_canDrop 139 = .ok (.goto 4, 3) := by decide +kernel
theorem dX8_canDrop_142 : decode cX8_canDrop 142 = .ok (.iload_n 2, 1) := by decide +kernel
theorem dX8_canDrop_143 : decode cX8_canDrop 143 = .ok (.istore_n 2, 1) := by decide +kernel
theorem dX8_canDrop_144 : decode cX8_canDrop 144 = .ok (.iinc 3 1, 3) := by decide +kernel
theorem dX8_canDrop_147 : decode cX8_canDrop 147 = .ok (.goto (-38), 3) := by decide +kernel
theorem dX8_canDrop_150 : decode cX8_canDrop 150 = .ok (.iload_n 2, 1) := by decide +kernel
theorem dX8_canDrop_151 : decode cX8_canDrop 151 = .ok (.aload_n 0, 1) := by decide +kernel
theorem dX8_canDrop_152 : decode cX8_canDrop 152 = .ok (.getfield 7, 3) := by decide +kernel
theorem dX8_canDrop_155 : decode cX8_canDrop 155 = .ok (.iconst 0, 1) := by decide +kernel
theorem dX8_canDrop_156 : decode cX8_canDrop 156 = .ok (.iaload, 1) := by decide +kernel
theorem dX8_canDrop_157 : decode cX8_canDrop 157 = .ok (.if_icmp .le 14, 3) := by decide +kernel
theorem dX8_canDrop_160 : decode cX8_canDrop 160 = .ok (.iload_n 2, 1) := by decide +kernel
theorem dX8_canDrop_161 : decode cX8_canDrop 161 = .ok (.aload_n 0, 1) := by decide +kernel
theorem dX8_canDrop_162 : decode cX8_canDrop 162 = .ok (.getfield 7, 3) := by decide +kernel
theorem dX8_canDrop_165 : decode cX8_canDrop 165 = .ok (.iconst 0, 1) := by decide +kernel
theorem dX8_canDrop_166 : decode cX8_canDrop 166 = .ok (.iaload, 1) := by decide +kernel
theorem dX8_canDrop_167 : decode cX8_canDrop 167 = .ok (.isub, 1) := by decide +kernel
theorem dX8_canDrop_168 : decode cX8_canDrop 168 = .ok (.goto 4, 3) := by decide +kernel
theorem dX8_canDrop_171 : decode cX8_canDrop 171 = .ok (.iconst 0, 1) := by decide +kernel
theorem dX8_canDrop_172 : decode cX8_canDrop 172 = .ok (.ireturn, 1) := by decide +kernel
theorem dX8_dropRecords_0 : decode cX8_dropRecords 0 = .ok (.aload_n 0, 1) := by decide +kernel
theorem dX8_dropRecords_1 : decode cX8_dropRecords 1 = .ok (.invokevirtual 71, 3) := by decide +kernel
theorem dX8_dropRecords_4 : decode cX8_dropRecords 4 = .ok (.ifCond .ne 10, 3) := by decide +kernel
theorem dX8_dropRecords_7 : decode cX8_dropRecords 7 = .ok (.aload_n 0, 1) := by decide +kernel
theorem dX8_dropRecords_8 : decode cX8_dropRecords 8 = .ok (.invokevirtual 121, 3) := by decide +kernel
theorem dX8_dropRecords_11 : decode cX8_dropRecords 11 = .ok (.ifCond .ne 6, 3) := by decide +kernel
theorem dX8_dropRecords_14 : decode cX8_dropRecords 14 = .ok (.ldc 75, 2) := by decide +kernel
theorem dX8_dropRecords_16 : decode cX8_dropRecords 16 = .ok (.ireturn, 1) := by decide +kernel
theorem dX8_dropRecords_17 : decode cX8_dropRecords 17 = .ok (.aload_n 0, 1) := by decide +kernel
theorem dX8_dropRecords_18 : decode cX8_dropRecords 18 = .ok (.invokevirtual 77, 3) := by decide +kernel
theorem dX8_dropRecords_21 : decode cX8_dropRecords 21 = .ok (.aload_n 0, 1) := by decide +kernel
theorem dX8_dropRecords_22 : decode cX8_dropRecords 22 = .ok (.invokevirtual 124, 3) := by decide +kernel
theorem dX8_dropRecords_25 : decode cX8_dropRecords 25 = .ok (.istore_n 1, 1) := by decide +kernel
theorem dX8_dropRecords_26 : decode cX8_dropRecords 26 = .ok (.bipush 69, 2) := by decide +kernel
theorem dX8_dropRecords_28 : decode cX8_dropRecords 28 = .ok (.istore_n 2, 1) := by decide +kernel
theorem dX8_dropRecords_29 : decode cX8_dropRecords 29 = .ok (.iload_n 2, 1) := by decide +kernel
theorem dX8_dropRecords_30 : decode cX8_dropRecords 30 = .ok (.bipush 69, 2) := by decide +kernel
theorem dX8_dropRecords_32 : decode cX8_dropRecords 32 = .ok (.bipush 16, 2) := by decide +kernel
theorem dX8_dropRecords_34 : decode cX8_dropRecords 34 = .ok (.aload_n 0, 1) := by decide +kernel
theorem dX8_dropRecords_35 : decode cX8_dropRecords 35 = .ok (.getfield 7, 3) := by decide +kernel
theorem dX8_dropRecords_38 : decode cX8_dropRecords 38 = .ok (.iconst 1, 1) := by decide +kernel
theorem dX8_dropRecords_39 : decode cX8_dropRecords 39 = .ok (.iaload, 1) := by decide +kernel
theorem dX8_dropRecords_40 : decode cX8_dropRecords 40 = .ok (.iload_n 1, 1) := by decide +kernel
theorem dX8_dropRecords_41 : decode cX8_dropRecords 41 = .ok (.isub, 1) := by decide +kernel
theorem dX8_dropRecords_42 : decode cX8_dropRecords 42 = .ok (.imul, 1) := by decide +kernel
theorem dX8_dropRecords_43 : decode cX8_dropRecords 43 = .ok (.iadd, 1) := by decide +kernel
theorem dX8_dropRecords_44 : decode cX8_dropRecords 44 = .ok (.if_icmp .ge 26, 3) := by decide +kernel
theorem dX8_dropRecords_47 : decode cX8_dropRecords 47 = .ok (.aload_n 0, 1) := by decide +kernel
theorem dX8_dropRecords_48 : decode cX8_dropRecords 48 = .ok (.getfield 7, 3) := by decide +kernel
theorem dX8_dropRecords_51 : decode cX8_dropRecords 51 = .ok (.iload_n 2, 1) := by decide +kernel
theorem dX8_dropRecords_52 : decode cX8_dropRecords 52 = .ok (.aload_n 0, 1) := by decide +kernel
theorem dX8_dropRecords_53 : decode cX8_dropRecords 53 = .ok (.getfield 7, 3) := by decide +kernel
theorem dX8_dropRecords_56 : decode cX8_dropRecords 56 = .ok (.iload_n 2, 1) := by decide +kernel
theorem dX8_dropRecords_57 : decode cX8_dropRecords 57 = .ok (.bipush 16, 2) := by decide +kernel
theorem dX8_dropRecords_59 : decode cX8_dropRecords 59 = .ok (.iload_n 1, 1) := by decide +kernel
theorem dX8_dropRecords_60 : decode cX8_dropRecords 60 = .ok (.imul, 1) := by decide +kernel
theorem dX8_dropRecords_61 : decode cX8_dropRecords 61 = .ok (.iadd, 1) := by decide +kernel
theorem dX8_dropRecords_62 : decode cX8_dropRecords 62 = .ok (.iaload, 1) := by decide +kernel
theorem dX8_dropRecords_63 : decode cX8_dropRecords 63 = .ok (.iastore, 1) := by decide +kernel
theorem dX8_dropRecords_64 : decode cX8_dropRecords 64 = .ok (.iinc 2 1, 3) := by decide +kernel
theorem dX8_dropRecords_67 : decode cX8_dropRecords 67 = .ok (.goto (-38), 3) := by decide +kernel
theorem dX8_dropRecords_70 : decode cX8_dropRecords 70 = .ok (.aload_n 0, 1) := by decide +kernel
theorem dX8_dropRecords_71 : decode cX8_dropRecords 71 = .ok (.getfield 7, 3) := by decide +kernel
theorem dX8_dropRecords_74 : decode cX8_dropRecords 74 = .ok (.iconst 1, 1) := by decide +kernel
theorem dX8_dropRecords_75 : decode cX8_dropRecords 75 = .ok (.dup2, 1) := by decide +kernel
theorem dX8_dropRecords_76 : decode cX8_dropRecords 76 = .ok (.iaload, 1) := by decide +kernel
theorem dX8_dropRecords_77 : decode cX8_dropRecords 77 = .ok (.iload_n 1, 1) := by decide +kernel
theorem dX8_dropRecords_78 : decode cX8_dropRecords 78 = .ok (.isub, 1) := by decide +kernel
theorem dX8_dropRecords_79 : decode cX8_dropRecords 79 = .ok (.iastore, 1) := by decide +kernel
theorem dX8_dropRecords_80 : decode cX8_dropRecords 80 = .ok (.aload_n 0, 1) := by decide +kernel
theorem dX8_dropRecords_81 : decode cX8_dropRecords 81 = .ok (.getfield 7, 3) := by decide +kernel
theorem dX8_dropRecords_84 : decode cX8_dropRecords 84 = .ok (.iconst 0, 1) := by decide +kernel
theorem dX8_dropRecords_85 : decode cX8_dropRecords 85 = .ok (.dup2, 1) := by decide +kernel
theorem dX8_dropRecords_86 : decode cX8_dropRecords 86 = .ok (.iaload, 1) := by decide +kernel
theorem dX8_dropRecords_87 : decode cX8_dropRecords 87 = .ok (.iload_n 1, 1) := by decide +kernel
theorem dX8_dropRecords_88 : decode cX8_dropRecords 88 = .ok (.iadd, 1) := by decide +kernel
theorem dX8_dropRecords_89 : decode cX8_dropRecords 89 = .ok (.iastore, 1) := by decide +kernel
theorem dX8_dropRecords_90 : decode cX8_dropRecords 90 = .ok (.iload_n 1, 1) := by decide +kernel
theorem dX8_dropRecords_91 : decode cX8_dropRecords 91 = .ok (.ireturn, 1) := by decide +kernel
theorem dX8_force_0 : decode cX8_force 0 = .ok (.aload_n 0, 1) := by decide +kernel
theorem dX8_force_1 : decode cX8_force 1 = .ok (.invokevirtual 71, 3) := by decide +kernel
theorem dX8_force_4 : decode cX8_force 4 = .ok (.ifCond .eq 6, 3) := by decide +kernel
theorem dX8_force_7 : decode cX8_force 7 = .ok (.ldc 75, 2) := by decide +kernel
theorem dX8_force_9 : decode cX8_force 9 = .ok (.ireturn, 1) := by decide +kernel
theorem dX8_force_10 : decode cX8_force 10 = .ok (.aload_n 0, 1) := by decide +kernel
theorem dX8_force_11 : decode cX8_force 11 = .ok (.invokevirtual 77, 3) := by decide +kernel
theorem dX8_force_14 : decode cX8_force 14 = .ok (.aload_n 0, 1) := by decide +kernel
theorem dX8_force_15 : decode cX8_force 15 = .ok (.aload_n 0, 1) := by decide +kernel
theorem dX8_force_16 : decode cX8_force 16 = .ok (.invokevirtual 50, 3) := by decide +kernel
theorem dX8_force_19 : decode cX8_force 19 = .ok (.invokevirtual 96, 3) := by decide +kernel
theorem dX8_force_22 : decode cX8_force 22 = .ok (.ireturn, 1) := by decide +kernel
theorem dX8_isTorn_0 : decode cX8_isTorn 0 = .ok (.aload_n 0, 1) := by decide +kernel
theorem dX8_isTorn_1 : decode cX8_isTorn 1 = .ok (.getfield 7, 3) := by decide +kernel
theorem dX8_isTorn_4 : decode cX8_isTorn 4 = .ok (.iconst 2, 1) := by decide +kernel
theorem dX8_isTorn_5 : decode cX8_isTorn 5 = .ok (.iaload, 1) := by decide +kernel
theorem dX8_isTorn_6 : decode cX8_isTorn 6 = .ok (.aload_n 0, 1) := by decide +kernel
theorem dX8_isTorn_7 : decode cX8_isTorn 7 = .ok (.getfield 7, 3) := by decide +kernel
theorem dX8_isTorn_10 : decode cX8_isTorn 10 = .ok (.iconst 0, 1) := by decide +kernel
theorem dX8_isTorn_11 : decode cX8_isTorn 11 = .ok (.iaload, 1) := by decide +kernel
theorem dX8_isTorn_12 : decode cX8_isTorn 12 = .ok (.if_icmp .lt 37, 3) := by decide +kernel
theorem dX8_isTorn_15 : decode cX8_isTorn 15 = .ok (.aload_n 0, 1) := by decide +kernel
theorem dX8_isTorn_16 : decode cX8_isTorn 16 = .ok (.aload_n 0, 1) := by decide +kernel
theorem dX8_isTorn_17 : decode cX8_isTorn 17 = .ok (.getfield 7, 3) := by decide +kernel
theorem dX8_isTorn_20 : decode cX8_isTorn 20 = .ok (.iconst 2, 1) := by decide +kernel
theorem dX8_isTorn_21 : decode cX8_isTorn 21 = .ok (.iaload, 1) := by decide +kernel
theorem dX8_isTorn_22 : decode cX8_isTorn 22 = .ok (.iconst 0, 1) := by decide +kernel
theorem dX8_isTorn_23 : decode cX8_isTorn 23 = .ok (.invokevirtual 106, 3) := by decide +kernel
theorem dX8_isTorn_26 : decode cX8_isTorn 26 = .ok (.iconst 2, 1) := by decide +kernel
theorem dX8_isTorn_27 : decode cX8_isTorn 27 = .ok (.if_icmp .eq 22, 3) := by decide +kernel
theorem dX8_isTorn_30 : decode cX8_isTorn 30 = .ok (.aload_n 0, 1) := by decide +kernel
theorem dX8_isTorn_31 : decode cX8_isTorn 31 = .ok (.aload_n 0, 1) := by decide +kernel
theorem dX8_isTorn_32 : decode cX8_isTorn 32 = .ok (.getfield 7, 3) := by decide +kernel
theorem dX8_isTorn_35 : decode cX8_isTorn 35 = .ok (.iconst 2, 1) := by decide +kernel
theorem dX8_isTorn_36 : decode cX8_isTorn 36 = .ok (.iaload, 1) := by decide +kernel
theorem dX8_isTorn_37 : decode cX8_isTorn 37 = .ok (.iconst 0, 1) := by decide +kernel
theorem dX8_isTorn_38 : decode cX8_isTorn 38 = .ok (.invokevirtual 106, 3) := by decide +kernel
theorem dX8_isTorn_41 : decode cX8_isTorn 41 = .ok (.iconst 5, 1) := by decide +kernel
theorem dX8_isTorn_42 : decode cX8_isTorn 42 = .ok (.if_icmp .eq 7, 3) := by decide +kernel
theorem dX8_isTorn_45 : decode cX8_isTorn 45 = .ok (.iconst 1, 1) := by decide +kernel
theorem dX8_isTorn_46 : decode cX8_isTorn 46 = .ok (.goto 4, 3) := by decide +kernel
theorem dX8_isTorn_49 : decode cX8_isTorn 49 = .ok (.iconst 0, 1) := by decide +kernel
theorem dX8_isTorn_50 : decode cX8_isTorn 50 = .ok (.istore_n 1, 1) := by decide +kernel
theorem dX8_isTorn_51 : decode cX8_isTorn 51 = .ok (.iconst 0, 1) := by decide +kernel
theorem dX8_isTorn_52 : decode cX8_isTorn 52 = .ok (.istore_n 2, 1) := by decide +kernel
theorem dX8_isTorn_53 : decode cX8_isTorn 53 = .ok (.iload_n 2, 1) := by decide +kernel
theorem dX8_isTorn_54 : decode cX8_isTorn 54 = .ok (.bipush 8, 2) := by decide +kernel
theorem dX8_isTorn_56 : decode cX8_isTorn 56 = .ok (.if_icmp .ge 34, 3) := by decide +kernel
theorem dX8_isTorn_59 : decode cX8_isTorn 59 = .ok (.iload_n 1, 1) := by decide +kernel
theorem dX8_isTorn_60 : decode cX8_isTorn 60 = .ok (.ifCond .eq 22, 3) := by decide +kernel
theorem dX8_isTorn_63 : decode cX8_isTorn 63 = .ok (.aload_n 0, 1) := by decide +kernel
theorem dX8_isTorn_64 : decode cX8_isTorn 64 = .ok (.getfield 7, 3) := by decide +kernel
theorem dX8_isTorn_67 : decode cX8_isTorn 67 = .ok (.iconst 2, 1) := by decide +kernel
theorem dX8_isTorn_68 : decode cX8_isTorn 68 = .ok (.iaload, 1) := by decide +kernel
theorem dX8_isTorn_69 : decode cX8_isTorn 69 = .ok (.aload_n 0, 1) := by decide +kernel
theorem dX8_isTorn_70 : decode cX8_isTorn 70 = .ok (.iload_n 2, 1) := by decide +kernel
theorem dX8_isTorn_71 : decode cX8_isTorn 71 = .ok (.iconst 1, 1) := by decide +kernel
theorem dX8_isTorn_72 : decode cX8_isTorn 72 = .ok (.invokevirtual 43, 3) := by decide +kernel
theorem dX8_isTorn_75 : decode cX8_isTorn 75 = .ok (.if_icmp .le 7, 3) := by decide +kernel
theorem dX8_isTorn_78 : decode cX8_isTorn 78 = .ok (.iconst 1, 1) := by decide +kernel
theorem dX8_isTorn_79 : decode cX8_isTorn 79 = .ok (.goto 4, 3) := by decide +kernel
theorem dX8_isTorn_82 : decode cX8_isTorn 82 = .ok (.iconst 0, 1) := by decide +kernel
theorem dX8_isTorn_83 : decode cX8_isTorn 83 = .ok (.istore_n 1, 1) := by decide +kernel
theorem dX8_isTorn_84 : decode cX8_isTorn 84 = .ok (.iinc 2 1, 3) := by decide +kernel
theorem dX8_isTorn_87 : decode cX8_isTorn 87 = .ok (.goto (-34), 3) := by decide +kernel
theorem dX8_isTorn_90 : decode cX8_isTorn 90 = .ok (.iload_n 1, 1) := by decide +kernel
theorem dX8_isTorn_91 : decode cX8_isTorn 91 = .ok (.ireturn, 1) := by decide +kernel
theorem dX8_stops_0 : decode cX8_stops 0 = .ok (.aload_n 0, 1) := by decide +kernel
theorem dX8_stops_1 : decode cX8_stops 1 = .ok (.invokevirtual 50, 3) := by decide +kernel
theorem dX8_stops_4 : decode cX8_stops 4 = .ok (.aload_n 0, 1) := by decide +kernel
theorem dX8_stops_5 : decode cX8_stops 5 = .ok (.getfield 7, 3) := by decide +kernel
theorem dX8_stops_8 : decode cX8_stops 8 = .ok (.iconst 2, 1) := by decide +kernel
theorem dX8_stops_9 : decode cX8_stops 9 = .ok (.iaload, 1) := by decide +kernel
theorem dX8_stops_10 : decode cX8_stops 10 = .ok (.isub, 1) := by decide +kernel
theorem dX8_stops_11 : decode cX8_stops 11 = .ok (.istore_n 2, 1) := by decide +kernel
theorem dX8_stops_12 : decode cX8_stops 12 = .ok (.iload_n 1, 1) := by decide +kernel
theorem dX8_stops_13 : decode cX8_stops 13 = .ok (.iconst 1, 1) := by decide +kernel
theorem dX8_stops_14 : decode cX8_stops 14 = .ok (.if_icmp .ne 23, 3) := by decide +kernel
theorem dX8_stops_17 : decode cX8_stops 17 = .ok (.aload_n 0, 1) := by decide +kernel
theorem dX8_stops_18 : decode cX8_stops 18 = .ok (.invokevirtual 127, 3) := by decide +kernel
theorem dX8_stops_21 : decode cX8_stops 21 = .ok (.ifCond .eq 16, 3) := by decide +kernel
theorem dX8_stops_24 : decode cX8_stops 24 = .ok (.iinc 2 1, 3) := by decide +kernel
theorem dX8_stops_27 : decode cX8_stops 27 = .ok (.aload_n 0, 1) := by decide +kernel
theorem dX8_stops_28 : decode cX8_stops 28 = .ok (.getfield 7, 3) := by decide +kernel
theorem dX8_stops_31 : decode cX8_stops 31 = .ok (.iconst 2, 1) := by decide +kernel
theorem dX8_stops_32 : decode cX8_stops 32 = .ok (.dup2, 1) := by decide +kernel
theorem dX8_stops_33 : decode cX8_stops 33 = .ok (.iaload, 1) := by decide +kernel
theorem dX8_stops_34 : decode cX8_stops 34 = .ok (.iconst 1, 1) := by decide +kernel
theorem dX8_stops_35 : decode cX8_stops 35 = .ok (.isub, 1) := by decide +kernel
theorem dX8_stops_36 : decode cX8_stops 36 = .ok (.iastore, 1) := by decide +kernel
theorem dX8_stops_37 : decode cX8_stops 37 = .ok (.aload_n 0, 1) := by decide +kernel
theorem dX8_stops_38 : decode cX8_stops 38 = .ok (.getfield 7, 3) := by decide +kernel
theorem dX8_stops_41 : decode cX8_stops 41 = .ok (.iconst 1, 1) := by decide +kernel
theorem dX8_stops_42 : decode cX8_stops 42 = .ok (.dup2, 1) := by decide +kernel
theorem dX8_stops_43 : decode cX8_stops 43 = .ok (.iaload, 1) := by decide +kernel
theorem dX8_stops_44 : decode cX8_stops 44 = .ok (.iload_n 2, 1) := by decide +kernel
theorem dX8_stops_45 : decode cX8_stops 45 = .ok (.isub, 1) := by decide +kernel
theorem dX8_stops_46 : decode cX8_stops 46 = .ok (.iastore, 1) := by decide +kernel
theorem dX8_stops_47 : decode cX8_stops 47 = .ok (.iconst 0, 1) := by decide +kernel
theorem dX8_stops_48 : decode cX8_stops 48 = .ok (.istore_n 3, 1) := by decide +kernel
theorem dX8_stops_49 : decode cX8_stops 49 = .ok (.iload_n 3, 1) := by decide +kernel
theorem dX8_stops_50 : decode cX8_stops 50 = .ok (.bipush 8, 2) := by decide +kernel
theorem dX8_stops_52 : decode cX8_stops 52 = .ok (.if_icmp .ge 16, 3) := by decide +kernel
theorem dX8_stops_55 : decode cX8_stops 55 = .ok (.aload_n 0, 1) := by decide +kernel
theorem dX8_stops_56 : decode cX8_stops 56 = .ok (.iload_n 3, 1) := by decide +kernel
theorem dX8_stops_57 : decode cX8_stops 57 = .ok (.iconst 2, 1) := by decide +kernel
theorem dX8_stops_58 : decode cX8_stops 58 = .ok (.iconst 0, 1) := by decide +kernel
theorem dX8_stops_59 : decode cX8_stops 59 = .ok (.invokevirtual 58, 3) := by decide +kernel
theorem dX8_stops_62 : decode cX8_stops 62 = .ok (.iinc 3 1, 3) := by decide +kernel
theorem dX8_stops_65 : decode cX8_stops 65 = .ok (.goto (-16), 3) := by decide +kernel
theorem dX8_stops_68 : decode cX8_stops 68 = .ok (.iconst 0, 1) := by decide +kernel
theorem dX8_stops_69 : decode cX8_stops 69 = .ok (.istore_n 3, 1) := by decide +kernel
theorem dX8_stops_70 : decode cX8_stops 70 = .ok (.iload_n 3, 1) := by decide +kernel
theorem dX8_stops_71 : decode cX8_stops 71 = .ok (.iconst 4, 1) := by decide +kernel
theorem dX8_stops_72 : decode cX8_stops 72 = .ok (.if_icmp .ge 14, 3) := by decide +kernel
theorem dX8_stops_75 : decode cX8_stops 75 = .ok (.aload_n 0, 1) := by decide +kernel
theorem dX8_stops_76 : decode cX8_stops 76 = .ok (.iload_n 3, 1) := by decide +kernel
theorem dX8_stops_77 : decode cX8_stops 77 = .ok (.invokevirtual 102, 3) := by decide +kernel
theorem dX8_stops_80 : decode cX8_stops 80 = .ok (.iinc 3 1, 3) := by decide +kernel
theorem dX8_stops_83 : decode cX8_stops 83 = .ok (.goto (-13), 3) := by decide +kernel
theorem dX8_stops_86 : decode cX8_stops 86 = .ok (.aload_n 0, 1) := by decide +kernel
theorem dX8_stops_87 : decode cX8_stops 87 = .ok (.getfield 7, 3) := by decide +kernel
theorem dX8_stops_90 : decode cX8_stops 90 = .ok (.iconst 1, 1) := by decide +kernel
theorem dX8_stops_91 : decode cX8_stops 91 = .ok (.iaload, 1) := by decide +kernel
theorem dX8_stops_92 : decode cX8_stops 92 = .ok (.ifCond .ne 17, 3) := by decide +kernel
theorem dX8_stops_95 : decode cX8_stops 95 = .ok (.aload_n 0, 1) := by decide +kernel
theorem dX8_stops_96 : decode cX8_stops 96 = .ok (.getfield 7, 3) := by decide +kernel
theorem dX8_stops_99 : decode cX8_stops 99 = .ok (.iconst 0, 1) := by decide +kernel
theorem dX8_stops_100 : decode cX8_stops 100 = .ok (.iconst 1, 1) := by decide +kernel
theorem dX8_stops_101 : decode cX8_stops 101 = .ok (.iastore, 1) := by decide +kernel
theorem dX8_stops_102 : decode cX8_stops 102 = .ok (.aload_n 0, 1) := by decide +kernel
theorem dX8_stops_103 : decode cX8_stops 103 = .ok (.getfield 7, 3) := by decide +kernel
theorem dX8_stops_106 : decode cX8_stops 106 = .ok (.iconst 2, 1) := by decide +kernel
theorem dX8_stops_107 : decode cX8_stops 107 = .ok (.iconst 0, 1) := by decide +kernel
theorem dX8_stops_108 : decode cX8_stops 108 = .ok (.iastore, 1) := by decide +kernel
theorem dX8_stops_109 : decode cX8_stops 109 = .ok (.aload_n 0, 1) := by decide +kernel
theorem dX8_stops_110 : decode cX8_stops 110 = .ok (.getfield 7, 3) := by decide +kernel
theorem dX8_stops_113 : decode cX8_stops 113 = .ok (.iconst 3, 1) := by decide +kernel
theorem dX8_stops_114 : decode cX8_stops 114 = .ok (.iconst 1, 1) := by decide +kernel
theorem dX8_stops_115 : decode cX8_stops 115 = .ok (.iastore, 1) := by decide +kernel
theorem dX8_stops_116 : decode cX8_stops 116 = .ok (.iload_n 2, 1) := by decide +kernel
theorem dX8_stops_117 : decode cX8_stops 117 = .ok (.ireturn, 1) := by decide +kernel
theorem dX8_stop_0 : decode cX8_stop 0 = .ok (.iload_n 1, 1) := by decide +kernel
theorem dX8_stop_1 : decode cX8_stop 1 = .ok (.iconst 0, 1) := by decide +kernel
theorem dX8_stop_2 : decode cX8_stop 2 = .ok (.iconst 1, 1) := by decide +kernel
theorem dX8_stop_3 : decode cX8_stop 3 = .ok (.invokestatic 66, 3) := by decide +kernel
theorem dX8_stop_6 : decode cX8_stop 6 = .ok (.ifCond .ne 6, 3) := by decide +kernel
theorem dX8_stop_9 : decode cX8_stop 9 = .ok (.ldc 70, 2) := by decide +kernel
theorem dX8_stop_11 : decode cX8_stop 11 = .ok (.ireturn, 1) := by decide +kernel
theorem dX8_stop_12 : decode cX8_stop 12 = .ok (.aload_n 0, 1) := by decide +kernel
theorem dX8_stop_13 : decode cX8_stop 13 = .ok (.invokevirtual 71, 3) := by decide +kernel
theorem dX8_stop_16 : decode cX8_stop 16 = .ok (.ifCond .eq 6, 3) := by decide +kernel
theorem dX8_stop_19 : decode cX8_stop 19 = .ok (.ldc 75, 2) := by decide +kernel
theorem dX8_stop_21 : decode cX8_stop 21 = .ok (.ireturn, 1) := by decide +kernel
theorem dX8_stop_22 : decode cX8_stop 22 = .ok (.aload_n 0, 1) := by decide +kernel
theorem dX8_stop_23 : decode cX8_stop 23 = .ok (.invokevirtual 77, 3) := by decide +kernel
theorem dX8_stop_26 : decode cX8_stop 26 = .ok (.aload_n 0, 1) := by decide +kernel
theorem dX8_stop_27 : decode cX8_stop 27 = .ok (.iload_n 1, 1) := by decide +kernel
theorem dX8_stop_28 : decode cX8_stop 28 = .ok (.invokevirtual 130, 3) := by decide +kernel
theorem dX8_stop_31 : decode cX8_stop 31 = .ok (.ireturn, 1) := by decide +kernel
theorem dX8_looks_0 : decode cX8_looks 0 = .ok (.aload_n 0, 1) := by decide +kernel
theorem dX8_looks_1 : decode cX8_looks 1 = .ok (.invokevirtual 121, 3) := by decide +kernel
theorem dX8_looks_4 : decode cX8_looks 4 = .ok (.istore_n 1, 1) := by decide +kernel
theorem dX8_looks_5 : decode cX8_looks 5 = .ok (.aload_n 0, 1) := by decide +kernel
theorem dX8_looks_6 : decode cX8_looks 6 = .ok (.iload_n 1, 1) := by decide +kernel
theorem dX8_looks_7 : decode cX8_looks 7 = .ok (.ifCond .ne 7, 3) := by decide +kernel
theorem dX8_looks_10 : decode cX8_looks 10 = .ok (.iconst 0, 1) := by decide +kernel
theorem dX8_looks_11 : decode cX8_looks 11 = .ok (.goto 10, 3) := by decide +kernel
theorem dX8_looks_14 : decode cX8_looks 14 = .ok (.aload_n 0, 1) := by decide +kernel
theorem dX8_looks_15 : decode cX8_looks 15 = .ok (.iload_n 1, 1) := by decide +kernel
theorem dX8_looks_16 : decode cX8_looks 16 = .ok (.bipush 6, 2) := by decide +kernel
theorem dX8_looks_18 : decode cX8_looks 18 = .ok (.invokevirtual 106, 3) := by decide +kernel
theorem dX8_looks_21 : decode cX8_looks 21 = .ok (.putfield 133, 3) := by decide +kernel
theorem dX8_looks_24 : decode cX8_looks 24 = .ok (.iconst 0, 1) := by decide +kernel
theorem dX8_looks_25 : decode cX8_looks 25 = .ok (.istore_n 2, 1) := by decide +kernel
theorem dX8_looks_26 : decode cX8_looks 26 = .ok (.iload_n 2, 1) := by decide +kernel
theorem dX8_looks_27 : decode cX8_looks 27 = .ok (.bipush 8, 2) := by decide +kernel
theorem dX8_looks_29 : decode cX8_looks 29 = .ok (.if_icmp .ge 32, 3) := by decide +kernel
theorem dX8_looks_32 : decode cX8_looks 32 = .ok (.aload_n 0, 1) := by decide +kernel
theorem dX8_looks_33 : decode cX8_looks 33 = .ok (.getfield 25, 3) := by decide +kernel
theorem dX8_looks_36 : decode cX8_looks 36 = .ok (.iload_n 2, 1) := by decide +kernel
theorem dX8_looks_37 : decode cX8_looks 37 = .ok (.iload_n 1, 1) := by decide +kernel
theorem dX8_looks_38 : decode cX8_looks 38 = .ok (.ifCond .ne 7, 3) := by decide +kernel
theorem dX8_looks_41 : decode cX8_looks 41 = .ok (.iconst 0, 1) := by decide +kernel
theorem dX8_looks_42 : decode cX8_looks 42 = .ok (.goto 12, 3) := by decide +kernel
theorem dX8_looks_45 : decode cX8_looks 45 = .ok (.aload_n 0, 1) := by decide +kernel
theorem dX8_looks_46 : decode cX8_looks 46 = .ok (.iload_n 1, 1) := by decide +kernel
theorem dX8_looks_47 : decode cX8_looks 47 = .ok (.bipush 8, 2) := by decide +kernel
theorem dX8_looks_49 : decode cX8_looks 49 = .ok (.iload_n 2, 1) := by decide +kernel
theorem dX8_looks_50 : decode cX8_looks 50 = .ok (.iadd, 1) := by decide +kernel
theorem dX8_looks_51 : decode cX8_looks 51 = .ok (.invokevirtual 106, 3) := by decide +kernel
theorem dX8_looks_54 : decode cX8_looks 54 = .ok (.iastore, 1) := by decide +kernel
theorem dX8_looks_55 : decode cX8_looks 55 = .ok (.iinc 2 1, 3) := by decide +kernel
theorem dX8_looks_58 : decode cX8_looks 58 = .ok (.goto (-32), 3) := by decide +kernel
theorem dX8_looks_61 : decode cX8_looks 61 = .ok (.iload_n 1, 1) := by decide +kernel
theorem dX8_looks_62 : decode cX8_looks 62 = .ok (.ifCond .ne 12, 3) := by decide +kernel
theorem dX8_looks_65 : decode cX8_looks 65 = .ok (.aload_n 0, 1) := by decide +kernel
theorem dX8_looks_66 : decode cX8_looks 66 = .ok (.getfield 7, 3) := by decide +kernel
theorem dX8_looks_69 : decode cX8_looks 69 = .ok (.iconst 0, 1) := by decide +kernel
theorem dX8_looks_70 : decode cX8_looks 70 = .ok (.iaload, 1) := by decide +kernel
theorem dX8_looks_71 : decode cX8_looks 71 = .ok (.goto 6, 3) := by decide +kernel
theorem dX8_looks_74 : decode cX8_looks 74 = .ok (.iload_n 1, 1) := by decide +kernel
theorem dX8_looks_75 : decode cX8_looks 75 = .ok (.iconst 1, 1) := by decide +kernel
theorem dX8_looks_76 : decode cX8_looks 76 = .ok (.iadd, 1) := by decide +kernel
theorem dX8_looks_77 : decode cX8_looks 77 = .ok (.istore_n 2, 1) := by decide +kernel
theorem dX8_looks_78 : decode cX8_looks 78 = .ok (.iload_n 2, 1) := by decide +kernel
theorem dX8_looks_79 : decode cX8_looks 79 = .ok (.aload_n 0, 1) := by decide +kernel
theorem dX8_looks_80 : decode cX8_looks 80 = .ok (.invokevirtual 50, 3) := by decide +kernel
theorem dX8_looks_83 : decode cX8_looks 83 = .ok (.if_icmp .gt 117, 3) := by decide +kernel
theorem dX8_looks_86 : decode cX8_looks 86 = .ok (.aload_n 0, 1) := by decide +kernel
theorem dX8_looks_87 : decode cX8_looks 87 = .ok (.iload_n 2, 1) := by decide +kernel
theorem dX8_looks_88 : decode cX8_looks 88 = .ok (.iconst 0, 1) := by decide +kernel
theorem dX8_looks_89 : decode cX8_looks 89 = .ok (.invokevirtual 106, 3) := by decide +kernel
theorem dX8_looks_92 : decode cX8_looks 92 = .ok (.istore_n 3, 1) := by decide +kernel
theorem dX8_looks_93 : decode cX8_looks 93 = .ok (.iload_n 3, 1) := by decide +kernel
theorem dX8_looks_94 : decode cX8_looks 94 = .ok (.ifCond .ne 23, 3) := by decide +kernel
theorem dX8_looks_97 : decode cX8_looks 97 = .ok (.aload_n 0, 1) := by decide +kernel
theorem dX8_looks_98 : decode cX8_looks 98 = .ok (.dup, 1) := by decide +kernel
theorem dX8_looks_99 : decode cX8_looks 99 = .ok (.getfield 133, 3) := by decide +kernel
theorem dX8_looks_102 : decode cX8_looks 102 = .ok (.iconst 1, 1) := by decide +kernel
theorem dX8_looks_103 : decode cX8_looks 103 = .ok (.aload_n 0, 1) := by decide +kernel
theorem dX8_looks_104 : decode cX8_looks 104 = .ok (.iload_n 2, 1) := by decide +kernel
theorem dX8_looks_105 : decode cX8_looks 105 = .ok (.iconst 1, 1) := by decide +kernel
theorem dX8_looks_106 : decode cX8_looks 106 = .ok (.invokevirtual 106, 3) := by decide +kernel
theorem dX8_looks_109 : decode cX8_looks 109 = .ok (.ishl, 1) := by decide +kernel
theorem dX8_looks_110 : decode cX8_looks 110 = .ok (.ior, 1) := by decide +kernel
theorem dX8_looks_111 : decode cX8_looks 111 = .ok (.putfield 133, 3) := by decide +kernel
theorem dX8_looks_114 : decode cX8_looks 114 = .ok (.goto 80, 3) := by decide +kernel
theorem dX8_looks_117 : decode cX8_looks 117 = .ok (.iload_n 3, 1) := by decide +kernel
theorem dX8_looks_118 : decode cX8_looks 118 = .ok (.iconst 2, 1) := by decide +kernel
theorem dX8_looks_119 : decode cX8_looks 119 = .ok (.if_icmp .eq 8, 3) := by decide +kernel
theorem dX8_looks_122 : decode cX8_looks 122 = .ok (.iload_n 3, 1) := by decide +kernel
theorem dX8_looks_123 : decode cX8_looks 123 = .ok (.iconst 4, 1) := by decide +kernel
theorem dX8_looks_124 : decode cX8_looks 124 = .ok (.if_icmp .ne 25, 3) := by decide +kernel
theorem dX8_looks_127 : decode cX8_looks 127 = .ok (.aload_n 0, 1) := by decide +kernel
theorem dX8_looks_128 : decode cX8_looks 128 = .ok (.dup, 1) := by decide +kernel
theorem dX8_looks_129 : decode cX8_looks 129 = .ok (.getfield 133, 3) := by decide +kernel
theorem dX8_looks_132 : decode cX8_looks 132 = .ok (.iconst 1, 1) := by decide +kernel
theorem dX8_looks_133 : decode cX8_looks 133 = .ok (.aload_n 0, 1) := by decide +kernel
theorem dX8_looks_134 : decode cX8_looks 134 = .ok (.iload_n 2, 1) := by decide +kernel
theorem dX8_looks_135 : decode cX8_looks 135 = .ok (.iconst 1, 1) := by decide +kernel
theorem dX8_looks_136 : decode cX8_looks 136 = .ok (.invokevirtual 106, 3) := by decide +kernel
theorem dX8_looks_139 : decode cX8_looks 139 = .ok (.ishl, 1) := by decide +kernel
theorem dX8_looks_140 : decode cX8_looks 140 = .ok (.iconst (-1), 1) := by decide +kernel
theorem dX8_looks_141 : decode cX8_looks 141 = .ok (.ixor, 1) := by decide +kernel
theorem dX8_looks_142 : decode cX8_looks 142 = .ok (.iand, 1) := by decide +kernel
theorem dX8_looks_143 : decode cX8_looks 143 = .ok (.putfield 133, 3) := by decide +kernel
theorem dX8_looks_146 : decode cX8_looks 146 = .ok (.goto 48, 3) := by decide +kernel
theorem dX8_looks_149 : decode cX8_looks 149 = .ok (.iload_n 3, 1) := by decide +kernel
theorem dX8_looks_150 : decode cX8_looks 150 = .ok (.iconst 5, 1) := by decide +kernel
theorem dX8_looks_151 : decode cX8_looks 151 = .ok (.if_icmp .eq 43, 3) := by decide +kernel
theorem dX8_looks_154 : decode cX8_looks 154 = .ok (.aload_n 0, 1) := by decide +kernel
theorem dX8_looks_155 : decode cX8_looks 155 = .ok (.getfield 25, 3) := by decide +kernel
theorem dX8_looks_158 : decode cX8_looks 158 = .ok (.aload_n 0, 1) := by decide +kernel
theorem dX8_looks_159 : decode cX8_looks 159 = .ok (.iload_n 2, 1) := by decide +kernel
theorem dX8_looks_160 : decode cX8_looks 160 = .ok (.iconst 2, 1) := by decide +kernel
theorem dX8_looks_161 : decode cX8_looks 161 = .ok (.invokevirtual 106, 3) := by decide +kernel
theorem dX8_looks_164 : decode cX8_looks 164 = .ok (.aload_n 0, 1) := by decide +kernel
theorem dX8_looks_165 : decode cX8_looks 165 = .ok (.getfield 25, 3) := by decide +kernel
theorem dX8_looks_168 : decode cX8_looks 168 = .ok (.aload_n 0, 1) := by decide +kernel
theorem dX8_looks_169 : decode cX8_looks 169 = .ok (.iload_n 2, 1) := by decide +kernel
theorem dX8_looks_170 : decode cX8_looks 170 = .ok (.iconst 2, 1) := by decide +kernel
theorem dX8_looks_171 : decode cX8_looks 171 = .ok (.invokevirtual 106, 3) := by decide +kernel
theorem dX8_looks_174 : decode cX8_looks 174 = .ok (.iaload, 1) := by decide +kernel
theorem dX8_looks_175 : decode cX8_looks 175 = .ok (.ifCond .ne 7, 3) := by decide +kernel
theorem dX8_looks_178 : decode cX8_looks 178 = .ok (.iload_n 2, 1) := by decide +kernel
theorem dX8_looks_179 : decode cX8_looks 179 = .ok (.goto 14, 3) := by decide +kernel
theorem dX8_looks_182 : decode cX8_looks 182 = .ok (.aload_n 0, 1) := by decide +kernel
theorem dX8_looks_183 : decode cX8_looks 183 = .ok (.getfield 25, 3) := by decide +kernel
theorem dX8_looks_186 : decode cX8_looks 186 = .ok (.aload_n 0, 1) := by decide +kernel
theorem dX8_looks_187 : decode cX8_looks 187 = .ok (.iload_n 2, 1) := by decide +kernel
theorem dX8_looks_188 : decode cX8_looks 188 = .ok (.iconst 2, 1) := by decide +kernel
theorem dX8_looks_189 : decode cX8_looks 189 = .ok (.invokevirtual 106, 3) := by decide +kernel
theorem dX8_looks_192 : decode cX8_looks 192 = .ok (.iaload, 1) := by decide +kernel
theorem dX8_looks_193 : decode cX8_looks 193 = .ok (.iastore, 1) := by decide +kernel
theorem dX8_looks_194 : decode cX8_looks 194 = .ok (.iinc 2 1, 3) := by decide +kernel
theorem dX8_looks_197 : decode cX8_looks 197 = .ok (.goto (-119), 3) := by decide +kernel
theorem dX8_looks_200 : decode cX8_looks 200 = .ok (.return_, 1) := by decide +kernel
theorem dX8_restarts_0 : decode cX8_restarts 0 = .ok (.aload_n 0, 1) := by decide +kernel
theorem dX8_restarts_1 : decode cX8_restarts 1 = .ok (.invokevirtual 136, 3) := by decide +kernel
theorem dX8_restarts_4 : decode cX8_restarts 4 = .ok (.iconst 0, 1) := by decide +kernel
theorem dX8_restarts_5 : decode cX8_restarts 5 = .ok (.istore_n 1, 1) := by decide +kernel
theorem dX8_restarts_6 : decode cX8_restarts 6 = .ok (.aload_n 0, 1) := by decide +kernel
theorem dX8_restarts_7 : decode cX8_restarts 7 = .ok (.getfield 7, 3) := by decide +kernel
theorem dX8_restarts_10 : decode cX8_restarts 10 = .ok (.iconst 0, 1) := by decide +kernel
theorem dX8_restarts_11 : decode cX8_restarts 11 = .ok (.iaload, 1) := by decide +kernel
theorem dX8_restarts_12 : decode cX8_restarts 12 = .ok (.istore_n 2, 1) := by decide +kernel
theorem dX8_restarts_13 : decode cX8_restarts 13 = .ok (.iload_n 2, 1) := by decide +kernel
theorem dX8_restarts_14 : decode cX8_restarts 14 = .ok (.aload_n 0, 1) := by decide +kernel
theorem dX8_restarts_15 : decode cX8_restarts 15 = .ok (.invokevirtual 50, 3) := by decide +kernel
theorem dX8_restarts_18 : decode cX8_restarts 18 = .ok (.if_icmp .gt 102, 3) := by decide +kernel
theorem dX8_restarts_21 : decode cX8_restarts 21 = .ok (.aload_n 0, 1) := by decide +kernel
theorem dX8_restarts_22 : decode cX8_restarts 22 = .ok (.iload_n 2, 1) := by decide +kernel
theorem dX8_restarts_23 : decode cX8_restarts 23 = .ok (.iconst 0, 1) := by decide +kernel
theorem dX8_restarts_24 : decode cX8_restarts 24 = .ok (.invokevirtual 106, 3) := by decide +kernel
theorem dX8_restarts_27 : decode cX8_restarts 27 = .ok (.iconst 1, 1) := by decide +kernel
theorem dX8_restarts_28 : decode cX8_restarts 28 = .ok (.if_icmp .eq 13, 3) := by decide +kernel
theorem dX8_restarts_31 : decode cX8_restarts 31 = .ok (.aload_n 0, 1) := by decide +kernel
theorem dX8_restarts_32 : decode cX8_restarts 32 = .ok (.iload_n 2, 1) := by decide +kernel
theorem dX8_restarts_33 : decode cX8_restarts 33 = .ok (.iconst 0, 1) := by decide +kernel
theorem dX8_restarts_34 : decode cX8_restarts 34 = .ok (.invokevirtual 106, 3) := by decide +kernel
theorem dX8_restarts_37 : decode cX8_restarts 37 = .ok (.iconst 3, 1) := by decide +kernel
theorem dX8_restarts_38 : decode cX8_restarts 38 = .ok (.if_icmp .ne 7, 3) := by decide +kernel
theorem dX8_restarts_41 : decode cX8_restarts 41 = .ok (.iconst 1, 1) := by decide +kernel
theorem dX8_restarts_42 : decode cX8_restarts 42 = .ok (.goto 4, 3) := by decide +kernel
theorem dX8_restarts_45 : decode cX8_restarts 45 = .ok (.iconst 0, 1) := by decide +kernel
theorem dX8_restarts_46 : decode cX8_restarts 46 = .ok (.istore_n 3, 1) := by decide +kernel
theorem dX8_restarts_47 : decode cX8_restarts 47 = .ok (.iload_n 3, 1) := by decide +kernel
theorem dX8_restarts_48 : decode cX8_restarts 48 = .ok (.ifCond .eq 12, 3) := by decide +kernel
theorem dX8_restarts_51 : decode cX8_restarts 51 = .ok (.aload_n 0, 1) := by decide +kernel
theorem dX8_restarts_52 : decode cX8_restarts 52 = .ok (.iload_n 2, 1) := by decide +kernel
theorem dX8_restarts_53 : decode cX8_restarts 53 = .ok (.iconst 2, 1) := by decide +kernel
theorem dX8_restarts_54 : decode cX8_restarts 54 = .ok (.invokevirtual 106, 3) := by decide +kernel
theorem dX8_restarts_57 : decode cX8_restarts 57 = .ok (.goto 4, 3) := by decide +kernel
theorem dX8_restarts_60 : decode cX8_restarts 60 = .ok (.iconst 0, 1) := by decide +kernel
theorem dX8_restarts_61 : decode cX8_restarts 61 = .ok (.istore 4, 2) := by decide +kernel
theorem dX8_restarts_63 : decode cX8_restarts 63 = .ok (.iload_n 3, 1) := by decide +kernel
theorem dX8_restarts_64 : decode cX8_restarts 64 = .ok (.ifCond .eq 50, 3) := by decide +kernel
theorem dX8_restarts_67 : decode cX8_restarts 67 = .ok (.aload_n 0, 1) := by decide +kernel
theorem dX8_restarts_68 : decode cX8_restarts 68 = .ok (.getfield 25, 3) := by decide +kernel
theorem dX8_restarts_71 : decode cX8_restarts 71 = .ok (.iload 4, 2) := by decide +kernel
theorem dX8_restarts_73 : decode cX8_restarts 73 = .ok (.iaload, 1) := by decide +kernel
theorem dX8_restarts_74 : decode cX8_restarts 74 = .ok (.ifCond .le 40, 3) := by decide +kernel
theorem dX8_restarts_77 : decode cX8_restarts 77 = .ok (.aload_n 0, 1) := by decide +kernel
theorem dX8_restarts_78 : decode cX8_restarts 78 = .ok (.getfield 25, 3) := by decide +kernel
theorem dX8_restarts_81 : decode cX8_restarts 81 = .ok (.iload 4, 2) := by decide +kernel
theorem dX8_restarts_83 : decode cX8_restarts 83 = .ok (.iaload, 1) := by decide +kernel
theorem dX8_restarts_84 : decode cX8_restarts 84 = .ok (.iload_n 2, 1) := by decide +kernel
theorem dX8_restarts_85 : decode cX8_restarts 85 = .ok (.if_icmp .gt 29, 3) := by decide +kernel
theorem dX8_restarts_88 : decode cX8_restarts 88 = .ok (.aload_n 0, 1) := by decide +kernel
theorem dX8_restarts_89 : decode cX8_restarts 89 = .ok (.iload 4, 2) := by decide +kernel
theorem dX8_restarts_91 : decode cX8_restarts 91 = .ok (.invokevirtual 46, 3) := by decide +kernel
theorem dX8_restarts_94 : decode cX8_restarts 94 = .ok (.iload_n 2, 1) := by decide +kernel
theorem dX8_restarts_95 : decode cX8_restarts 95 = .ok (.if_icmp .ge 19, 3) := by decide +kernel
theorem dX8_restarts_98 : decode cX8_restarts 98 = .ok (.aload_n 0, 1) := by decide +kernel
theorem dX8_restarts_99 : decode cX8_restarts 99 = .ok (.iload 4, 2) := by decide +kernel
theorem dX8_restarts_101 : decode cX8_restarts 101 = .ok (.aload_n 0, 1) := by decide +kernel
theorem dX8_restarts_102 : decode cX8_restarts 102 = .ok (.iload_n 2, 1) := by decide +kernel
theorem dX8_restarts_103 : decode cX8_restarts 103 = .ok (.iconst 4, 1) := by decide +kernel
theorem dX8_restarts_104 : decode cX8_restarts 104 = .ok (.invokevirtual 106, 3) := by decide +kernel
theorem dX8_restarts_107 : decode cX8_restarts 107 = .ok (.iload_n 2, 1) := by decide +kernel
theorem dX8_restarts_108 : decode cX8_restarts 108 = .ok (.invokevirtual 93, 3) := by decide +kernel
theorem dX8_restarts_111 : decode cX8_restarts 111 = .ok (.iinc 1 1, 3) := by decide +kernel
theorem dX8_restarts_114 : decode cX8_restarts 114 = .ok (.iinc 2 1, 3) := by decide +kernel
theorem dX8_restarts_117 : decode cX8_restarts 117 = .ok (.goto (-104), 3) := by decide +kernel
theorem dX8_restarts_120 : decode cX8_restarts 120 = .ok (.aload_n 0, 1) := by decide +kernel
theorem dX8_restarts_121 : decode cX8_restarts 121 = .ok (.getfield 7, 3) := by decide +kernel
theorem dX8_restarts_124 : decode cX8_restarts 124 = .ok (.iconst 4, 1) := by decide +kernel
theorem dX8_restarts_125 : decode cX8_restarts 125 = .ok (.dup2, 1) := by decide +kernel
theorem dX8_restarts_126 : decode cX8_restarts 126 = .ok (.iaload, 1) := by decide +kernel
theorem dX8_restarts_127 : decode cX8_restarts 127 = .ok (.iload_n 1, 1) := by decide +kernel
theorem dX8_restarts_128 : decode cX8_restarts 128 = .ok (.iadd, 1) := by decide +kernel
theorem dX8_restarts_129 : decode cX8_restarts 129 = .ok (.iastore, 1) := by decide +kernel
theorem dX8_restarts_130 : decode cX8_restarts 130 = .ok (.aload_n 0, 1) := by decide +kernel
theorem dX8_restarts_131 : decode cX8_restarts 131 = .ok (.aload_n 0, 1) := by decide +kernel
theorem dX8_restarts_132 : decode cX8_restarts 132 = .ok (.aload_n 0, 1) := by decide +kernel
theorem dX8_restarts_133 : decode cX8_restarts 133 = .ok (.getfield 133, 3) := by decide +kernel
theorem dX8_restarts_136 : decode cX8_restarts 136 = .ok (.invokevirtual 112, 3) := by decide +kernel
theorem dX8_restarts_139 : decode cX8_restarts 139 = .ok (.putfield 139, 3) := by decide +kernel
theorem dX8_restarts_142 : decode cX8_restarts 142 = .ok (.aload_n 0, 1) := by decide +kernel
theorem dX8_restarts_143 : decode cX8_restarts 143 = .ok (.aload_n 0, 1) := by decide +kernel
theorem dX8_restarts_144 : decode cX8_restarts 144 = .ok (.invokevirtual 50, 3) := by decide +kernel
theorem dX8_restarts_147 : decode cX8_restarts 147 = .ok (.invokevirtual 96, 3) := by decide +kernel
theorem dX8_restarts_150 : decode cX8_restarts 150 = .ok (.pop, 1) := by decide +kernel
theorem dX8_restarts_151 : decode cX8_restarts 151 = .ok (.aload_n 0, 1) := by decide +kernel
theorem dX8_restarts_152 : decode cX8_restarts 152 = .ok (.getfield 7, 3) := by decide +kernel
theorem dX8_restarts_155 : decode cX8_restarts 155 = .ok (.iconst 3, 1) := by decide +kernel
theorem dX8_restarts_156 : decode cX8_restarts 156 = .ok (.iconst 0, 1) := by decide +kernel
theorem dX8_restarts_157 : decode cX8_restarts 157 = .ok (.iastore, 1) := by decide +kernel
theorem dX8_restarts_158 : decode cX8_restarts 158 = .ok (.iload_n 1, 1) := by decide +kernel
theorem dX8_restarts_159 : decode cX8_restarts 159 = .ok (.ireturn, 1) := by decide +kernel
theorem dX8_restart_0 : decode cX8_restart 0 = .ok (.aload_n 0, 1) := by decide +kernel
theorem dX8_restart_1 : decode cX8_restart 1 = .ok (.invokevirtual 71, 3) := by decide +kernel
theorem dX8_restart_4 : decode cX8_restart 4 = .ok (.ifCond .ne 6, 3) := by decide +kernel
theorem dX8_restart_7 : decode cX8_restart 7 = .ok (.ldc 75, 2) := by decide +kernel
theorem dX8_restart_9 : decode cX8_restart 9 = .ok (.ireturn, 1) := by decide +kernel
theorem dX8_restart_10 : decode cX8_restart 10 = .ok (.aload_n 0, 1) := by decide +kernel
theorem dX8_restart_11 : decode cX8_restart 11 = .ok (.invokevirtual 77, 3) := by decide +kernel
theorem dX8_restart_14 : decode cX8_restart 14 = .ok (.aload_n 0, 1) := by decide +kernel
theorem dX8_restart_15 : decode cX8_restart 15 = .ok (.invokevirtual 142, 3) := by decide +kernel
theorem dX8_restart_18 : decode cX8_restart 18 = .ok (.ireturn, 1) := by decide +kernel
theorem dX8_nextKind_0 : decode cX8_nextKind 0 = .ok (.iload_n 1, 1) := by decide +kernel
theorem dX8_nextKind_1 : decode cX8_nextKind 1 = .ok (.iconst 1, 1) := by decide +kernel
theorem dX8_nextKind_2 : decode cX8_nextKind 2 = .ok (.iadd, 1) := by decide +kernel
theorem dX8_nextKind_3 : decode cX8_nextKind 3 = .ok (.istore_n 3, 1) := by decide +kernel
theorem dX8_nextKind_4 : decode cX8_nextKind 4 = .ok (.iload_n 3, 1) := by decide +kernel
theorem dX8_nextKind_5 : decode cX8_nextKind 5 = .ok (.aload_n 0, 1) := by decide +kernel
theorem dX8_nextKind_6 : decode cX8_nextKind 6 = .ok (.invokevirtual 50, 3) := by decide +kernel
theorem dX8_nextKind_9 : decode cX8_nextKind 9 = .ok (.if_icmp .gt 47, 3) := by decide +kernel
theorem dX8_nextKind_12 : decode cX8_nextKind 12 = .ok (.aload_n 0, 1) := by decide +kernel
theorem dX8_nextKind_13 : decode cX8_nextKind 13 = .ok (.iload_n 3, 1) := by decide +kernel
theorem dX8_nextKind_14 : decode cX8_nextKind 14 = .ok (.iconst 0, 1) := by decide +kernel
theorem dX8_nextKind_15 : decode cX8_nextKind 15 = .ok (.invokevirtual 106, 3) := by decide +kernel
theorem dX8_nextKind_18 : decode cX8_nextKind 18 = .ok (.istore 4, 2) := by decide +kernel
theorem dX8_nextKind_20 : decode cX8_nextKind 20 = .ok (.aload_n 0, 1) := by decide +kernel
theorem dX8_nextKind_21 : decode cX8_nextKind 21 = .ok (.iload_n 3, 1) := by decide +kernel
theorem dX8_nextKind_22 : decode cX8_nextKind 22 = .ok (.iconst 1, 1) := by decide +kernel
theorem dX8_nextKind_23 : decode cX8_nextKind 23 = .ok (.invokevirtual 106, 3) := by decide +kernel
theorem dX8_nextKind_26 : decode cX8_nextKind 26 = .ok (.iload_n 2, 1) := by decide +kernel
theorem dX8_nextKind_27 : decode cX8_nextKind 27 = .ok (.if_icmp .ne 23, 3) := by decide +kernel
theorem dX8_nextKind_30 : decode cX8_nextKind 30 = .ok (.iload 4, 2) := by decide +kernel
theorem dX8_nextKind_32 : decode cX8_nextKind 32 = .ok (.ifCond .eq 15, 3) := by decide +kernel
theorem dX8_nextKind_35 : decode cX8_nextKind 35 = .ok (.iload 4, 2) := by decide +kernel
theorem dX8_nextKind_37 : decode cX8_nextKind 37 = .ok (.iconst 2, 1) := by decide +kernel
theorem dX8_nextKind_38 : decode cX8_nextKind 38 = .ok (.if_icmp .eq 9, 3) := by decide +kernel
theorem dX8_nextKind_41 : decode cX8_nextKind 41 = .ok (.iload 4, 2) := by decide +kernel
theorem dX8_nextKind_43 : decode cX8_nextKind 43 = .ok (.iconst 4, 1) := by decide +kernel
theorem dX8_nextKind_44 : decode cX8_nextKind 44 = .ok (.if_icmp .ne 6, 3) := by decide +kernel
theorem dX8_nextKind_47 : decode cX8_nextKind 47 = .ok (.iload 4, 2) := by decide +kernel
theorem dX8_nextKind_49 : decode cX8_nextKind 49 = .ok (.ireturn, 1) := by decide +kernel
theorem dX8_nextKind_50 : decode cX8_nextKind 50 = .ok (.iinc 3 1, 3) := by decide +kernel
theorem dX8_nextKind_53 : decode cX8_nextKind 53 = .ok (.goto (-49), 3) := by decide +kernel
theorem dX8_nextKind_56 : decode cX8_nextKind 56 = .ok (.ldc 62, 2) := by decide +kernel
theorem dX8_nextKind_58 : decode cX8_nextKind 58 = .ok (.ireturn, 1) := by decide +kernel
theorem dX8_settledValue_0 : decode cX8_settledValue 0 = .ok (.ldc 62, 2) := by decide +kernel
theorem dX8_settledValue_2 : decode cX8_settledValue 2 = .ok (.istore_n 2, 1) := by decide +kernel
theorem dX8_settledValue_3 : decode cX8_settledValue 3 = .ok (.aload_n 0, 1) := by decide +kernel
theorem dX8_settledValue_4 : decode cX8_settledValue 4 = .ok (.getfield 7, 3) := by decide +kernel
theorem dX8_settledValue_7 : decode cX8_settledValue 7 = .ok (.iconst 0, 1) := by decide +kernel
theorem dX8_settledValue_8 : decode cX8_settledValue 8 = .ok (.iaload, 1) := by decide +kernel
theorem dX8_settledValue_9 : decode cX8_settledValue 9 = .ok (.istore_n 3, 1) := by decide +kernel
theorem dX8_settledValue_10 : decode cX8_settledValue 10 = .ok (.iload_n 3, 1) := by decide +kernel
theorem dX8_settledValue_11 : decode cX8_settledValue 11 = .ok (.aload_n 0, 1) := by decide +kernel
theorem dX8_settledValue_12 : decode cX8_settledValue 12 = .ok (.invokevirtual 50, 3) := by decide +kernel
theorem dX8_settledValue_15 : decode cX8_settledValue 15 = .ok (.if_icmp .gt 55, 3) := by decide +kernel
theorem dX8_settledValue_18 : decode cX8_settledValue 18 = .ok (.aload_n 0, 1) := by decide +kernel
theorem dX8_settledValue_19 : decode cX8_settledValue 19 = .ok (.iload_n 3, 1) := by decide +kernel
theorem dX8_settledValue_20 : decode cX8_settledValue 20 = .ok (.iconst 0, 1) := by decide +kernel
theorem dX8_settledValue_21 : decode cX8_settledValue 21 = .ok (.invokevirtual 106, 3) := by decide +kernel
theorem dX8_settledValue_24 : decode cX8_settledValue 24 = .ok (.iconst 1, 1) := by decide +kernel
theorem dX8_settledValue_25 : decode cX8_settledValue 25 = .ok (.if_icmp .ne 37, 3) := by decide +kernel
theorem dX8_settledValue_28 : decode cX8_settledValue 28 = .ok (.aload_n 0, 1) := by decide +kernel
theorem dX8_settledValue_29 : decode cX8_settledValue 29 = .ok (.iload_n 3, 1) := by decide +kernel
theorem dX8_settledValue_30 : decode cX8_settledValue 30 = .ok (.iconst 2, 1) := by decide +kernel
theorem dX8_settledValue_31 : decode cX8_settledValue 31 = .ok (.invokevirtual 106, 3) := by decide +kernel
theorem dX8_settledValue_34 : decode cX8_settledValue 34 = .ok (.iload_n 1, 1) := by decide +kernel
theorem dX8_settledValue_35 : decode cX8_settledValue 35 = .ok (.if_icmp .ne 27, 3) := by decide +kernel
theorem dX8_settledValue_38 : decode cX8_settledValue 38 = .ok (.aload_n 0, 1) := by decide +kernel
theorem dX8_settledValue_39 : decode cX8_settledValue 39 = .ok (.iload_n 3, 1) := by decide +kernel
theorem dX8_settledValue_40 : decode cX8_settledValue 40 = .ok (.aload_n 0, 1) := by decide +kernel
theorem dX8_settledValue_41 : decode cX8_settledValue 41 = .ok (.iload_n 3, 1) := by decide +kernel
theorem dX8_settledValue_42 : decode cX8_settledValue 42 = .ok (.iconst 1, 1) := by decide +kernel
theorem dX8_settledValue_43 : decode cX8_settledValue 43 = .ok (.invokevirtual 106, 3) := by decide +kernel
theorem dX8_settledValue_46 : decode cX8_settledValue 46 = .ok (.invokevirtual 145, 3) := by decide +kernel
theorem dX8_settledValue_49 : decode cX8_settledValue 49 = .ok (.iconst 2, 1) := by decide +kernel
theorem dX8_settledValue_50 : decode cX8_settledValue 50 = .ok (.if_icmp .ne 12, 3) := by decide +kernel
theorem dX8_settledValue_53 : decode cX8_settledValue 53 = .ok (.aload_n 0, 1) := by decide +kernel
theorem dX8_settledValue_54 : decode cX8_settledValue 54 = .ok (.iload_n 3, 1) := by decide +kernel
theorem dX8_settledValue_55 : decode cX8_settledValue 55 = .ok (.iconst 4, 1) := by decide +kernel
theorem dX8_settledValue_56 : decode cX8_settledValue 56 = .ok (.invokevirtual 106, 3) := by decide +kernel
theorem dX8_settledValue_59 : decode cX8_settledValue 59 = .ok (.goto 4, 3) := by decide +kernel
theorem dX8_settledValue_62 : decode cX8_settledValue 62 = .ok (.iload_n 2, 1) := by decide +kernel
theorem dX8_settledValue_63 : decode cX8_settledValue 63 = .ok (.istore_n 2, 1) := by decide +kernel
theorem dX8_settledValue_64 : decode cX8_settledValue 64 = .ok (.iinc 3 1, 3) := by decide +kernel
theorem dX8_settledValue_67 : decode cX8_settledValue 67 = .ok (.goto (-57), 3) := by decide +kernel
theorem dX8_settledValue_70 : decode cX8_settledValue 70 = .ok (.iload_n 2, 1) := by decide +kernel
theorem dX8_settledValue_71 : decode cX8_settledValue 71 = .ok (.ireturn, 1) := by decide +kernel
theorem dX8_pageOf_0 : decode cX8_pageOf 0 = .ok (.iload_n 1, 1) := by decide +kernel
theorem dX8_pageOf_1 : decode cX8_pageOf 1 = .ok (.iconst 0, 1) := by decide +kernel
theorem dX8_pageOf_2 : decode cX8_pageOf 2 = .ok (.bipush 7, 2) := by decide +kernel
theorem dX8_pageOf_4 : decode cX8_pageOf 4 = .ok (.invokestatic 66, 3) := by decide +kernel
theorem dX8_pageOf_7 : decode cX8_pageOf 7 = .ok (.ifCond .eq 13, 3) := by decide +kernel
theorem dX8_pageOf_10 : decode cX8_pageOf 10 = .ok (.iload_n 2, 1) := by decide +kernel
theorem dX8_pageOf_11 : decode cX8_pageOf 11 = .ok (.iconst 0, 1) := by decide +kernel
theorem dX8_pageOf_12 : decode cX8_pageOf 12 = .ok (.bipush 8, 2) := by decide +kernel
theorem dX8_pageOf_14 : decode cX8_pageOf 14 = .ok (.invokestatic 66, 3) := by decide +kernel
theorem dX8_pageOf_17 : decode cX8_pageOf 17 = .ok (.ifCond .ne 6, 3) := by decide +kernel
theorem dX8_pageOf_20 : decode cX8_pageOf 20 = .ok (.ldc 70, 2) := by decide +kernel
theorem dX8_pageOf_22 : decode cX8_pageOf 22 = .ok (.ireturn, 1) := by decide +kernel
theorem dX8_pageOf_23 : decode cX8_pageOf 23 = .ok (.iload_n 2, 1) := by decide +kernel
theorem dX8_pageOf_24 : decode cX8_pageOf 24 = .ok (.tableswitch 116 0 7 #[48, 54, 60, 60, 69, 76, 90, 110], 48) := by decide +kernel
theorem dX8_pageOf_72 : decode cX8_pageOf 72 = .ok (.aload_n 0, 1) := by decide +kernel
theorem dX8_pageOf_73 : decode cX8_pageOf 73 = .ok (.iload_n 1, 1) := by decide +kernel
theorem dX8_pageOf_74 : decode cX8_pageOf 74 = .ok (.invokevirtual 90, 3) := by decide +kernel
theorem dX8_pageOf_77 : decode cX8_pageOf 77 = .ok (.ireturn, 1) := by decide +kernel
theorem dX8_pageOf_78 : decode cX8_pageOf 78 = .ok (.aload_n 0, 1) := by decide +kernel
theorem dX8_pageOf_79 : decode cX8_pageOf 79 = .ok (.iload_n 1, 1) := by decide +kernel
theorem dX8_pageOf_80 : decode cX8_pageOf 80 = .ok (.invokevirtual 46, 3) := by decide +kernel
theorem dX8_pageOf_83 : decode cX8_pageOf 83 = .ok (.ireturn, 1) := by decide +kernel
theorem dX8_pageOf_84 : decode cX8_pageOf 84 = .ok (.aload_n 0, 1) := by decide +kernel
theorem dX8_pageOf_85 : decode cX8_pageOf 85 = .ok (.iload_n 1, 1) := by decide +kernel
theorem dX8_pageOf_86 : decode cX8_pageOf 86 = .ok (.iload_n 2, 1) := by decide +kernel
theorem dX8_pageOf_87 : decode cX8_pageOf 87 = .ok (.iconst 2, 1) := by decide +kernel
theorem dX8_pageOf_88 : decode cX8_pageOf 88 = .ok (.isub, 1) := by decide +kernel
theorem dX8_pageOf_89 : decode cX8_pageOf 89 = .ok (.invokevirtual 43, 3) := by decide +kernel
theorem dX8_pageOf_92 : decode cX8_pageOf 92 = .ok (.ireturn, 1) := by decide +kernel
theorem dX8_pageOf_93 : decode cX8_pageOf 93 = .ok (.aload_n 0, 1) := by decide +kernel
theorem dX8_pageOf_94 : decode cX8_pageOf 94 = .ok (.iload_n 1, 1) := by decide +kernel
theorem dX8_pageOf_95 : decode cX8_pageOf 95 = .ok (.iconst 2, 1) := by decide +kernel
theorem dX8_pageOf_96 : decode cX8_pageOf 96 = .ok (.invokevirtual 43, 3) := by decide +kernel
theorem dX8_pageOf_99 : decode cX8_pageOf 99 = .ok (.ireturn, 1) := by decide +kernel
theorem dX8_pageOf_100 : decode cX8_pageOf 100 = .ok (.aload_n 0, 1) := by decide +kernel
theorem dX8_pageOf_101 : decode cX8_pageOf 101 = .ok (.iload_n 1, 1) := by decide +kernel
theorem dX8_pageOf_102 : decode cX8_pageOf 102 = .ok (.invokevirtual 54, 3) := by decide +kernel
theorem dX8_pageOf_105 : decode cX8_pageOf 105 = .ok (.ifCond .eq 7, 3) := by decide +kernel
theorem dX8_pageOf_108 : decode cX8_pageOf 108 = .ok (.iconst 1, 1) := by decide +kernel
theorem dX8_pageOf_109 : decode cX8_pageOf 109 = .ok (.goto 4, 3) := by decide +kernel
theorem dX8_pageOf_112 : decode cX8_pageOf 112 = .ok (.iconst 0, 1) := by decide +kernel
theorem dX8_pageOf_113 : decode cX8_pageOf 113 = .ok (.ireturn, 1) := by decide +kernel
theorem dX8_pageOf_114 : decode cX8_pageOf 114 = .ok (.aload_n 0, 1) := by decide +kernel
theorem dX8_pageOf_115 : decode cX8_pageOf 115 = .ok (.iload_n 1, 1) := by decide +kernel
theorem dX8_pageOf_116 : decode cX8_pageOf 116 = .ok (.invokevirtual 54, 3) := by decide +kernel
theorem dX8_pageOf_119 : decode cX8_pageOf 119 = .ok (.ifCond .eq 12, 3) := by decide +kernel
theorem dX8_pageOf_122 : decode cX8_pageOf 122 = .ok (.aload_n 0, 1) := by decide +kernel
theorem dX8_pageOf_123 : decode cX8_pageOf 123 = .ok (.iload_n 1, 1) := by decide +kernel
theorem dX8_pageOf_124 : decode cX8_pageOf 124 = .ok (.iconst 5, 1) := by decide +kernel
theorem dX8_pageOf_125 : decode cX8_pageOf 125 = .ok (.invokevirtual 43, 3) := by decide +kernel
theorem dX8_pageOf_128 : decode cX8_pageOf 128 = .ok (.goto 5, 3) := by decide +kernel
theorem dX8_pageOf_131 : decode cX8_pageOf 131 = .ok (.ldc 62, 2) := by decide +kernel
theorem dX8_pageOf_133 : decode cX8_pageOf 133 = .ok (.ireturn, 1) := by decide +kernel
theorem dX8_pageOf_134 : decode cX8_pageOf 134 = .ok (.aload_n 0, 1) := by decide +kernel
theorem dX8_pageOf_135 : decode cX8_pageOf 135 = .ok (.iload_n 1, 1) := by decide +kernel
theorem dX8_pageOf_136 : decode cX8_pageOf 136 = .ok (.invokevirtual 87, 3) := by decide +kernel
theorem dX8_pageOf_139 : decode cX8_pageOf 139 = .ok (.ireturn, 1) := by decide +kernel
theorem dX8_pageOf_140 : decode cX8_pageOf 140 = .ok (.aload_n 0, 1) := by decide +kernel
theorem dX8_pageOf_141 : decode cX8_pageOf 141 = .ok (.iload_n 1, 1) := by decide +kernel
theorem dX8_pageOf_142 : decode cX8_pageOf 142 = .ok (.invokevirtual 148, 3) := by decide +kernel
theorem dX8_pageOf_145 : decode cX8_pageOf 145 = .ok (.ireturn, 1) := by decide +kernel
theorem dX8_recordOf_0 : decode cX8_recordOf 0 = .ok (.iload_n 1, 1) := by decide +kernel
theorem dX8_recordOf_1 : decode cX8_recordOf 1 = .ok (.iconst 1, 1) := by decide +kernel
theorem dX8_recordOf_2 : decode cX8_recordOf 2 = .ok (.if_icmp .lt 13, 3) := by decide +kernel
theorem dX8_recordOf_5 : decode cX8_recordOf 5 = .ok (.iload_n 2, 1) := by decide +kernel
theorem dX8_recordOf_6 : decode cX8_recordOf 6 = .ok (.iconst 0, 1) := by decide +kernel
theorem dX8_recordOf_7 : decode cX8_recordOf 7 = .ok (.bipush 8, 2) := by decide +kernel
theorem dX8_recordOf_9 : decode cX8_recordOf 9 = .ok (.invokestatic 66, 3) := by decide +kernel
theorem dX8_recordOf_12 : decode cX8_recordOf 12 = .ok (.ifCond .ne 6, 3) := by decide +kernel
theorem dX8_recordOf_15 : decode cX8_recordOf 15 = .ok (.ldc 70, 2) := by decide +kernel
theorem dX8_recordOf_17 : decode cX8_recordOf 17 = .ok (.ireturn, 1) := by decide +kernel
theorem dX8_recordOf_18 : decode cX8_recordOf 18 = .ok (.aload_n 0, 1) := by decide +kernel
theorem dX8_recordOf_19 : decode cX8_recordOf 19 = .ok (.iload_n 1, 1) := by decide +kernel
theorem dX8_recordOf_20 : decode cX8_recordOf 20 = .ok (.invokevirtual 151, 3) := by decide +kernel
theorem dX8_recordOf_23 : decode cX8_recordOf 23 = .ok (.ifCond .ne 6, 3) := by decide +kernel
theorem dX8_recordOf_26 : decode cX8_recordOf 26 = .ok (.ldc 62, 2) := by decide +kernel
theorem dX8_recordOf_28 : decode cX8_recordOf 28 = .ok (.ireturn, 1) := by decide +kernel
theorem dX8_recordOf_29 : decode cX8_recordOf 29 = .ok (.aload_n 0, 1) := by decide +kernel
theorem dX8_recordOf_30 : decode cX8_recordOf 30 = .ok (.iload_n 1, 1) := by decide +kernel
theorem dX8_recordOf_31 : decode cX8_recordOf 31 = .ok (.iconst 0, 1) := by decide +kernel
theorem dX8_recordOf_32 : decode cX8_recordOf 32 = .ok (.invokevirtual 106, 3) := by decide +kernel
theorem dX8_recordOf_35 : decode cX8_recordOf 35 = .ok (.istore_n 3, 1) := by decide +kernel
theorem dX8_recordOf_36 : decode cX8_recordOf 36 = .ok (.iload_n 2, 1) := by decide +kernel
theorem dX8_recordOf_37 : decode cX8_recordOf 37 = .ok (.tableswitch 77 5 8 #[31, 47, 47, 70], 31) := by decide +kernel
theorem dX8_recordOf_68 : decode cX8_recordOf 68 = .ok (.iload_n 1, 1) := by decide +kernel
theorem dX8_recordOf_69 : decode cX8_recordOf 69 = .ok (.aload_n 0, 1) := by decide +kernel
theorem dX8_recordOf_70 : decode cX8_recordOf 70 = .ok (.getfield 7, 3) := by decide +kernel
theorem dX8_recordOf_73 : decode cX8_recordOf 73 = .ok (.iconst 2, 1) := by decide +kernel
theorem dX8_recordOf_74 : decode cX8_recordOf 74 = .ok (.iaload, 1) := by decide +kernel
theorem dX8_recordOf_75 : decode cX8_recordOf 75 = .ok (.if_icmp .gt 7, 3) := by decide +kernel
theorem dX8_recordOf_78 : decode cX8_recordOf 78 = .ok (.iconst 1, 1) := by decide +kernel
theorem dX8_recordOf_79 : decode cX8_recordOf 79 = .ok (.goto 4, 3) := by decide +kernel
theorem dX8_recordOf_82 : decode cX8_recordOf 82 = .ok (.iconst 0, 1) := by decide +kernel
theorem dX8_recordOf_83 : decode cX8_recordOf 83 = .ok (.ireturn, 1) := by decide +kernel
theorem dX8_recordOf_84 : decode cX8_recordOf 84 = .ok (.iload_n 3, 1) := by decide +kernel
theorem dX8_recordOf_85 : decode cX8_recordOf 85 = .ok (.iconst 5, 1) := by decide +kernel
theorem dX8_recordOf_86 : decode cX8_recordOf 86 = .ok (.if_icmp .ne 18, 3) := by decide +kernel
theorem dX8_recordOf_89 : decode cX8_recordOf 89 = .ok (.aload_n 0, 1) := by decide +kernel
theorem dX8_recordOf_90 : decode cX8_recordOf 90 = .ok (.iload_n 1, 1) := by decide +kernel
theorem dX8_recordOf_91 : decode cX8_recordOf 91 = .ok (.bipush 6, 2) := by decide +kernel
theorem dX8_recordOf_93 : decode cX8_recordOf 93 = .ok (.iload_n 2, 1) := by decide +kernel
theorem dX8_recordOf_94 : decode cX8_recordOf 94 = .ok (.iadd, 1) := by decide +kernel
theorem dX8_recordOf_95 : decode cX8_recordOf 95 = .ok (.bipush 6, 2) := by decide +kernel
theorem dX8_recordOf_97 : decode cX8_recordOf 97 = .ok (.isub, 1) := by decide +kernel
theorem dX8_recordOf_98 : decode cX8_recordOf 98 = .ok (.invokevirtual 106, 3) := by decide +kernel
theorem dX8_recordOf_101 : decode cX8_recordOf 101 = .ok (.goto 5, 3) := by decide +kernel
theorem dX8_recordOf_104 : decode cX8_recordOf 104 = .ok (.ldc 62, 2) := by decide +kernel
theorem dX8_recordOf_106 : decode cX8_recordOf 106 = .ok (.ireturn, 1) := by decide +kernel
theorem dX8_recordOf_107 : decode cX8_recordOf 107 = .ok (.aload_n 0, 1) := by decide +kernel
theorem dX8_recordOf_108 : decode cX8_recordOf 108 = .ok (.iload_n 1, 1) := by decide +kernel
theorem dX8_recordOf_109 : decode cX8_recordOf 109 = .ok (.iconst 5, 1) := by decide +kernel
theorem dX8_recordOf_110 : decode cX8_recordOf 110 = .ok (.invokevirtual 106, 3) := by decide +kernel
theorem dX8_recordOf_113 : decode cX8_recordOf 113 = .ok (.ireturn, 1) := by decide +kernel
theorem dX8_recordOf_114 : decode cX8_recordOf 114 = .ok (.aload_n 0, 1) := by decide +kernel
theorem dX8_recordOf_115 : decode cX8_recordOf 115 = .ok (.iload_n 1, 1) := by decide +kernel
theorem dX8_recordOf_116 : decode cX8_recordOf 116 = .ok (.iload_n 2, 1) := by decide +kernel
theorem dX8_recordOf_117 : decode cX8_recordOf 117 = .ok (.invokevirtual 106, 3) := by decide +kernel
theorem dX8_recordOf_120 : decode cX8_recordOf 120 = .ok (.ireturn, 1) := by decide +kernel
theorem dX8_groupOf_0 : decode cX8_groupOf 0 = .ok (.iload_n 1, 1) := by decide +kernel
theorem dX8_groupOf_1 : decode cX8_groupOf 1 = .ok (.iconst 0, 1) := by decide +kernel
theorem dX8_groupOf_2 : decode cX8_groupOf 2 = .ok (.iconst 3, 1) := by decide +kernel
theorem dX8_groupOf_3 : decode cX8_groupOf 3 = .ok (.invokestatic 66, 3) := by decide +kernel
theorem dX8_groupOf_6 : decode cX8_groupOf 6 = .ok (.ifCond .eq 12, 3) := by decide +kernel
theorem dX8_groupOf_9 : decode cX8_groupOf 9 = .ok (.iload_n 2, 1) := by decide +kernel
theorem dX8_groupOf_10 : decode cX8_groupOf 10 = .ok (.iconst 0, 1) := by decide +kernel
theorem dX8_groupOf_11 : decode cX8_groupOf 11 = .ok (.iconst 3, 1) := by decide +kernel
theorem dX8_groupOf_12 : decode cX8_groupOf 12 = .ok (.invokestatic 66, 3) := by decide +kernel
theorem dX8_groupOf_15 : decode cX8_groupOf 15 = .ok (.ifCond .ne 6, 3) := by decide +kernel
theorem dX8_groupOf_18 : decode cX8_groupOf 18 = .ok (.ldc 70, 2) := by decide +kernel
theorem dX8_groupOf_20 : decode cX8_groupOf 20 = .ok (.ireturn, 1) := by decide +kernel
theorem dX8_groupOf_21 : decode cX8_groupOf 21 = .ok (.iload_n 2, 1) := by decide +kernel
theorem dX8_groupOf_22 : decode cX8_groupOf 22 = .ok (.ifCond .le 16, 3) := by decide +kernel
theorem dX8_groupOf_25 : decode cX8_groupOf 25 = .ok (.aload_n 0, 1) := by decide +kernel
theorem dX8_groupOf_26 : decode cX8_groupOf 26 = .ok (.iload_n 1, 1) := by decide +kernel
theorem dX8_groupOf_27 : decode cX8_groupOf 27 = .ok (.invokevirtual 63, 3) := by decide +kernel
theorem dX8_groupOf_30 : decode cX8_groupOf 30 = .ok (.ifCond .ne 8, 3) := by decide +kernel
theorem dX8_groupOf_33 : decode cX8_groupOf 33 = .ok (.ldc 62, 2) := by decide +kernel
theorem dX8_groupOf_35 : decode cX8_groupOf 35 = .ok (.goto 9, 3) := by decide +kernel
theorem dX8_groupOf_38 : decode cX8_groupOf 38 = .ok (.aload_n 0, 1) := by decide +kernel
theorem dX8_groupOf_39 : decode cX8_groupOf 39 = .ok (.iload_n 1, 1) := by decide +kernel
theorem dX8_groupOf_40 : decode cX8_groupOf 40 = .ok (.iload_n 2, 1) := by decide +kernel
theorem dX8_groupOf_41 : decode cX8_groupOf 41 = .ok (.invokevirtual 39, 3) := by decide +kernel
theorem dX8_groupOf_44 : decode cX8_groupOf 44 = .ok (.ireturn, 1) := by decide +kernel
theorem dX8_would_0 : decode cX8_would 0 = .ok (.iload_n 1, 1) := by decide +kernel
theorem dX8_would_1 : decode cX8_would 1 = .ok (.iconst 0, 1) := by decide +kernel
theorem dX8_would_2 : decode cX8_would 2 = .ok (.iconst 1, 1) := by decide +kernel
theorem dX8_would_3 : decode cX8_would 3 = .ok (.invokestatic 66, 3) := by decide +kernel
theorem dX8_would_6 : decode cX8_would 6 = .ok (.ifCond .eq 23, 3) := by decide +kernel
theorem dX8_would_9 : decode cX8_would 9 = .ok (.iload_n 2, 1) := by decide +kernel
theorem dX8_would_10 : decode cX8_would 10 = .ok (.iconst 0, 1) := by decide +kernel
theorem dX8_would_11 : decode cX8_would 11 = .ok (.iconst 4, 1) := by decide +kernel
theorem dX8_would_12 : decode cX8_would 12 = .ok (.invokestatic 66, 3) := by decide +kernel
theorem dX8_would_15 : decode cX8_would 15 = .ok (.ifCond .ne 17, 3) := by decide +kernel
theorem dX8_would_18 : decode cX8_would 18 = .ok (.iload_n 2, 1) := by decide +kernel
theorem dX8_would_19 : decode cX8_would 19 = .ok (.bipush 10, 2) := by decide +kernel
theorem dX8_would_21 : decode cX8_would 21 = .ok (.bipush 17, 2) := by decide +kernel
theorem dX8_would_23 : decode cX8_would 23 = .ok (.invokestatic 66, 3) := by decide +kernel
theorem dX8_would_26 : decode cX8_would 26 = .ok (.ifCond .ne 6, 3) := by decide +kernel
theorem dX8_would_29 : decode cX8_would 29 = .ok (.ldc 70, 2) := by decide +kernel
theorem dX8_would_31 : decode cX8_would 31 = .ok (.ireturn, 1) := by decide +kernel
theorem dX8_would_32 : decode cX8_would 32 = .ok (.aload_n 0, 1) := by decide +kernel
theorem dX8_would_33 : decode cX8_would 33 = .ok (.invokevirtual 71, 3) := by decide +kernel
theorem dX8_would_36 : decode cX8_would 36 = .ok (.ifCond .eq 6, 3) := by decide +kernel
theorem dX8_would_39 : decode cX8_would 39 = .ok (.ldc 75, 2) := by decide +kernel
theorem dX8_would_41 : decode cX8_would 41 = .ok (.ireturn, 1) := by decide +kernel
theorem dX8_would_42 : decode cX8_would 42 = .ok (.aload_n 0, 1) := by decide +kernel
theorem dX8_would_43 : decode cX8_would 43 = .ok (.getfield 7, 3) := by decide +kernel
theorem dX8_would_46 : decode cX8_would 46 = .ok (.aload_n 0, 1) := by decide +kernel
theorem dX8_would_47 : decode cX8_would 47 = .ok (.getfield 19, 3) := by decide +kernel
theorem dX8_would_50 : decode cX8_would 50 = .ok (.invokestatic 154, 3) := by decide +kernel
theorem dX8_would_53 : decode cX8_would 53 = .ok (.aload_n 0, 1) := by decide +kernel
theorem dX8_would_54 : decode cX8_would 54 = .ok (.iload_n 1, 1) := by decide +kernel
theorem dX8_would_55 : decode cX8_would 55 = .ok (.invokevirtual 130, 3) := by decide +kernel
theorem dX8_would_58 : decode cX8_would 58 = .ok (.istore_n 3, 1) := by decide +kernel
theorem dX8_would_59 : decode cX8_would 59 = .ok (.aload_n 0, 1) := by decide +kernel
theorem dX8_would_60 : decode cX8_would 60 = .ok (.invokevirtual 121, 3) := by decide +kernel
theorem dX8_would_63 : decode cX8_would 63 = .ok (.istore 4, 2) := by decide +kernel
theorem dX8_would_65 : decode cX8_would 65 = .ok (.aload_n 0, 1) := by decide +kernel
theorem dX8_would_66 : decode cX8_would 66 = .ok (.getfield 7, 3) := by decide +kernel
theorem dX8_would_69 : decode cX8_would 69 = .ok (.iconst 1, 1) := by decide +kernel
theorem dX8_would_70 : decode cX8_would 70 = .ok (.iaload, 1) := by decide +kernel
theorem dX8_would_71 : decode cX8_would 71 = .ok (.ifCond .ne 8, 3) := by decide +kernel
theorem dX8_would_74 : decode cX8_would 74 = .ok (.ldc 62, 2) := by decide +kernel
theorem dX8_would_76 : decode cX8_would 76 = .ok (.goto 19, 3) := by decide +kernel
theorem dX8_would_79 : decode cX8_would 79 = .ok (.iload 4, 2) := by decide +kernel
theorem dX8_would_81 : decode cX8_would 81 = .ok (.ifCond .ne 12, 3) := by decide +kernel
theorem dX8_would_84 : decode cX8_would 84 = .ok (.aload_n 0, 1) := by decide +kernel
theorem dX8_would_85 : decode cX8_would 85 = .ok (.getfield 7, 3) := by decide +kernel
theorem dX8_would_88 : decode cX8_would 88 = .ok (.iconst 0, 1) := by decide +kernel
theorem dX8_would_89 : decode cX8_would 89 = .ok (.iaload, 1) := by decide +kernel
theorem dX8_would_90 : decode cX8_would 90 = .ok (.goto 5, 3) := by decide +kernel
theorem dX8_would_93 : decode cX8_would 93 = .ok (.iload 4, 2) := by decide +kernel
theorem dX8_would_95 : decode cX8_would 95 = .ok (.istore 5, 2) := by decide +kernel
theorem dX8_would_97 : decode cX8_would 97 = .ok (.aload_n 0, 1) := by decide +kernel
theorem dX8_would_98 : decode cX8_would 98 = .ok (.invokevirtual 142, 3) := by decide +kernel
theorem dX8_would_101 : decode cX8_would 101 = .ok (.istore 6, 2) := by decide +kernel
theorem dX8_would_103 : decode cX8_would 103 = .ok (.iload_n 2, 1) := by decide +kernel
theorem dX8_would_104 : decode cX8_would 104 = .ok (.iconst 4, 1) := by decide +kernel
theorem dX8_would_105 : decode cX8_would 105 = .ok (.if_icmp .le 14, 3) := by decide +kernel
theorem dX8_would_108 : decode cX8_would 108 = .ok (.aload_n 0, 1) := by decide +kernel
theorem dX8_would_109 : decode cX8_would 109 = .ok (.iload_n 2, 1) := by decide +kernel
theorem dX8_would_110 : decode cX8_would 110 = .ok (.bipush 10, 2) := by decide +kernel
theorem dX8_would_112 : decode cX8_would 112 = .ok (.isub, 1) := by decide +kernel
theorem dX8_would_113 : decode cX8_would 113 = .ok (.invokevirtual 90, 3) := by decide +kernel
theorem dX8_would_116 : decode cX8_would 116 = .ok (.goto 4, 3) := by decide +kernel
theorem dX8_would_119 : decode cX8_would 119 = .ok (.iconst 0, 1) := by decide +kernel
theorem dX8_would_120 : decode cX8_would 120 = .ok (.istore 7, 2) := by decide +kernel
theorem dX8_would_122 : decode cX8_would 122 = .ok (.aload_n 0, 1) := by decide +kernel
theorem dX8_would_123 : decode cX8_would 123 = .ok (.getfield 19, 3) := by decide +kernel
theorem dX8_would_126 : decode cX8_would 126 = .ok (.aload_n 0, 1) := by decide +kernel
theorem dX8_would_127 : decode cX8_would 127 = .ok (.getfield 7, 3) := by decide +kernel
theorem dX8_would_130 : decode cX8_would 130 = .ok (.invokestatic 154, 3) := by decide +kernel
theorem dX8_would_133 : decode cX8_would 133 = .ok (.iload_n 2, 1) := by decide +kernel
theorem dX8_would_134 : decode cX8_would 134 = .ok (.ifCond .ne 7, 3) := by decide +kernel
theorem dX8_would_137 : decode cX8_would 137 = .ok (.iload_n 3, 1) := by decide +kernel
theorem dX8_would_138 : decode cX8_would 138 = .ok (.goto 49, 3) := by decide +kernel
theorem dX8_would_141 : decode cX8_would 141 = .ok (.iload_n 2, 1) := by decide +kernel
theorem dX8_would_142 : decode cX8_would 142 = .ok (.iconst 1, 1) := by decide +kernel
theorem dX8_would_143 : decode cX8_would 143 = .ok (.if_icmp .ne 8, 3) := by decide +kernel
theorem dX8_would_146 : decode cX8_would 146 = .ok (.iload 6, 2) := by decide +kernel
theorem dX8_would_148 : decode cX8_would 148 = .ok (.goto 39, 3) := by decide +kernel
theorem dX8_would_151 : decode cX8_would 151 = .ok (.iload_n 2, 1) := by decide +kernel
theorem dX8_would_152 : decode cX8_would 152 = .ok (.iconst 2, 1) := by decide +kernel
theorem dX8_would_153 : decode cX8_would 153 = .ok (.if_icmp .ne 10, 3) := by decide +kernel
theorem dX8_would_156 : decode cX8_would 156 = .ok (.aload_n 0, 1) := by decide +kernel
theorem dX8_would_157 : decode cX8_would 157 = .ok (.getfield 139, 3) := by decide +kernel
theorem dX8_would_160 : decode cX8_would 160 = .ok (.goto 27, 3) := by decide +kernel
theorem dX8_would_163 : decode cX8_would 163 = .ok (.iload_n 2, 1) := by decide +kernel
theorem dX8_would_164 : decode cX8_would 164 = .ok (.iconst 3, 1) := by decide +kernel
theorem dX8_would_165 : decode cX8_would 165 = .ok (.if_icmp .ne 10, 3) := by decide +kernel
theorem dX8_would_168 : decode cX8_would 168 = .ok (.aload_n 0, 1) := by decide +kernel
theorem dX8_would_169 : decode cX8_would 169 = .ok (.getfield 133, 3) := by decide +kernel
theorem dX8_would_172 : decode cX8_would 172 = .ok (.goto 15, 3) := by decide +kernel
theorem dX8_would_175 : decode cX8_would 175 = .ok (.iload_n 2, 1) := by decide +kernel
theorem dX8_would_176 : decode cX8_would 176 = .ok (.iconst 4, 1) := by decide +kernel
theorem dX8_would_177 : decode cX8_would 177 = .ok (.if_icmp .ne 8, 3) := by decide +kernel
theorem dX8_would_180 : decode cX8_would 180 = .ok (.iload 5, 2) := by decide +kernel
theorem dX8_would_182 : decode cX8_would 182 = .ok (.goto 5, 3) := by decide +kernel
theorem dX8_would_185 : decode cX8_would 185 = .ok (.iload 7, 2) := by decide +kernel
theorem dX8_would_187 : decode cX8_would 187 = .ok (.ireturn, 1) := by decide +kernel
theorem dX8_count_0 : decode cX8_count 0 = .ok (.iload_n 1, 1) := by decide +kernel
theorem dX8_count_1 : decode cX8_count 1 = .ok (.tableswitch 194 0 12 #[67, 74, 94, 112, 147, 152, 152, 160, 167, 172, 177, 184, 189], 67) := by decide +kernel
theorem dX8_count_68 : decode cX8_count 68 = .ok (.aload_n 0, 1) := by decide +kernel
theorem dX8_count_69 : decode cX8_count 69 = .ok (.getfield 7, 3) := by decide +kernel
theorem dX8_count_72 : decode cX8_count 72 = .ok (.iconst 1, 1) := by decide +kernel
theorem dX8_count_73 : decode cX8_count 73 = .ok (.iaload, 1) := by decide +kernel
theorem dX8_count_74 : decode cX8_count 74 = .ok (.ireturn, 1) := by decide +kernel
theorem dX8_count_75 : decode cX8_count 75 = .ok (.aload_n 0, 1) := by decide +kernel
theorem dX8_count_76 : decode cX8_count 76 = .ok (.getfield 7, 3) := by decide +kernel
theorem dX8_count_79 : decode cX8_count 79 = .ok (.iconst 1, 1) := by decide +kernel
theorem dX8_count_80 : decode cX8_count 80 = .ok (.iaload, 1) := by decide +kernel
theorem dX8_count_81 : decode cX8_count 81 = .ok (.ifCond .ne 7, 3) := by decide +kernel
theorem dX8_count_84 : decode cX8_count 84 = .ok (.iconst 0, 1) := by decide +kernel
theorem dX8_count_85 : decode cX8_count 85 = .ok (.goto 9, 3) := by decide +kernel
theorem dX8_count_88 : decode cX8_count 88 = .ok (.aload_n 0, 1) := by decide +kernel
theorem dX8_count_89 : decode cX8_count 89 = .ok (.getfield 7, 3) := by decide +kernel
theorem dX8_count_92 : decode cX8_count 92 = .ok (.iconst 0, 1) := by decide +kernel
theorem dX8_count_93 : decode cX8_count 93 = .ok (.iaload, 1) := by decide +kernel
theorem dX8_count_94 : decode cX8_count 94 = .ok (.ireturn, 1) := by decide +kernel
theorem dX8_count_95 : decode cX8_count 95 = .ok (.aload_n 0, 1) := by decide +kernel
theorem dX8_count_96 : decode cX8_count 96 = .ok (.getfield 7, 3) := by decide +kernel
theorem dX8_count_99 : decode cX8_count 99 = .ok (.iconst 1, 1) := by decide +kernel
theorem dX8_count_100 : decode cX8_count 100 = .ok (.iaload, 1) := by decide +kernel
theorem dX8_count_101 : decode cX8_count 101 = .ok (.ifCond .ne 7, 3) := by decide +kernel
theorem dX8_count_104 : decode cX8_count 104 = .ok (.iconst 0, 1) := by decide +kernel
theorem dX8_count_105 : decode cX8_count 105 = .ok (.goto 7, 3) := by decide +kernel
theorem dX8_count_108 : decode cX8_count 108 = .ok (.aload_n 0, 1) := by decide +kernel
theorem dX8_count_109 : decode cX8_count 109 = .ok (.invokevirtual 50, 3) := by decide +kernel
theorem dX8_count_112 : decode cX8_count 112 = .ok (.ireturn, 1) := by decide +kernel
theorem dX8_count_113 : decode cX8_count 113 = .ok (.aload_n 0, 1) := by decide +kernel
theorem dX8_count_114 : decode cX8_count 114 = .ok (.getfield 7, 3) := by decide +kernel
theorem dX8_count_117 : decode cX8_count 117 = .ok (.iconst 2, 1) := by decide +kernel
theorem dX8_count_118 : decode cX8_count 118 = .ok (.iaload, 1) := by decide +kernel
theorem dX8_count_119 : decode cX8_count 119 = .ok (.aload_n 0, 1) := by decide +kernel
theorem dX8_count_120 : decode cX8_count 120 = .ok (.getfield 7, 3) := by decide +kernel
theorem dX8_count_123 : decode cX8_count 123 = .ok (.iconst 0, 1) := by decide +kernel
theorem dX8_count_124 : decode cX8_count 124 = .ok (.iaload, 1) := by decide +kernel
theorem dX8_count_125 : decode cX8_count 125 = .ok (.if_icmp .lt 21, 3) := by decide +kernel
theorem dX8_count_128 : decode cX8_count 128 = .ok (.aload_n 0, 1) := by decide +kernel
theorem dX8_count_129 : decode cX8_count 129 = .ok (.getfield 7, 3) := by decide +kernel
theorem dX8_count_132 : decode cX8_count 132 = .ok (.iconst 2, 1) := by decide +kernel
theorem dX8_count_133 : decode cX8_count 133 = .ok (.iaload, 1) := by decide +kernel
theorem dX8_count_134 : decode cX8_count 134 = .ok (.aload_n 0, 1) := by decide +kernel
theorem dX8_count_135 : decode cX8_count 135 = .ok (.getfield 7, 3) := by decide +kernel
theorem dX8_count_138 : decode cX8_count 138 = .ok (.iconst 0, 1) := by decide +kernel
theorem dX8_count_139 : decode cX8_count 139 = .ok (.iaload, 1) := by decide +kernel
theorem dX8_count_140 : decode cX8_count 140 = .ok (.isub, 1) := by decide +kernel
theorem dX8_count_141 : decode cX8_count 141 = .ok (.iconst 1, 1) := by decide +kernel
theorem dX8_count_142 : decode cX8_count 142 = .ok (.iadd, 1) := by decide +kernel
theorem dX8_count_143 : decode cX8_count 143 = .ok (.goto 4, 3) := by decide +kernel
theorem dX8_count_146 : decode cX8_count 146 = .ok (.iconst 0, 1) := by decide +kernel
theorem dX8_count_147 : decode cX8_count 147 = .ok (.ireturn, 1) := by decide +kernel
theorem dX8_count_148 : decode cX8_count 148 = .ok (.aload_n 0, 1) := by decide +kernel
theorem dX8_count_149 : decode cX8_count 149 = .ok (.invokevirtual 118, 3) := by decide +kernel
theorem dX8_count_152 : decode cX8_count 152 = .ok (.ireturn, 1) := by decide +kernel
theorem dX8_count_153 : decode cX8_count 153 = .ok (.aload_n 0, 1) := by decide +kernel
theorem dX8_count_154 : decode cX8_count 154 = .ok (.iload_n 1, 1) := by decide +kernel
theorem dX8_count_155 : decode cX8_count 155 = .ok (.iconst 5, 1) := by decide +kernel
theorem dX8_count_156 : decode cX8_count 156 = .ok (.isub, 1) := by decide +kernel
theorem dX8_count_157 : decode cX8_count 157 = .ok (.invokevirtual 115, 3) := by decide +kernel
theorem dX8_count_160 : decode cX8_count 160 = .ok (.ireturn, 1) := by decide +kernel
theorem dX8_count_161 : decode cX8_count 161 = .ok (.aload_n 0, 1) := by decide +kernel
theorem dX8_count_162 : decode cX8_count 162 = .ok (.getfield 7, 3) := by decide +kernel
theorem dX8_count_165 : decode cX8_count 165 = .ok (.iconst 3, 1) := by decide +kernel
theorem dX8_count_166 : decode cX8_count 166 = .ok (.iaload, 1) := by decide +kernel
theorem dX8_count_167 : decode cX8_count 167 = .ok (.ireturn, 1) := by decide +kernel
theorem dX8_count_168 : decode cX8_count 168 = .ok (.aload_n 0, 1) := by decide +kernel
theorem dX8_count_169 : decode cX8_count 169 = .ok (.invokevirtual 121, 3) := by decide +kernel
theorem dX8_count_172 : decode cX8_count 172 = .ok (.ireturn, 1) := by decide +kernel
theorem dX8_count_173 : decode cX8_count 173 = .ok (.aload_n 0, 1) := by decide +kernel
theorem dX8_count_174 : decode cX8_count 174 = .ok (.invokevirtual 124, 3) := by decide +kernel
theorem dX8_count_177 : decode cX8_count 177 = .ok (.ireturn, 1) := by decide +kernel
theorem dX8_count_178 : decode cX8_count 178 = .ok (.aload_n 0, 1) := by decide +kernel
theorem dX8_count_179 : decode cX8_count 179 = .ok (.getfield 7, 3) := by decide +kernel
theorem dX8_count_182 : decode cX8_count 182 = .ok (.iconst 4, 1) := by decide +kernel
theorem dX8_count_183 : decode cX8_count 183 = .ok (.iaload, 1) := by decide +kernel
theorem dX8_count_184 : decode cX8_count 184 = .ok (.ireturn, 1) := by decide +kernel
end
section
theorem dX8_count_185 : decode cX8_count 185 = .ok (.aload_n 0, 1) := by decide +kernel
theorem dX8_count_186 : decode cX8_count 186 = .ok (.getfield 35, 3) := by decide +kernel
theorem dX8_count_189 : decode cX8_count 189 = .ok (.ireturn, 1) := by decide +kernel
theorem dX8_count_190 : decode cX8_count 190 = .ok (.aload_n 0, 1) := by decide +kernel
theorem dX8_count_191 : decode cX8_count 191 = .ok (.getfield 158, 3) := by decide +kernel
theorem dX8_count_194 : decode cX8_count 194 = .ok (.ireturn, 1) := by decide +kernel
theorem dX8_count_195 : decode cX8_count 195 = .ok (.ldc 70, 2) := by decide +kernel
theorem dX8_count_197 : decode cX8_count 197 = .ok (.ireturn, 1) := by decide +kernel
theorem dX8_undo_0 : decode cX8_undo 0 = .ok (.aload_n 0, 1) := by decide +kernel
theorem dX8_undo_1 : decode cX8_undo 1 = .ok (.getfield 35, 3) := by decide +kernel
theorem dX8_undo_4 : decode cX8_undo 4 = .ok (.ifCond .ne 6, 3) := by decide +kernel
theorem dX8_undo_7 : decode cX8_undo 7 = .ok (.ldc 75, 2) := by decide +kernel
theorem dX8_undo_9 : decode cX8_undo 9 = .ok (.ireturn, 1) := by decide +kernel
theorem dX8_undo_10 : decode cX8_undo 10 = .ok (.aload_n 0, 1) := by decide +kernel
theorem dX8_undo_11 : decode cX8_undo 11 = .ok (.dup, 1) := by decide +kernel
theorem dX8_undo_12 : decode cX8_undo 12 = .ok (.getfield 35, 3) := by decide +kernel
theorem dX8_undo_15 : decode cX8_undo 15 = .ok (.iconst 1, 1) := by decide +kernel
theorem dX8_undo_16 : decode cX8_undo 16 = .ok (.isub, 1) := by decide +kernel
theorem dX8_undo_17 : decode cX8_undo 17 = .ok (.putfield 35, 3) := by decide +kernel
theorem dX8_undo_20 : decode cX8_undo 20 = .ok (.iconst 0, 1) := by decide +kernel
theorem dX8_undo_21 : decode cX8_undo 21 = .ok (.istore_n 1, 1) := by decide +kernel
theorem dX8_undo_22 : decode cX8_undo 22 = .ok (.iload_n 1, 1) := by decide +kernel
theorem dX8_undo_23 : decode cX8_undo 23 = .ok (.sipush 2117, 3) := by decide +kernel
theorem dX8_undo_26 : decode cX8_undo 26 = .ok (.if_icmp .ge 30, 3) := by decide +kernel
theorem dX8_undo_29 : decode cX8_undo 29 = .ok (.aload_n 0, 1) := by decide +kernel
theorem dX8_undo_30 : decode cX8_undo 30 = .ok (.getfield 7, 3) := by decide +kernel
theorem dX8_undo_33 : decode cX8_undo 33 = .ok (.iload_n 1, 1) := by decide +kernel
theorem dX8_undo_34 : decode cX8_undo 34 = .ok (.aload_n 0, 1) := by decide +kernel
theorem dX8_undo_35 : decode cX8_undo 35 = .ok (.getfield 13, 3) := by decide +kernel
theorem dX8_undo_38 : decode cX8_undo 38 = .ok (.sipush 2117, 3) := by decide +kernel
theorem dX8_undo_41 : decode cX8_undo 41 = .ok (.aload_n 0, 1) := by decide +kernel
theorem dX8_undo_42 : decode cX8_undo 42 = .ok (.getfield 35, 3) := by decide +kernel
theorem dX8_undo_45 : decode cX8_undo 45 = .ok (.imul, 1) := by decide +kernel
theorem dX8_undo_46 : decode cX8_undo 46 = .ok (.iload_n 1, 1) := by decide +kernel
theorem dX8_undo_47 : decode cX8_undo 47 = .ok (.iadd, 1) := by decide +kernel
theorem dX8_undo_48 : decode cX8_undo 48 = .ok (.iaload, 1) := by decide +kernel
theorem dX8_undo_49 : decode cX8_undo 49 = .ok (.iastore, 1) := by decide +kernel
theorem dX8_undo_50 : decode cX8_undo 50 = .ok (.iinc 1 1, 3) := by decide +kernel
theorem dX8_undo_53 : decode cX8_undo 53 = .ok (.goto (-31), 3) := by decide +kernel
theorem dX8_undo_56 : decode cX8_undo 56 = .ok (.aload_n 0, 1) := by decide +kernel
theorem dX8_undo_57 : decode cX8_undo 57 = .ok (.getfield 35, 3) := by decide +kernel
theorem dX8_undo_60 : decode cX8_undo 60 = .ok (.ireturn, 1) := by decide +kernel
theorem dX8_type_0 : decode cX8_type 0 = .ok (.iload_n 1, 1) := by decide +kernel
theorem dX8_type_1 : decode cX8_type 1 = .ok (.bipush 32, 2) := by decide +kernel
theorem dX8_type_3 : decode cX8_type 3 = .ok (.bipush 126, 2) := by decide +kernel
theorem dX8_type_5 : decode cX8_type 5 = .ok (.invokestatic 66, 3) := by decide +kernel
theorem dX8_type_8 : decode cX8_type 8 = .ok (.ifCond .ne 6, 3) := by decide +kernel
theorem dX8_type_11 : decode cX8_type 11 = .ok (.ldc 70, 2) := by decide +kernel
theorem dX8_type_13 : decode cX8_type 13 = .ok (.ireturn, 1) := by decide +kernel
theorem dX8_type_14 : decode cX8_type 14 = .ok (.aload_n 0, 1) := by decide +kernel
theorem dX8_type_15 : decode cX8_type 15 = .ok (.getfield 158, 3) := by decide +kernel
theorem dX8_type_18 : decode cX8_type 18 = .ok (.bipush 80, 2) := by decide +kernel
theorem dX8_type_20 : decode cX8_type 20 = .ok (.if_icmp .ne 6, 3) := by decide +kernel
theorem dX8_type_23 : decode cX8_type 23 = .ok (.ldc 76, 2) := by decide +kernel
theorem dX8_type_25 : decode cX8_type 25 = .ok (.ireturn, 1) := by decide +kernel
theorem dX8_type_26 : decode cX8_type 26 = .ok (.aload_n 0, 1) := by decide +kernel
theorem dX8_type_27 : decode cX8_type 27 = .ok (.getfield 22, 3) := by decide +kernel
theorem dX8_type_30 : decode cX8_type 30 = .ok (.aload_n 0, 1) := by decide +kernel
theorem dX8_type_31 : decode cX8_type 31 = .ok (.getfield 158, 3) := by decide +kernel
theorem dX8_type_34 : decode cX8_type 34 = .ok (.iload_n 1, 1) := by decide +kernel
theorem dX8_type_35 : decode cX8_type 35 = .ok (.iastore, 1) := by decide +kernel
theorem dX8_type_36 : decode cX8_type 36 = .ok (.aload_n 0, 1) := by decide +kernel
theorem dX8_type_37 : decode cX8_type 37 = .ok (.dup, 1) := by decide +kernel
theorem dX8_type_38 : decode cX8_type 38 = .ok (.getfield 158, 3) := by decide +kernel
theorem dX8_type_41 : decode cX8_type 41 = .ok (.iconst 1, 1) := by decide +kernel
theorem dX8_type_42 : decode cX8_type 42 = .ok (.iadd, 1) := by decide +kernel
theorem dX8_type_43 : decode cX8_type 43 = .ok (.putfield 158, 3) := by decide +kernel
theorem dX8_type_46 : decode cX8_type 46 = .ok (.aload_n 0, 1) := by decide +kernel
theorem dX8_type_47 : decode cX8_type 47 = .ok (.getfield 158, 3) := by decide +kernel
theorem dX8_type_50 : decode cX8_type 50 = .ok (.ireturn, 1) := by decide +kernel
theorem dX8_clearText_0 : decode cX8_clearText 0 = .ok (.aload_n 0, 1) := by decide +kernel
theorem dX8_clearText_1 : decode cX8_clearText 1 = .ok (.getfield 158, 3) := by decide +kernel
theorem dX8_clearText_4 : decode cX8_clearText 4 = .ok (.istore_n 1, 1) := by decide +kernel
theorem dX8_clearText_5 : decode cX8_clearText 5 = .ok (.aload_n 0, 1) := by decide +kernel
theorem dX8_clearText_6 : decode cX8_clearText 6 = .ok (.iconst 0, 1) := by decide +kernel
theorem dX8_clearText_7 : decode cX8_clearText 7 = .ok (.putfield 158, 3) := by decide +kernel
theorem dX8_clearText_10 : decode cX8_clearText 10 = .ok (.iload_n 1, 1) := by decide +kernel
theorem dX8_clearText_11 : decode cX8_clearText 11 = .ok (.ireturn, 1) := by decide +kernel
theorem dX8_passes_0 : decode cX8_passes 0 = .ok (.aload_n 0, 1) := by decide +kernel
theorem dX8_passes_1 : decode cX8_passes 1 = .ok (.getfield 161, 3) := by decide +kernel
theorem dX8_passes_4 : decode cX8_passes 4 = .ok (.aload_n 0, 1) := by decide +kernel
theorem dX8_passes_5 : decode cX8_passes 5 = .ok (.getfield 158, 3) := by decide +kernel
theorem dX8_passes_8 : decode cX8_passes 8 = .ok (.if_icmp .ge 20, 3) := by decide +kernel
theorem dX8_passes_11 : decode cX8_passes 11 = .ok (.aload_n 0, 1) := by decide +kernel
theorem dX8_passes_12 : decode cX8_passes 12 = .ok (.getfield 22, 3) := by decide +kernel
theorem dX8_passes_15 : decode cX8_passes 15 = .ok (.aload_n 0, 1) := by decide +kernel
theorem dX8_passes_16 : decode cX8_passes 16 = .ok (.getfield 161, 3) := by decide +kernel
theorem dX8_passes_19 : decode cX8_passes 19 = .ok (.iaload, 1) := by decide +kernel
theorem dX8_passes_20 : decode cX8_passes 20 = .ok (.iload_n 1, 1) := by decide +kernel
theorem dX8_passes_21 : decode cX8_passes 21 = .ok (.if_icmp .ne 7, 3) := by decide +kernel
theorem dX8_passes_24 : decode cX8_passes 24 = .ok (.iconst 1, 1) := by decide +kernel
theorem dX8_passes_25 : decode cX8_passes 25 = .ok (.goto 4, 3) := by decide +kernel
theorem dX8_passes_28 : decode cX8_passes 28 = .ok (.iconst 0, 1) := by decide +kernel
theorem dX8_passes_29 : decode cX8_passes 29 = .ok (.istore_n 2, 1) := by decide +kernel
theorem dX8_passes_30 : decode cX8_passes 30 = .ok (.aload_n 0, 1) := by decide +kernel
theorem dX8_passes_31 : decode cX8_passes 31 = .ok (.dup, 1) := by decide +kernel
theorem dX8_passes_32 : decode cX8_passes 32 = .ok (.getfield 161, 3) := by decide +kernel
theorem dX8_passes_35 : decode cX8_passes 35 = .ok (.iload_n 2, 1) := by decide +kernel
theorem dX8_passes_36 : decode cX8_passes 36 = .ok (.ifCond .eq 7, 3) := by decide +kernel
theorem dX8_passes_39 : decode cX8_passes 39 = .ok (.iconst 1, 1) := by decide +kernel
theorem dX8_passes_40 : decode cX8_passes 40 = .ok (.goto 4, 3) := by decide +kernel
theorem dX8_passes_43 : decode cX8_passes 43 = .ok (.iconst 0, 1) := by decide +kernel
theorem dX8_passes_44 : decode cX8_passes 44 = .ok (.iadd, 1) := by decide +kernel
theorem dX8_passes_45 : decode cX8_passes 45 = .ok (.putfield 161, 3) := by decide +kernel
theorem dX8_passes_48 : decode cX8_passes 48 = .ok (.iload_n 2, 1) := by decide +kernel
theorem dX8_passes_49 : decode cX8_passes 49 = .ok (.ireturn, 1) := by decide +kernel
theorem dX8_number_0 : decode cX8_number 0 = .ok (.aload_n 0, 1) := by decide +kernel
theorem dX8_number_1 : decode cX8_number 1 = .ok (.getfield 161, 3) := by decide +kernel
theorem dX8_number_4 : decode cX8_number 4 = .ok (.istore_n 3, 1) := by decide +kernel
theorem dX8_number_5 : decode cX8_number 5 = .ok (.aload_n 0, 1) := by decide +kernel
theorem dX8_number_6 : decode cX8_number 6 = .ok (.getfield 28, 3) := by decide +kernel
theorem dX8_number_9 : decode cX8_number 9 = .ok (.iload_n 1, 1) := by decide +kernel
theorem dX8_number_10 : decode cX8_number 10 = .ok (.iconst 0, 1) := by decide +kernel
theorem dX8_number_11 : decode cX8_number 11 = .ok (.iastore, 1) := by decide +kernel
theorem dX8_number_12 : decode cX8_number 12 = .ok (.aload_n 0, 1) := by decide +kernel
theorem dX8_number_13 : decode cX8_number 13 = .ok (.getfield 161, 3) := by decide +kernel
theorem dX8_number_16 : decode cX8_number 16 = .ok (.aload_n 0, 1) := by decide +kernel
theorem dX8_number_17 : decode cX8_number 17 = .ok (.getfield 158, 3) := by decide +kernel
theorem dX8_number_20 : decode cX8_number 20 = .ok (.if_icmp .ge 73, 3) := by decide +kernel
theorem dX8_number_23 : decode cX8_number 23 = .ok (.aload_n 0, 1) := by decide +kernel
theorem dX8_number_24 : decode cX8_number 24 = .ok (.getfield 22, 3) := by decide +kernel
theorem dX8_number_27 : decode cX8_number 27 = .ok (.aload_n 0, 1) := by decide +kernel
theorem dX8_number_28 : decode cX8_number 28 = .ok (.getfield 161, 3) := by decide +kernel
theorem dX8_number_31 : decode cX8_number 31 = .ok (.iaload, 1) := by decide +kernel
theorem dX8_number_32 : decode cX8_number 32 = .ok (.bipush 48, 2) := by decide +kernel
theorem dX8_number_34 : decode cX8_number 34 = .ok (.bipush 57, 2) := by decide +kernel
theorem dX8_number_36 : decode cX8_number 36 = .ok (.invokestatic 66, 3) := by decide +kernel
theorem dX8_number_39 : decode cX8_number 39 = .ok (.ifCond .eq 54, 3) := by decide +kernel
theorem dX8_number_42 : decode cX8_number 42 = .ok (.aload_n 0, 1) := by decide +kernel
theorem dX8_number_43 : decode cX8_number 43 = .ok (.getfield 161, 3) := by decide +kernel
theorem dX8_number_46 : decode cX8_number 46 = .ok (.iload_n 3, 1) := by decide +kernel
theorem dX8_number_47 : decode cX8_number 47 = .ok (.isub, 1) := by decide +kernel
theorem dX8_number_48 : decode cX8_number 48 = .ok (.iload_n 2, 1) := by decide +kernel
theorem dX8_number_49 : decode cX8_number 49 = .ok (.if_icmp .ge 44, 3) := by decide +kernel
theorem dX8_number_52 : decode cX8_number 52 = .ok (.aload_n 0, 1) := by decide +kernel
theorem dX8_number_53 : decode cX8_number 53 = .ok (.getfield 28, 3) := by decide +kernel
theorem dX8_number_56 : decode cX8_number 56 = .ok (.iload_n 1, 1) := by decide +kernel
theorem dX8_number_57 : decode cX8_number 57 = .ok (.bipush 10, 2) := by decide +kernel
theorem dX8_number_59 : decode cX8_number 59 = .ok (.aload_n 0, 1) := by decide +kernel
theorem dX8_number_60 : decode cX8_number 60 = .ok (.getfield 28, 3) := by decide +kernel
theorem dX8_number_63 : decode cX8_number 63 = .ok (.iload_n 1, 1) := by decide +kernel
theorem dX8_number_64 : decode cX8_number 64 = .ok (.iaload, 1) := by decide +kernel
theorem dX8_number_65 : decode cX8_number 65 = .ok (.imul, 1) := by decide +kernel
theorem dX8_number_66 : decode cX8_number 66 = .ok (.aload_n 0, 1) := by decide +kernel
theorem dX8_number_67 : decode cX8_number 67 = .ok (.getfield 22, 3) := by decide +kernel
theorem dX8_number_70 : decode cX8_number 70 = .ok (.aload_n 0, 1) := by decide +kernel
theorem dX8_number_71 : decode cX8_number 71 = .ok (.getfield 161, 3) := by decide +kernel
theorem dX8_number_74 : decode cX8_number 74 = .ok (.iaload, 1) := by decide +kernel
theorem dX8_number_75 : decode cX8_number 75 = .ok (.iadd, 1) := by decide +kernel
theorem dX8_number_76 : decode cX8_number 76 = .ok (.bipush 48, 2) := by decide +kernel
theorem dX8_number_78 : decode cX8_number 78 = .ok (.isub, 1) := by decide +kernel
theorem dX8_number_79 : decode cX8_number 79 = .ok (.iastore, 1) := by decide +kernel
theorem dX8_number_80 : decode cX8_number 80 = .ok (.aload_n 0, 1) := by decide +kernel
theorem dX8_number_81 : decode cX8_number 81 = .ok (.dup, 1) := by decide +kernel
theorem dX8_number_82 : decode cX8_number 82 = .ok (.getfield 161, 3) := by decide +kernel
theorem dX8_number_85 : decode cX8_number 85 = .ok (.iconst 1, 1) := by decide +kernel
theorem dX8_number_86 : decode cX8_number 86 = .ok (.iadd, 1) := by decide +kernel
theorem dX8_number_87 : decode cX8_number 87 = .ok (.putfield 161, 3) := by decide +kernel
theorem dX8_number_90 : decode cX8_number 90 = .ok (.goto (-78), 3) := by decide +kernel
theorem dX8_number_93 : decode cX8_number 93 = .ok (.aload_n 0, 1) := by decide +kernel
theorem dX8_number_94 : decode cX8_number 94 = .ok (.getfield 161, 3) := by decide +kernel
theorem dX8_number_97 : decode cX8_number 97 = .ok (.iload_n 3, 1) := by decide +kernel
theorem dX8_number_98 : decode cX8_number 98 = .ok (.if_icmp .le 7, 3) := by decide +kernel
theorem dX8_number_101 : decode cX8_number 101 = .ok (.iconst 1, 1) := by decide +kernel
theorem dX8_number_102 : decode cX8_number 102 = .ok (.goto 4, 3) := by decide +kernel
theorem dX8_number_105 : decode cX8_number 105 = .ok (.iconst 0, 1) := by decide +kernel
theorem dX8_number_106 : decode cX8_number 106 = .ok (.ireturn, 1) := by decide +kernel
theorem dX8_isForm_0 : decode cX8_isForm 0 = .ok (.iload_n 1, 1) := by decide +kernel
theorem dX8_isForm_1 : decode cX8_isForm 1 = .ok (.bipush 99, 2) := by decide +kernel
theorem dX8_isForm_3 : decode cX8_isForm 3 = .ok (.if_icmp .eq 15, 3) := by decide +kernel
theorem dX8_isForm_6 : decode cX8_isForm 6 = .ok (.iload_n 1, 1) := by decide +kernel
theorem dX8_isForm_7 : decode cX8_isForm 7 = .ok (.bipush 120, 2) := by decide +kernel
theorem dX8_isForm_9 : decode cX8_isForm 9 = .ok (.if_icmp .eq 9, 3) := by decide +kernel
theorem dX8_isForm_12 : decode cX8_isForm 12 = .ok (.iload_n 1, 1) := by decide +kernel
theorem dX8_isForm_13 : decode cX8_isForm 13 = .ok (.bipush 114, 2) := by decide +kernel
theorem dX8_isForm_15 : decode cX8_isForm 15 = .ok (.if_icmp .ne 20, 3) := by decide +kernel
theorem dX8_isForm_18 : decode cX8_isForm 18 = .ok (.aload_n 0, 1) := by decide +kernel
theorem dX8_isForm_19 : decode cX8_isForm 19 = .ok (.dup, 1) := by decide +kernel
theorem dX8_isForm_20 : decode cX8_isForm 20 = .ok (.getfield 161, 3) := by decide +kernel
theorem dX8_isForm_23 : decode cX8_isForm 23 = .ok (.iconst 1, 1) := by decide +kernel
theorem dX8_isForm_24 : decode cX8_isForm 24 = .ok (.iadd, 1) := by decide +kernel
theorem dX8_isForm_25 : decode cX8_isForm 25 = .ok (.putfield 161, 3) := by decide +kernel
theorem dX8_isForm_28 : decode cX8_isForm 28 = .ok (.aload_n 0, 1) := by decide +kernel
theorem dX8_isForm_29 : decode cX8_isForm 29 = .ok (.bipush 59, 2) := by decide +kernel
theorem dX8_isForm_31 : decode cX8_isForm 31 = .ok (.invokevirtual 164, 3) := by decide +kernel
theorem dX8_isForm_34 : decode cX8_isForm 34 = .ok (.ireturn, 1) := by decide +kernel
theorem dX8_isForm_35 : decode cX8_isForm 35 = .ok (.iload_n 1, 1) := by decide +kernel
theorem dX8_isForm_36 : decode cX8_isForm 36 = .ok (.bipush 119, 2) := by decide +kernel
theorem dX8_isForm_38 : decode cX8_isForm 38 = .ok (.if_icmp .ne 73, 3) := by decide +kernel
theorem dX8_isForm_41 : decode cX8_isForm 41 = .ok (.aload_n 0, 1) := by decide +kernel
theorem dX8_isForm_42 : decode cX8_isForm 42 = .ok (.dup, 1) := by decide +kernel
theorem dX8_isForm_43 : decode cX8_isForm 43 = .ok (.getfield 161, 3) := by decide +kernel
theorem dX8_isForm_46 : decode cX8_isForm 46 = .ok (.iconst 1, 1) := by decide +kernel
theorem dX8_isForm_47 : decode cX8_isForm 47 = .ok (.iadd, 1) := by decide +kernel
theorem dX8_isForm_48 : decode cX8_isForm 48 = .ok (.putfield 161, 3) := by decide +kernel
theorem dX8_isForm_51 : decode cX8_isForm 51 = .ok (.aload_n 0, 1) := by decide +kernel
theorem dX8_isForm_52 : decode cX8_isForm 52 = .ok (.iconst 0, 1) := by decide +kernel
theorem dX8_isForm_53 : decode cX8_isForm 53 = .ok (.iconst 1, 1) := by decide +kernel
theorem dX8_isForm_54 : decode cX8_isForm 54 = .ok (.invokevirtual 167, 3) := by decide +kernel
theorem dX8_isForm_57 : decode cX8_isForm 57 = .ok (.ifCond .eq 52, 3) := by decide +kernel
theorem dX8_isForm_60 : decode cX8_isForm 60 = .ok (.aload_n 0, 1) := by decide +kernel
theorem dX8_isForm_61 : decode cX8_isForm 61 = .ok (.bipush 44, 2) := by decide +kernel
theorem dX8_isForm_63 : decode cX8_isForm 63 = .ok (.invokevirtual 164, 3) := by decide +kernel
theorem dX8_isForm_66 : decode cX8_isForm 66 = .ok (.ifCond .eq 43, 3) := by decide +kernel
theorem dX8_isForm_69 : decode cX8_isForm 69 = .ok (.aload_n 0, 1) := by decide +kernel
theorem dX8_isForm_70 : decode cX8_isForm 70 = .ok (.iconst 1, 1) := by decide +kernel
theorem dX8_isForm_71 : decode cX8_isForm 71 = .ok (.iconst 1, 1) := by decide +kernel
theorem dX8_isForm_72 : decode cX8_isForm 72 = .ok (.invokevirtual 167, 3) := by decide +kernel
theorem dX8_isForm_75 : decode cX8_isForm 75 = .ok (.ifCond .eq 34, 3) := by decide +kernel
theorem dX8_isForm_78 : decode cX8_isForm 78 = .ok (.aload_n 0, 1) := by decide +kernel
theorem dX8_isForm_79 : decode cX8_isForm 79 = .ok (.bipush 44, 2) := by decide +kernel
theorem dX8_isForm_81 : decode cX8_isForm 81 = .ok (.invokevirtual 164, 3) := by decide +kernel
theorem dX8_isForm_84 : decode cX8_isForm 84 = .ok (.ifCond .eq 25, 3) := by decide +kernel
theorem dX8_isForm_87 : decode cX8_isForm 87 = .ok (.aload_n 0, 1) := by decide +kernel
theorem dX8_isForm_88 : decode cX8_isForm 88 = .ok (.iconst 2, 1) := by decide +kernel
theorem dX8_isForm_89 : decode cX8_isForm 89 = .ok (.iconst 2, 1) := by decide +kernel
theorem dX8_isForm_90 : decode cX8_isForm 90 = .ok (.invokevirtual 167, 3) := by decide +kernel
theorem dX8_isForm_93 : decode cX8_isForm 93 = .ok (.ifCond .eq 16, 3) := by decide +kernel
theorem dX8_isForm_96 : decode cX8_isForm 96 = .ok (.aload_n 0, 1) := by decide +kernel
theorem dX8_isForm_97 : decode cX8_isForm 97 = .ok (.bipush 59, 2) := by decide +kernel
theorem dX8_isForm_99 : decode cX8_isForm 99 = .ok (.invokevirtual 164, 3) := by decide +kernel
theorem dX8_isForm_102 : decode cX8_isForm 102 = .ok (.ifCond .eq 7, 3) := by decide +kernel
theorem dX8_isForm_105 : decode cX8_isForm 105 = .ok (.iconst 1, 1) := by decide +kernel
theorem dX8_isForm_106 : decode cX8_isForm 106 = .ok (.goto 4, 3) := by decide +kernel
theorem dX8_isForm_109 : decode cX8_isForm 109 = .ok (.iconst 0, 1) := by decide +kernel
theorem dX8_isForm_110 : decode cX8_isForm 110 = .ok (.ireturn, 1) := by decide +kernel
theorem dX8_isForm_111 : decode cX8_isForm 111 = .ok (.iload_n 1, 1) := by decide +kernel
theorem dX8_isForm_112 : decode cX8_isForm 112 = .ok (.bipush 98, 2) := by decide +kernel
theorem dX8_isForm_114 : decode cX8_isForm 114 = .ok (.if_icmp .eq 21, 3) := by decide +kernel
theorem dX8_isForm_117 : decode cX8_isForm 117 = .ok (.iload_n 1, 1) := by decide +kernel
theorem dX8_isForm_118 : decode cX8_isForm 118 = .ok (.bipush 115, 2) := by decide +kernel
theorem dX8_isForm_120 : decode cX8_isForm 120 = .ok (.if_icmp .eq 15, 3) := by decide +kernel
theorem dX8_isForm_123 : decode cX8_isForm 123 = .ok (.iload_n 1, 1) := by decide +kernel
theorem dX8_isForm_124 : decode cX8_isForm 124 = .ok (.bipush 116, 2) := by decide +kernel
theorem dX8_isForm_126 : decode cX8_isForm 126 = .ok (.if_icmp .eq 9, 3) := by decide +kernel
theorem dX8_isForm_129 : decode cX8_isForm 129 = .ok (.iload_n 1, 1) := by decide +kernel
theorem dX8_isForm_130 : decode cX8_isForm 130 = .ok (.bipush 111, 2) := by decide +kernel
theorem dX8_isForm_132 : decode cX8_isForm 132 = .ok (.if_icmp .ne 37, 3) := by decide +kernel
theorem dX8_isForm_135 : decode cX8_isForm 135 = .ok (.aload_n 0, 1) := by decide +kernel
theorem dX8_isForm_136 : decode cX8_isForm 136 = .ok (.dup, 1) := by decide +kernel
theorem dX8_isForm_137 : decode cX8_isForm 137 = .ok (.getfield 161, 3) := by decide +kernel
theorem dX8_isForm_140 : decode cX8_isForm 140 = .ok (.iconst 1, 1) := by decide +kernel
theorem dX8_isForm_141 : decode cX8_isForm 141 = .ok (.iadd, 1) := by decide +kernel
theorem dX8_isForm_142 : decode cX8_isForm 142 = .ok (.putfield 161, 3) := by decide +kernel
theorem dX8_isForm_145 : decode cX8_isForm 145 = .ok (.aload_n 0, 1) := by decide +kernel
theorem dX8_isForm_146 : decode cX8_isForm 146 = .ok (.iconst 0, 1) := by decide +kernel
theorem dX8_isForm_147 : decode cX8_isForm 147 = .ok (.iconst 1, 1) := by decide +kernel
theorem dX8_isForm_148 : decode cX8_isForm 148 = .ok (.invokevirtual 167, 3) := by decide +kernel
theorem dX8_isForm_151 : decode cX8_isForm 151 = .ok (.ifCond .eq 16, 3) := by decide +kernel
theorem dX8_isForm_154 : decode cX8_isForm 154 = .ok (.aload_n 0, 1) := by decide +kernel
theorem dX8_isForm_155 : decode cX8_isForm 155 = .ok (.bipush 59, 2) := by decide +kernel
theorem dX8_isForm_157 : decode cX8_isForm 157 = .ok (.invokevirtual 164, 3) := by decide +kernel
theorem dX8_isForm_160 : decode cX8_isForm 160 = .ok (.ifCond .eq 7, 3) := by decide +kernel
theorem dX8_isForm_163 : decode cX8_isForm 163 = .ok (.iconst 1, 1) := by decide +kernel
theorem dX8_isForm_164 : decode cX8_isForm 164 = .ok (.goto 4, 3) := by decide +kernel
theorem dX8_isForm_167 : decode cX8_isForm 167 = .ok (.iconst 0, 1) := by decide +kernel
theorem dX8_isForm_168 : decode cX8_isForm 168 = .ok (.ireturn, 1) := by decide +kernel
theorem dX8_isForm_169 : decode cX8_isForm 169 = .ok (.iconst 0, 1) := by decide +kernel
theorem dX8_isForm_170 : decode cX8_isForm 170 = .ok (.ireturn, 1) := by decide +kernel
theorem dX8_calls_0 : decode cX8_calls 0 = .ok (.iload_n 1, 1) := by decide +kernel
theorem dX8_calls_1 : decode cX8_calls 1 = .ok (.tableswitch 185 98 120 #[107, 174, 185, 185, 185, 185, 185, 185, 185, 185, 185, 185, 185, 163, 185, 185, 185, 141, 152, 185, 185, 118, 179], 107) := by decide +kernel
theorem dX8_calls_108 : decode cX8_calls 108 = .ok (.aload_n 0, 1) := by decide +kernel
theorem dX8_calls_109 : decode cX8_calls 109 = .ok (.aload_n 0, 1) := by decide +kernel
theorem dX8_calls_110 : decode cX8_calls 110 = .ok (.getfield 28, 3) := by decide +kernel
theorem dX8_calls_113 : decode cX8_calls 113 = .ok (.iconst 0, 1) := by decide +kernel
theorem dX8_calls_114 : decode cX8_calls 114 = .ok (.iaload, 1) := by decide +kernel
theorem dX8_calls_115 : decode cX8_calls 115 = .ok (.invokevirtual 171, 3) := by decide +kernel
theorem dX8_calls_118 : decode cX8_calls 118 = .ok (.ireturn, 1) := by decide +kernel
theorem dX8_calls_119 : decode cX8_calls 119 = .ok (.aload_n 0, 1) := by decide +kernel
theorem dX8_calls_120 : decode cX8_calls 120 = .ok (.aload_n 0, 1) := by decide +kernel
theorem dX8_calls_121 : decode cX8_calls 121 = .ok (.getfield 28, 3) := by decide +kernel
theorem dX8_calls_124 : decode cX8_calls 124 = .ok (.iconst 0, 1) := by decide +kernel
theorem dX8_calls_125 : decode cX8_calls 125 = .ok (.iaload, 1) := by decide +kernel
theorem dX8_calls_126 : decode cX8_calls 126 = .ok (.aload_n 0, 1) := by decide +kernel
theorem dX8_calls_127 : decode cX8_calls 127 = .ok (.getfield 28, 3) := by decide +kernel
theorem dX8_calls_130 : decode cX8_calls 130 = .ok (.iconst 1, 1) := by decide +kernel
theorem dX8_calls_131 : decode cX8_calls 131 = .ok (.iaload, 1) := by decide +kernel
theorem dX8_calls_132 : decode cX8_calls 132 = .ok (.aload_n 0, 1) := by decide +kernel
theorem dX8_calls_133 : decode cX8_calls 133 = .ok (.getfield 28, 3) := by decide +kernel
theorem dX8_calls_136 : decode cX8_calls 136 = .ok (.iconst 2, 1) := by decide +kernel
theorem dX8_calls_137 : decode cX8_calls 137 = .ok (.iaload, 1) := by decide +kernel
theorem dX8_calls_138 : decode cX8_calls 138 = .ok (.invokevirtual 174, 3) := by decide +kernel
theorem dX8_calls_141 : decode cX8_calls 141 = .ok (.ireturn, 1) := by decide +kernel
theorem dX8_calls_142 : decode cX8_calls 142 = .ok (.aload_n 0, 1) := by decide +kernel
theorem dX8_calls_143 : decode cX8_calls 143 = .ok (.aload_n 0, 1) := by decide +kernel
theorem dX8_calls_144 : decode cX8_calls 144 = .ok (.getfield 28, 3) := by decide +kernel
theorem dX8_calls_147 : decode cX8_calls 147 = .ok (.iconst 0, 1) := by decide +kernel
theorem dX8_calls_148 : decode cX8_calls 148 = .ok (.iaload, 1) := by decide +kernel
theorem dX8_calls_149 : decode cX8_calls 149 = .ok (.invokevirtual 178, 3) := by decide +kernel
theorem dX8_calls_152 : decode cX8_calls 152 = .ok (.ireturn, 1) := by decide +kernel
theorem dX8_calls_153 : decode cX8_calls 153 = .ok (.aload_n 0, 1) := by decide +kernel
theorem dX8_calls_154 : decode cX8_calls 154 = .ok (.aload_n 0, 1) := by decide +kernel
theorem dX8_calls_155 : decode cX8_calls 155 = .ok (.getfield 28, 3) := by decide +kernel
theorem dX8_calls_158 : decode cX8_calls 158 = .ok (.iconst 0, 1) := by decide +kernel
theorem dX8_calls_159 : decode cX8_calls 159 = .ok (.iaload, 1) := by decide +kernel
theorem dX8_calls_160 : decode cX8_calls 160 = .ok (.invokevirtual 181, 3) := by decide +kernel
theorem dX8_calls_163 : decode cX8_calls 163 = .ok (.ireturn, 1) := by decide +kernel
theorem dX8_calls_164 : decode cX8_calls 164 = .ok (.aload_n 0, 1) := by decide +kernel
theorem dX8_calls_165 : decode cX8_calls 165 = .ok (.aload_n 0, 1) := by decide +kernel
theorem dX8_calls_166 : decode cX8_calls 166 = .ok (.getfield 28, 3) := by decide +kernel
theorem dX8_calls_169 : decode cX8_calls 169 = .ok (.iconst 0, 1) := by decide +kernel
theorem dX8_calls_170 : decode cX8_calls 170 = .ok (.iaload, 1) := by decide +kernel
theorem dX8_calls_171 : decode cX8_calls 171 = .ok (.invokevirtual 184, 3) := by decide +kernel
theorem dX8_calls_174 : decode cX8_calls 174 = .ok (.ireturn, 1) := by decide +kernel
theorem dX8_calls_175 : decode cX8_calls 175 = .ok (.aload_n 0, 1) := by decide +kernel
theorem dX8_calls_176 : decode cX8_calls 176 = .ok (.invokevirtual 187, 3) := by decide +kernel
theorem dX8_calls_179 : decode cX8_calls 179 = .ok (.ireturn, 1) := by decide +kernel
theorem dX8_calls_180 : decode cX8_calls 180 = .ok (.aload_n 0, 1) := by decide +kernel
theorem dX8_calls_181 : decode cX8_calls 181 = .ok (.iconst 0, 1) := by decide +kernel
theorem dX8_calls_182 : decode cX8_calls 182 = .ok (.invokevirtual 190, 3) := by decide +kernel
theorem dX8_calls_185 : decode cX8_calls 185 = .ok (.ireturn, 1) := by decide +kernel
theorem dX8_calls_186 : decode cX8_calls 186 = .ok (.aload_n 0, 1) := by decide +kernel
theorem dX8_calls_187 : decode cX8_calls 187 = .ok (.invokevirtual 193, 3) := by decide +kernel
theorem dX8_calls_190 : decode cX8_calls 190 = .ok (.ireturn, 1) := by decide +kernel
theorem dX8_plays_0 : decode cX8_plays 0 = .ok (.aload_n 0, 1) := by decide +kernel
theorem dX8_plays_1 : decode cX8_plays 1 = .ok (.iconst 1, 1) := by decide +kernel
theorem dX8_plays_2 : decode cX8_plays 2 = .ok (.putfield 31, 3) := by decide +kernel
theorem dX8_plays_5 : decode cX8_plays 5 = .ok (.aload_n 0, 1) := by decide +kernel
theorem dX8_plays_6 : decode cX8_plays 6 = .ok (.iconst 0, 1) := by decide +kernel
theorem dX8_plays_7 : decode cX8_plays 7 = .ok (.putfield 161, 3) := by decide +kernel
theorem dX8_plays_10 : decode cX8_plays 10 = .ok (.aload_n 0, 1) := by decide +kernel
theorem dX8_plays_11 : decode cX8_plays 11 = .ok (.iconst 0, 1) := by decide +kernel
theorem dX8_plays_12 : decode cX8_plays 12 = .ok (.putfield 196, 3) := by decide +kernel
theorem dX8_plays_15 : decode cX8_plays 15 = .ok (.aload_n 0, 1) := by decide +kernel
theorem dX8_plays_16 : decode cX8_plays 16 = .ok (.iconst 0, 1) := by decide +kernel
theorem dX8_plays_17 : decode cX8_plays 17 = .ok (.putfield 199, 3) := by decide +kernel
theorem dX8_plays_20 : decode cX8_plays 20 = .ok (.iconst 0, 1) := by decide +kernel
theorem dX8_plays_21 : decode cX8_plays 21 = .ok (.istore_n 1, 1) := by decide +kernel
theorem dX8_plays_22 : decode cX8_plays 22 = .ok (.aload_n 0, 1) := by decide +kernel
theorem dX8_plays_23 : decode cX8_plays 23 = .ok (.getfield 161, 3) := by decide +kernel
theorem dX8_plays_26 : decode cX8_plays 26 = .ok (.aload_n 0, 1) := by decide +kernel
theorem dX8_plays_27 : decode cX8_plays 27 = .ok (.getfield 158, 3) := by decide +kernel
theorem dX8_plays_30 : decode cX8_plays 30 = .ok (.if_icmp .ge 102, 3) := by decide +kernel
theorem dX8_plays_33 : decode cX8_plays 33 = .ok (.aload_n 0, 1) := by decide +kernel
theorem dX8_plays_34 : decode cX8_plays 34 = .ok (.getfield 196, 3) := by decide +kernel
theorem dX8_plays_37 : decode cX8_plays 37 = .ok (.ifCond .ne 95, 3) := by decide +kernel
theorem dX8_plays_40 : decode cX8_plays 40 = .ok (.aload_n 0, 1) := by decide +kernel
theorem dX8_plays_41 : decode cX8_plays 41 = .ok (.getfield 161, 3) := by decide +kernel
theorem dX8_plays_44 : decode cX8_plays 44 = .ok (.istore_n 1, 1) := by decide +kernel
theorem dX8_plays_45 : decode cX8_plays 45 = .ok (.aload_n 0, 1) := by decide +kernel
theorem dX8_plays_46 : decode cX8_plays 46 = .ok (.getfield 22, 3) := by decide +kernel
theorem dX8_plays_49 : decode cX8_plays 49 = .ok (.aload_n 0, 1) := by decide +kernel
theorem dX8_plays_50 : decode cX8_plays 50 = .ok (.getfield 161, 3) := by decide +kernel
theorem dX8_plays_53 : decode cX8_plays 53 = .ok (.iaload, 1) := by decide +kernel
theorem dX8_plays_54 : decode cX8_plays 54 = .ok (.istore_n 2, 1) := by decide +kernel
theorem dX8_plays_55 : decode cX8_plays 55 = .ok (.aload_n 0, 1) := by decide +kernel
theorem dX8_plays_56 : decode cX8_plays 56 = .ok (.iload_n 2, 1) := by decide +kernel
theorem dX8_plays_57 : decode cX8_plays 57 = .ok (.invokevirtual 202, 3) := by decide +kernel
theorem dX8_plays_60 : decode cX8_plays 60 = .ok (.istore_n 3, 1) := by decide +kernel
theorem dX8_plays_61 : decode cX8_plays 61 = .ok (.aload_n 0, 1) := by decide +kernel
theorem dX8_plays_62 : decode cX8_plays 62 = .ok (.aload_n 0, 1) := by decide +kernel
theorem dX8_plays_63 : decode cX8_plays 63 = .ok (.getfield 161, 3) := by decide +kernel
theorem dX8_plays_66 : decode cX8_plays 66 = .ok (.iload_n 1, 1) := by decide +kernel
theorem dX8_plays_67 : decode cX8_plays 67 = .ok (.isub, 1) := by decide +kernel
theorem dX8_plays_68 : decode cX8_plays 68 = .ok (.putfield 205, 3) := by decide +kernel
theorem dX8_plays_71 : decode cX8_plays 71 = .ok (.iload_n 3, 1) := by decide +kernel
theorem dX8_plays_72 : decode cX8_plays 72 = .ok (.ifCond .eq 11, 3) := by decide +kernel
theorem dX8_plays_75 : decode cX8_plays 75 = .ok (.aload_n 0, 1) := by decide +kernel
theorem dX8_plays_76 : decode cX8_plays 76 = .ok (.iload_n 2, 1) := by decide +kernel
theorem dX8_plays_77 : decode cX8_plays 77 = .ok (.invokevirtual 208, 3) := by decide +kernel
theorem dX8_plays_80 : decode cX8_plays 80 = .ok (.goto 4, 3) := by decide +kernel
theorem dX8_plays_83 : decode cX8_plays 83 = .ok (.iconst 0, 1) := by decide +kernel
theorem dX8_plays_84 : decode cX8_plays 84 = .ok (.istore 4, 2) := by decide +kernel
theorem dX8_plays_86 : decode cX8_plays 86 = .ok (.aload_n 0, 1) := by decide +kernel
theorem dX8_plays_87 : decode cX8_plays 87 = .ok (.iload_n 3, 1) := by decide +kernel
theorem dX8_plays_88 : decode cX8_plays 88 = .ok (.ifCond .ne 7, 3) := by decide +kernel
theorem dX8_plays_91 : decode cX8_plays 91 = .ok (.iconst 1, 1) := by decide +kernel
theorem dX8_plays_92 : decode cX8_plays 92 = .ok (.goto 24, 3) := by decide +kernel
theorem dX8_plays_95 : decode cX8_plays 95 = .ok (.iload 4, 2) := by decide +kernel
theorem dX8_plays_97 : decode cX8_plays 97 = .ok (.ifCond .lt 7, 3) := by decide +kernel
theorem dX8_plays_100 : decode cX8_plays 100 = .ok (.iconst 0, 1) := by decide +kernel
theorem dX8_plays_101 : decode cX8_plays 101 = .ok (.goto 15, 3) := by decide +kernel
theorem dX8_plays_104 : decode cX8_plays 104 = .ok (.iload 4, 2) := by decide +kernel
theorem dX8_plays_106 : decode cX8_plays 106 = .ok (.ldc 70, 2) := by decide +kernel
theorem dX8_plays_108 : decode cX8_plays 108 = .ok (.if_icmp .ne 7, 3) := by decide +kernel
theorem dX8_plays_111 : decode cX8_plays 111 = .ok (.iconst 2, 1) := by decide +kernel
theorem dX8_plays_112 : decode cX8_plays 112 = .ok (.goto 4, 3) := by decide +kernel
theorem dX8_plays_115 : decode cX8_plays 115 = .ok (.iconst 3, 1) := by decide +kernel
theorem dX8_plays_116 : decode cX8_plays 116 = .ok (.putfield 196, 3) := by decide +kernel
theorem dX8_plays_119 : decode cX8_plays 119 = .ok (.aload_n 0, 1) := by decide +kernel
theorem dX8_plays_120 : decode cX8_plays 120 = .ok (.dup, 1) := by decide +kernel
theorem dX8_plays_121 : decode cX8_plays 121 = .ok (.getfield 199, 3) := by decide +kernel
theorem dX8_plays_124 : decode cX8_plays 124 = .ok (.iconst 1, 1) := by decide +kernel
theorem dX8_plays_125 : decode cX8_plays 125 = .ok (.iadd, 1) := by decide +kernel
theorem dX8_plays_126 : decode cX8_plays 126 = .ok (.putfield 199, 3) := by decide +kernel
theorem dX8_plays_129 : decode cX8_plays 129 = .ok (.goto (-107), 3) := by decide +kernel
theorem dX8_plays_132 : decode cX8_plays 132 = .ok (.aload_n 0, 1) := by decide +kernel
theorem dX8_plays_133 : decode cX8_plays 133 = .ok (.iconst 0, 1) := by decide +kernel
theorem dX8_plays_134 : decode cX8_plays 134 = .ok (.putfield 31, 3) := by decide +kernel
theorem dX8_plays_137 : decode cX8_plays 137 = .ok (.aload_n 0, 1) := by decide +kernel
theorem dX8_plays_138 : decode cX8_plays 138 = .ok (.getfield 196, 3) := by decide +kernel
theorem dX8_plays_141 : decode cX8_plays 141 = .ok (.ifCond .ne 8, 3) := by decide +kernel
theorem dX8_plays_144 : decode cX8_plays 144 = .ok (.ldc 62, 2) := by decide +kernel
theorem dX8_plays_146 : decode cX8_plays 146 = .ok (.goto 4, 3) := by decide +kernel
theorem dX8_plays_149 : decode cX8_plays 149 = .ok (.iload_n 1, 1) := by decide +kernel
theorem dX8_plays_150 : decode cX8_plays 150 = .ok (.ireturn, 1) := by decide +kernel
theorem dX8_fault_0 : decode cX8_fault 0 = .ok (.iload_n 1, 1) := by decide +kernel
theorem dX8_fault_1 : decode cX8_fault 1 = .ok (.iconst 0, 1) := by decide +kernel
theorem dX8_fault_2 : decode cX8_fault 2 = .ok (.iconst 2, 1) := by decide +kernel
theorem dX8_fault_3 : decode cX8_fault 3 = .ok (.invokestatic 66, 3) := by decide +kernel
theorem dX8_fault_6 : decode cX8_fault 6 = .ok (.ifCond .ne 6, 3) := by decide +kernel
theorem dX8_fault_9 : decode cX8_fault 9 = .ok (.ldc 70, 2) := by decide +kernel
theorem dX8_fault_11 : decode cX8_fault 11 = .ok (.ireturn, 1) := by decide +kernel
theorem dX8_fault_12 : decode cX8_fault 12 = .ok (.aload_n 0, 1) := by decide +kernel
theorem dX8_fault_13 : decode cX8_fault 13 = .ok (.getfield 7, 3) := by decide +kernel
theorem dX8_fault_16 : decode cX8_fault 16 = .ok (.aload_n 0, 1) := by decide +kernel
theorem dX8_fault_17 : decode cX8_fault 17 = .ok (.getfield 16, 3) := by decide +kernel
theorem dX8_fault_20 : decode cX8_fault 20 = .ok (.invokestatic 154, 3) := by decide +kernel
theorem dX8_fault_23 : decode cX8_fault 23 = .ok (.aload_n 0, 1) := by decide +kernel
theorem dX8_fault_24 : decode cX8_fault 24 = .ok (.invokevirtual 211, 3) := by decide +kernel
theorem dX8_fault_27 : decode cX8_fault 27 = .ok (.istore_n 2, 1) := by decide +kernel
theorem dX8_fault_28 : decode cX8_fault 28 = .ok (.aload_n 0, 1) := by decide +kernel
theorem dX8_fault_29 : decode cX8_fault 29 = .ok (.getfield 16, 3) := by decide +kernel
theorem dX8_fault_32 : decode cX8_fault 32 = .ok (.aload_n 0, 1) := by decide +kernel
theorem dX8_fault_33 : decode cX8_fault 33 = .ok (.getfield 7, 3) := by decide +kernel
theorem dX8_fault_36 : decode cX8_fault 36 = .ok (.invokestatic 154, 3) := by decide +kernel
theorem dX8_fault_39 : decode cX8_fault 39 = .ok (.iload_n 2, 1) := by decide +kernel
theorem dX8_fault_40 : decode cX8_fault 40 = .ok (.ldc 62, 2) := by decide +kernel
theorem dX8_fault_42 : decode cX8_fault 42 = .ok (.if_icmp .eq 7, 3) := by decide +kernel
theorem dX8_fault_45 : decode cX8_fault 45 = .ok (.iload_n 1, 1) := by decide +kernel
theorem dX8_fault_46 : decode cX8_fault 46 = .ok (.ifCond .ne 7, 3) := by decide +kernel
theorem dX8_fault_49 : decode cX8_fault 49 = .ok (.iload_n 2, 1) := by decide +kernel
theorem dX8_fault_50 : decode cX8_fault 50 = .ok (.goto 32, 3) := by decide +kernel
theorem dX8_fault_53 : decode cX8_fault 53 = .ok (.iload_n 1, 1) := by decide +kernel
theorem dX8_fault_54 : decode cX8_fault 54 = .ok (.iconst 1, 1) := by decide +kernel
theorem dX8_fault_55 : decode cX8_fault 55 = .ok (.if_icmp .ne 10, 3) := by decide +kernel
theorem dX8_fault_58 : decode cX8_fault 58 = .ok (.aload_n 0, 1) := by decide +kernel
theorem dX8_fault_59 : decode cX8_fault 59 = .ok (.getfield 196, 3) := by decide +kernel
theorem dX8_fault_62 : decode cX8_fault 62 = .ok (.goto 20, 3) := by decide +kernel
theorem dX8_fault_65 : decode cX8_fault 65 = .ok (.aload_n 0, 1) := by decide +kernel
theorem dX8_fault_66 : decode cX8_fault 66 = .ok (.getfield 196, 3) := by decide +kernel
theorem dX8_fault_69 : decode cX8_fault 69 = .ok (.iconst 1, 1) := by decide +kernel
theorem dX8_fault_70 : decode cX8_fault 70 = .ok (.if_icmp .ne 10, 3) := by decide +kernel
theorem dX8_fault_73 : decode cX8_fault 73 = .ok (.aload_n 0, 1) := by decide +kernel
theorem dX8_fault_74 : decode cX8_fault 74 = .ok (.getfield 205, 3) := by decide +kernel
theorem dX8_fault_77 : decode cX8_fault 77 = .ok (.goto 5, 3) := by decide +kernel
theorem dX8_fault_80 : decode cX8_fault 80 = .ok (.ldc 62, 2) := by decide +kernel
theorem dX8_fault_82 : decode cX8_fault 82 = .ok (.ireturn, 1) := by decide +kernel
theorem dX8_play_0 : decode cX8_play 0 = .ok (.aload_n 0, 1) := by decide +kernel
theorem dX8_play_1 : decode cX8_play 1 = .ok (.getfield 7, 3) := by decide +kernel
theorem dX8_play_4 : decode cX8_play 4 = .ok (.aload_n 0, 1) := by decide +kernel
theorem dX8_play_5 : decode cX8_play 5 = .ok (.getfield 16, 3) := by decide +kernel
theorem dX8_play_8 : decode cX8_play 8 = .ok (.invokestatic 154, 3) := by decide +kernel
theorem dX8_play_11 : decode cX8_play 11 = .ok (.aload_n 0, 1) := by decide +kernel
theorem dX8_play_12 : decode cX8_play 12 = .ok (.invokevirtual 211, 3) := by decide +kernel
theorem dX8_play_15 : decode cX8_play 15 = .ok (.istore_n 1, 1) := by decide +kernel
theorem dX8_play_16 : decode cX8_play 16 = .ok (.aload_n 0, 1) := by decide +kernel
theorem dX8_play_17 : decode cX8_play 17 = .ok (.getfield 16, 3) := by decide +kernel
theorem dX8_play_20 : decode cX8_play 20 = .ok (.aload_n 0, 1) := by decide +kernel
theorem dX8_play_21 : decode cX8_play 21 = .ok (.getfield 7, 3) := by decide +kernel
theorem dX8_play_24 : decode cX8_play 24 = .ok (.invokestatic 154, 3) := by decide +kernel
theorem dX8_play_27 : decode cX8_play 27 = .ok (.iload_n 1, 1) := by decide +kernel
theorem dX8_play_28 : decode cX8_play 28 = .ok (.ldc 62, 2) := by decide +kernel
theorem dX8_play_30 : decode cX8_play 30 = .ok (.if_icmp .eq 6, 3) := by decide +kernel
theorem dX8_play_33 : decode cX8_play 33 = .ok (.ldc 75, 2) := by decide +kernel
theorem dX8_play_35 : decode cX8_play 35 = .ok (.ireturn, 1) := by decide +kernel
theorem dX8_play_36 : decode cX8_play 36 = .ok (.aload_n 0, 1) := by decide +kernel
theorem dX8_play_37 : decode cX8_play 37 = .ok (.invokevirtual 77, 3) := by decide +kernel
theorem dX8_play_40 : decode cX8_play 40 = .ok (.aload_n 0, 1) := by decide +kernel
theorem dX8_play_41 : decode cX8_play 41 = .ok (.invokevirtual 211, 3) := by decide +kernel
theorem dX8_play_44 : decode cX8_play 44 = .ok (.ldc 62, 2) := by decide +kernel
theorem dX8_play_46 : decode cX8_play 46 = .ok (.if_icmp .ne 10, 3) := by decide +kernel
theorem dX8_play_49 : decode cX8_play 49 = .ok (.aload_n 0, 1) := by decide +kernel
theorem dX8_play_50 : decode cX8_play 50 = .ok (.getfield 199, 3) := by decide +kernel
theorem dX8_play_53 : decode cX8_play 53 = .ok (.goto 5, 3) := by decide +kernel
theorem dX8_play_56 : decode cX8_play 56 = .ok (.ldc 62, 2) := by decide +kernel
theorem dX8_play_58 : decode cX8_play 58 = .ok (.ireturn, 1) := by decide +kernel
theorem dJ6_bitCount_0f7a4_0 : decode cJ6_bitCount_0f7a4 0 = .ok (.iload_n 0, 1) := by decide +kernel
theorem dJ6_bitCount_0f7a4_1 : decode cJ6_bitCount_0f7a4 1 = .ok (.iload_n 0, 1) := by decide +kernel
theorem dJ6_bitCount_0f7a4_2 : decode cJ6_bitCount_0f7a4 2 = .ok (.iconst 1, 1) := by decide +kernel
theorem dJ6_bitCount_0f7a4_3 : decode cJ6_bitCount_0f7a4 3 = .ok (.iushr, 1) := by decide +kernel
theorem dJ6_bitCount_0f7a4_4 : decode cJ6_bitCount_0f7a4 4 = .ok (.ldc_w 265, 3) := by decide +kernel
theorem dJ6_bitCount_0f7a4_7 : decode cJ6_bitCount_0f7a4 7 = .ok (.iand, 1) := by decide +kernel
theorem dJ6_bitCount_0f7a4_8 : decode cJ6_bitCount_0f7a4 8 = .ok (.isub, 1) := by decide +kernel
theorem dJ6_bitCount_0f7a4_9 : decode cJ6_bitCount_0f7a4 9 = .ok (.istore_n 0, 1) := by decide +kernel
theorem dJ6_bitCount_0f7a4_10 : decode cJ6_bitCount_0f7a4 10 = .ok (.iload_n 0, 1) := by decide +kernel
theorem dJ6_bitCount_0f7a4_11 : decode cJ6_bitCount_0f7a4 11 = .ok (.ldc_w 266, 3) := by decide +kernel
theorem dJ6_bitCount_0f7a4_14 : decode cJ6_bitCount_0f7a4 14 = .ok (.iand, 1) := by decide +kernel
theorem dJ6_bitCount_0f7a4_15 : decode cJ6_bitCount_0f7a4 15 = .ok (.iload_n 0, 1) := by decide +kernel
theorem dJ6_bitCount_0f7a4_16 : decode cJ6_bitCount_0f7a4 16 = .ok (.iconst 2, 1) := by decide +kernel
theorem dJ6_bitCount_0f7a4_17 : decode cJ6_bitCount_0f7a4 17 = .ok (.iushr, 1) := by decide +kernel
theorem dJ6_bitCount_0f7a4_18 : decode cJ6_bitCount_0f7a4 18 = .ok (.ldc_w 266, 3) := by decide +kernel
theorem dJ6_bitCount_0f7a4_21 : decode cJ6_bitCount_0f7a4 21 = .ok (.iand, 1) := by decide +kernel
theorem dJ6_bitCount_0f7a4_22 : decode cJ6_bitCount_0f7a4 22 = .ok (.iadd, 1) := by decide +kernel
theorem dJ6_bitCount_0f7a4_23 : decode cJ6_bitCount_0f7a4 23 = .ok (.istore_n 0, 1) := by decide +kernel
theorem dJ6_bitCount_0f7a4_24 : decode cJ6_bitCount_0f7a4 24 = .ok (.iload_n 0, 1) := by decide +kernel
theorem dJ6_bitCount_0f7a4_25 : decode cJ6_bitCount_0f7a4 25 = .ok (.iload_n 0, 1) := by decide +kernel
theorem dJ6_bitCount_0f7a4_26 : decode cJ6_bitCount_0f7a4 26 = .ok (.iconst 4, 1) := by decide +kernel
theorem dJ6_bitCount_0f7a4_27 : decode cJ6_bitCount_0f7a4 27 = .ok (.iushr, 1) := by decide +kernel
theorem dJ6_bitCount_0f7a4_28 : decode cJ6_bitCount_0f7a4 28 = .ok (.iadd, 1) := by decide +kernel
theorem dJ6_bitCount_0f7a4_29 : decode cJ6_bitCount_0f7a4 29 = .ok (.ldc_w 267, 3) := by decide +kernel
theorem dJ6_bitCount_0f7a4_32 : decode cJ6_bitCount_0f7a4 32 = .ok (.iand, 1) := by decide +kernel
theorem dJ6_bitCount_0f7a4_33 : decode cJ6_bitCount_0f7a4 33 = .ok (.istore_n 0, 1) := by decide +kernel
theorem dJ6_bitCount_0f7a4_34 : decode cJ6_bitCount_0f7a4 34 = .ok (.iload_n 0, 1) := by decide +kernel
theorem dJ6_bitCount_0f7a4_35 : decode cJ6_bitCount_0f7a4 35 = .ok (.iload_n 0, 1) := by decide +kernel
theorem dJ6_bitCount_0f7a4_36 : decode cJ6_bitCount_0f7a4 36 = .ok (.bipush 8, 2) := by decide +kernel
theorem dJ6_bitCount_0f7a4_38 : decode cJ6_bitCount_0f7a4 38 = .ok (.iushr, 1) := by decide +kernel
theorem dJ6_bitCount_0f7a4_39 : decode cJ6_bitCount_0f7a4 39 = .ok (.iadd, 1) := by decide +kernel
theorem dJ6_bitCount_0f7a4_40 : decode cJ6_bitCount_0f7a4 40 = .ok (.istore_n 0, 1) := by decide +kernel
theorem dJ6_bitCount_0f7a4_41 : decode cJ6_bitCount_0f7a4 41 = .ok (.iload_n 0, 1) := by decide +kernel
theorem dJ6_bitCount_0f7a4_42 : decode cJ6_bitCount_0f7a4 42 = .ok (.iload_n 0, 1) := by decide +kernel
theorem dJ6_bitCount_0f7a4_43 : decode cJ6_bitCount_0f7a4 43 = .ok (.bipush 16, 2) := by decide +kernel
theorem dJ6_bitCount_0f7a4_45 : decode cJ6_bitCount_0f7a4 45 = .ok (.iushr, 1) := by decide +kernel
theorem dJ6_bitCount_0f7a4_46 : decode cJ6_bitCount_0f7a4 46 = .ok (.iadd, 1) := by decide +kernel
theorem dJ6_bitCount_0f7a4_47 : decode cJ6_bitCount_0f7a4 47 = .ok (.istore_n 0, 1) := by decide +kernel
theorem dJ6_bitCount_0f7a4_48 : decode cJ6_bitCount_0f7a4 48 = .ok (.iload_n 0, 1) := by decide +kernel
theorem dJ6_bitCount_0f7a4_49 : decode cJ6_bitCount_0f7a4 49 = .ok (.bipush 63, 2) := by decide +kernel
theorem dJ6_bitCount_0f7a4_51 : decode cJ6_bitCount_0f7a4 51 = .ok (.iand, 1) := by decide +kernel
theorem dJ6_bitCount_0f7a4_52 : decode cJ6_bitCount_0f7a4 52 = .ok (.ireturn, 1) := by decide +kernel
theorem dJ9_floorMod_7cf53_0 : decode cJ9_floorMod_7cf53 0 = .ok (.iload_n 0, 1) := by decide +kernel
theorem dJ9_floorMod_7cf53_1 : decode cJ9_floorMod_7cf53 1 = .ok (.iload_n 1, 1) := by decide +kernel
theorem dJ9_floorMod_7cf53_2 : decode cJ9_floorMod_7cf53 2 = .ok (.irem, 1) := by decide +kernel
theorem dJ9_floorMod_7cf53_3 : decode cJ9_floorMod_7cf53 3 = .ok (.istore_n 2, 1) := by decide +kernel
theorem dJ9_floorMod_7cf53_4 : decode cJ9_floorMod_7cf53 4 = .ok (.iload_n 0, 1) := by decide +kernel
theorem dJ9_floorMod_7cf53_5 : decode cJ9_floorMod_7cf53 5 = .ok (.iload_n 1, 1) := by decide +kernel
theorem dJ9_floorMod_7cf53_6 : decode cJ9_floorMod_7cf53 6 = .ok (.ixor, 1) := by decide +kernel
theorem dJ9_floorMod_7cf53_7 : decode cJ9_floorMod_7cf53 7 = .ok (.ifCond .ge 11, 3) := by decide +kernel
theorem dJ9_floorMod_7cf53_10 : decode cJ9_floorMod_7cf53 10 = .ok (.iload_n 2, 1) := by decide +kernel
theorem dJ9_floorMod_7cf53_11 : decode cJ9_floorMod_7cf53 11 = .ok (.ifCond .eq 7, 3) := by decide +kernel
theorem dJ9_floorMod_7cf53_14 : decode cJ9_floorMod_7cf53 14 = .ok (.iload_n 2, 1) := by decide +kernel
theorem dJ9_floorMod_7cf53_15 : decode cJ9_floorMod_7cf53 15 = .ok (.iload_n 1, 1) := by decide +kernel
theorem dJ9_floorMod_7cf53_16 : decode cJ9_floorMod_7cf53 16 = .ok (.iadd, 1) := by decide +kernel
theorem dJ9_floorMod_7cf53_17 : decode cJ9_floorMod_7cf53 17 = .ok (.ireturn, 1) := by decide +kernel
theorem dJ9_floorMod_7cf53_18 : decode cJ9_floorMod_7cf53 18 = .ok (.iload_n 2, 1) := by decide +kernel
theorem dJ9_floorMod_7cf53_19 : decode cJ9_floorMod_7cf53 19 = .ok (.ireturn, 1) := by decide +kernel
theorem dJ9_max_7cf53_0 : decode cJ9_max_7cf53 0 = .ok (.iload_n 0, 1) := by decide +kernel
theorem dJ9_max_7cf53_1 : decode cJ9_max_7cf53 1 = .ok (.iload_n 1, 1) := by decide +kernel
theorem dJ9_max_7cf53_2 : decode cJ9_max_7cf53 2 = .ok (.if_icmp .lt 7, 3) := by decide +kernel
theorem dJ9_max_7cf53_5 : decode cJ9_max_7cf53 5 = .ok (.iload_n 0, 1) := by decide +kernel
theorem dJ9_max_7cf53_6 : decode cJ9_max_7cf53 6 = .ok (.goto 4, 3) := by decide +kernel
theorem dJ9_max_7cf53_9 : decode cJ9_max_7cf53 9 = .ok (.iload_n 1, 1) := by decide +kernel
theorem dJ9_max_7cf53_10 : decode cJ9_max_7cf53 10 = .ok (.ireturn, 1) := by decide +kernel
theorem dJ9_min_7cf53_0 : decode cJ9_min_7cf53 0 = .ok (.iload_n 0, 1) := by decide +kernel
theorem dJ9_min_7cf53_1 : decode cJ9_min_7cf53 1 = .ok (.iload_n 1, 1) := by decide +kernel
theorem dJ9_min_7cf53_2 : decode cJ9_min_7cf53 2 = .ok (.if_icmp .gt 7, 3) := by decide +kernel
theorem dJ9_min_7cf53_5 : decode cJ9_min_7cf53 5 = .ok (.iload_n 0, 1) := by decide +kernel
theorem dJ9_min_7cf53_6 : decode cJ9_min_7cf53 6 = .ok (.goto 4, 3) := by decide +kernel
theorem dJ9_min_7cf53_9 : decode cJ9_min_7cf53 9 = .ok (.iload_n 1, 1) := by decide +kernel
theorem dJ9_min_7cf53_10 : decode cJ9_min_7cf53 10 = .ok (.ireturn, 1) := by decide +kernel
theorem dL_law_0 : decode cL_law 0 = .ok (.new 7, 3) := by decide +kernel
theorem dL_law_3 : decode cL_law 3 = .ok (.dup, 1) := by decide +kernel
theorem dL_law_4 : decode cL_law 4 = .ok (.invokespecial 9, 3) := by decide +kernel
theorem dL_law_7 : decode cL_law 7 = .ok (.astore_n 1, 1) := by decide +kernel
theorem dL_law_8 : decode cL_law 8 = .ok (.new 10, 3) := by decide +kernel
theorem dL_law_11 : decode cL_law 11 = .ok (.dup, 1) := by decide +kernel
theorem dL_law_12 : decode cL_law 12 = .ok (.invokespecial 12, 3) := by decide +kernel
theorem dL_law_15 : decode cL_law 15 = .ok (.astore_n 2, 1) := by decide +kernel
theorem dL_law_16 : decode cL_law 16 = .ok (.iconst 0, 1) := by decide +kernel
theorem dL_law_17 : decode cL_law 17 = .ok (.istore_n 3, 1) := by decide +kernel
theorem dL_law_18 : decode cL_law 18 = .ok (.iload_n 3, 1) := by decide +kernel
theorem dL_law_19 : decode cL_law 19 = .ok (.aload_n 0, 1) := by decide +kernel
theorem dL_law_20 : decode cL_law 20 = .ok (.arraylength, 1) := by decide +kernel
theorem dL_law_21 : decode cL_law 21 = .ok (.iconst 4, 1) := by decide +kernel
theorem dL_law_22 : decode cL_law 22 = .ok (.isub, 1) := by decide +kernel
theorem dL_law_23 : decode cL_law 23 = .ok (.if_icmp .gt 588, 3) := by decide +kernel
theorem dL_law_26 : decode cL_law 26 = .ok (.aload_n 0, 1) := by decide +kernel
theorem dL_law_27 : decode cL_law 27 = .ok (.iload_n 3, 1) := by decide +kernel
theorem dL_law_28 : decode cL_law 28 = .ok (.iaload, 1) := by decide +kernel
theorem dL_law_29 : decode cL_law 29 = .ok (.bipush 31, 2) := by decide +kernel
theorem dL_law_31 : decode cL_law 31 = .ok (.iand, 1) := by decide +kernel
theorem dL_law_32 : decode cL_law 32 = .ok (.tableswitch 573 0 20 #[100, 123, 166, 189, 212, 235, 258, 271, 284, 297, 320, 333, 366, 399, 432, 465, 488, 501, 524, 537, 560], 100) := by decide +kernel
theorem dL_law_132 : decode cL_law 132 = .ok (.aload_n 1, 1) := by decide +kernel
theorem dL_law_133 : decode cL_law 133 = .ok (.aload_n 0, 1) := by decide +kernel
theorem dL_law_134 : decode cL_law 134 = .ok (.iload_n 3, 1) := by decide +kernel
theorem dL_law_135 : decode cL_law 135 = .ok (.iconst 1, 1) := by decide +kernel
theorem dL_law_136 : decode cL_law 136 = .ok (.iadd, 1) := by decide +kernel
theorem dL_law_137 : decode cL_law 137 = .ok (.iaload, 1) := by decide +kernel
theorem dL_law_138 : decode cL_law 138 = .ok (.invokevirtual 13, 3) := by decide +kernel
theorem dL_law_141 : decode cL_law 141 = .ok (.aload_n 2, 1) := by decide +kernel
theorem dL_law_142 : decode cL_law 142 = .ok (.aload_n 0, 1) := by decide +kernel
theorem dL_law_143 : decode cL_law 143 = .ok (.iload_n 3, 1) := by decide +kernel
theorem dL_law_144 : decode cL_law 144 = .ok (.iconst 1, 1) := by decide +kernel
theorem dL_law_145 : decode cL_law 145 = .ok (.iadd, 1) := by decide +kernel
theorem dL_law_146 : decode cL_law 146 = .ok (.iaload, 1) := by decide +kernel
theorem dL_law_147 : decode cL_law 147 = .ok (.invokevirtual 17, 3) := by decide +kernel
theorem dL_law_150 : decode cL_law 150 = .ok (.if_icmp .eq 455, 3) := by decide +kernel
theorem dL_law_153 : decode cL_law 153 = .ok (.iconst 0, 1) := by decide +kernel
theorem dL_law_154 : decode cL_law 154 = .ok (.ireturn, 1) := by decide +kernel
theorem dL_law_155 : decode cL_law 155 = .ok (.aload_n 1, 1) := by decide +kernel
theorem dL_law_156 : decode cL_law 156 = .ok (.aload_n 0, 1) := by decide +kernel
theorem dL_law_157 : decode cL_law 157 = .ok (.iload_n 3, 1) := by decide +kernel
theorem dL_law_158 : decode cL_law 158 = .ok (.iconst 1, 1) := by decide +kernel
theorem dL_law_159 : decode cL_law 159 = .ok (.iadd, 1) := by decide +kernel
theorem dL_law_160 : decode cL_law 160 = .ok (.iaload, 1) := by decide +kernel
theorem dL_law_161 : decode cL_law 161 = .ok (.aload_n 0, 1) := by decide +kernel
theorem dL_law_162 : decode cL_law 162 = .ok (.iload_n 3, 1) := by decide +kernel
theorem dL_law_163 : decode cL_law 163 = .ok (.iconst 2, 1) := by decide +kernel
theorem dL_law_164 : decode cL_law 164 = .ok (.iadd, 1) := by decide +kernel
theorem dL_law_165 : decode cL_law 165 = .ok (.iaload, 1) := by decide +kernel
theorem dL_law_166 : decode cL_law 166 = .ok (.aload_n 0, 1) := by decide +kernel
theorem dL_law_167 : decode cL_law 167 = .ok (.iload_n 3, 1) := by decide +kernel
theorem dL_law_168 : decode cL_law 168 = .ok (.iconst 3, 1) := by decide +kernel
theorem dL_law_169 : decode cL_law 169 = .ok (.iadd, 1) := by decide +kernel
theorem dL_law_170 : decode cL_law 170 = .ok (.iaload, 1) := by decide +kernel
theorem dL_law_171 : decode cL_law 171 = .ok (.invokevirtual 18, 3) := by decide +kernel
theorem dL_law_174 : decode cL_law 174 = .ok (.aload_n 2, 1) := by decide +kernel
theorem dL_law_175 : decode cL_law 175 = .ok (.aload_n 0, 1) := by decide +kernel
theorem dL_law_176 : decode cL_law 176 = .ok (.iload_n 3, 1) := by decide +kernel
theorem dL_law_177 : decode cL_law 177 = .ok (.iconst 1, 1) := by decide +kernel
theorem dL_law_178 : decode cL_law 178 = .ok (.iadd, 1) := by decide +kernel
theorem dL_law_179 : decode cL_law 179 = .ok (.iaload, 1) := by decide +kernel
theorem dL_law_180 : decode cL_law 180 = .ok (.aload_n 0, 1) := by decide +kernel
theorem dL_law_181 : decode cL_law 181 = .ok (.iload_n 3, 1) := by decide +kernel
theorem dL_law_182 : decode cL_law 182 = .ok (.iconst 2, 1) := by decide +kernel
theorem dL_law_183 : decode cL_law 183 = .ok (.iadd, 1) := by decide +kernel
theorem dL_law_184 : decode cL_law 184 = .ok (.iaload, 1) := by decide +kernel
theorem dL_law_185 : decode cL_law 185 = .ok (.aload_n 0, 1) := by decide +kernel
theorem dL_law_186 : decode cL_law 186 = .ok (.iload_n 3, 1) := by decide +kernel
theorem dL_law_187 : decode cL_law 187 = .ok (.iconst 3, 1) := by decide +kernel
theorem dL_law_188 : decode cL_law 188 = .ok (.iadd, 1) := by decide +kernel
theorem dL_law_189 : decode cL_law 189 = .ok (.iaload, 1) := by decide +kernel
theorem dL_law_190 : decode cL_law 190 = .ok (.invokevirtual 22, 3) := by decide +kernel
theorem dL_law_193 : decode cL_law 193 = .ok (.if_icmp .eq 412, 3) := by decide +kernel
theorem dL_law_196 : decode cL_law 196 = .ok (.iconst 0, 1) := by decide +kernel
theorem dL_law_197 : decode cL_law 197 = .ok (.ireturn, 1) := by decide +kernel
theorem dL_law_198 : decode cL_law 198 = .ok (.aload_n 1, 1) := by decide +kernel
theorem dL_law_199 : decode cL_law 199 = .ok (.aload_n 0, 1) := by decide +kernel
theorem dL_law_200 : decode cL_law 200 = .ok (.iload_n 3, 1) := by decide +kernel
theorem dL_law_201 : decode cL_law 201 = .ok (.iconst 1, 1) := by decide +kernel
theorem dL_law_202 : decode cL_law 202 = .ok (.iadd, 1) := by decide +kernel
theorem dL_law_203 : decode cL_law 203 = .ok (.iaload, 1) := by decide +kernel
theorem dL_law_204 : decode cL_law 204 = .ok (.invokevirtual 23, 3) := by decide +kernel
theorem dL_law_207 : decode cL_law 207 = .ok (.aload_n 2, 1) := by decide +kernel
theorem dL_law_208 : decode cL_law 208 = .ok (.aload_n 0, 1) := by decide +kernel
theorem dL_law_209 : decode cL_law 209 = .ok (.iload_n 3, 1) := by decide +kernel
theorem dL_law_210 : decode cL_law 210 = .ok (.iconst 1, 1) := by decide +kernel
theorem dL_law_211 : decode cL_law 211 = .ok (.iadd, 1) := by decide +kernel
theorem dL_law_212 : decode cL_law 212 = .ok (.iaload, 1) := by decide +kernel
theorem dL_law_213 : decode cL_law 213 = .ok (.invokevirtual 26, 3) := by decide +kernel
theorem dL_law_216 : decode cL_law 216 = .ok (.if_icmp .eq 389, 3) := by decide +kernel
theorem dL_law_219 : decode cL_law 219 = .ok (.iconst 0, 1) := by decide +kernel
theorem dL_law_220 : decode cL_law 220 = .ok (.ireturn, 1) := by decide +kernel
theorem dL_law_221 : decode cL_law 221 = .ok (.aload_n 1, 1) := by decide +kernel
theorem dL_law_222 : decode cL_law 222 = .ok (.aload_n 0, 1) := by decide +kernel
theorem dL_law_223 : decode cL_law 223 = .ok (.iload_n 3, 1) := by decide +kernel
theorem dL_law_224 : decode cL_law 224 = .ok (.iconst 1, 1) := by decide +kernel
theorem dL_law_225 : decode cL_law 225 = .ok (.iadd, 1) := by decide +kernel
theorem dL_law_226 : decode cL_law 226 = .ok (.iaload, 1) := by decide +kernel
theorem dL_law_227 : decode cL_law 227 = .ok (.invokevirtual 27, 3) := by decide +kernel
theorem dL_law_230 : decode cL_law 230 = .ok (.aload_n 2, 1) := by decide +kernel
theorem dL_law_231 : decode cL_law 231 = .ok (.aload_n 0, 1) := by decide +kernel
theorem dL_law_232 : decode cL_law 232 = .ok (.iload_n 3, 1) := by decide +kernel
theorem dL_law_233 : decode cL_law 233 = .ok (.iconst 1, 1) := by decide +kernel
theorem dL_law_234 : decode cL_law 234 = .ok (.iadd, 1) := by decide +kernel
theorem dL_law_235 : decode cL_law 235 = .ok (.iaload, 1) := by decide +kernel
theorem dL_law_236 : decode cL_law 236 = .ok (.invokevirtual 30, 3) := by decide +kernel
theorem dL_law_239 : decode cL_law 239 = .ok (.if_icmp .eq 366, 3) := by decide +kernel
theorem dL_law_242 : decode cL_law 242 = .ok (.iconst 0, 1) := by decide +kernel
theorem dL_law_243 : decode cL_law 243 = .ok (.ireturn, 1) := by decide +kernel
theorem dL_law_244 : decode cL_law 244 = .ok (.aload_n 1, 1) := by decide +kernel
theorem dL_law_245 : decode cL_law 245 = .ok (.aload_n 0, 1) := by decide +kernel
theorem dL_law_246 : decode cL_law 246 = .ok (.iload_n 3, 1) := by decide +kernel
theorem dL_law_247 : decode cL_law 247 = .ok (.iconst 1, 1) := by decide +kernel
theorem dL_law_248 : decode cL_law 248 = .ok (.iadd, 1) := by decide +kernel
theorem dL_law_249 : decode cL_law 249 = .ok (.iaload, 1) := by decide +kernel
theorem dL_law_250 : decode cL_law 250 = .ok (.invokevirtual 31, 3) := by decide +kernel
theorem dL_law_253 : decode cL_law 253 = .ok (.aload_n 2, 1) := by decide +kernel
theorem dL_law_254 : decode cL_law 254 = .ok (.aload_n 0, 1) := by decide +kernel
theorem dL_law_255 : decode cL_law 255 = .ok (.iload_n 3, 1) := by decide +kernel
theorem dL_law_256 : decode cL_law 256 = .ok (.iconst 1, 1) := by decide +kernel
theorem dL_law_257 : decode cL_law 257 = .ok (.iadd, 1) := by decide +kernel
theorem dL_law_258 : decode cL_law 258 = .ok (.iaload, 1) := by decide +kernel
theorem dL_law_259 : decode cL_law 259 = .ok (.invokevirtual 34, 3) := by decide +kernel
theorem dL_law_262 : decode cL_law 262 = .ok (.if_icmp .eq 343, 3) := by decide +kernel
theorem dL_law_265 : decode cL_law 265 = .ok (.iconst 0, 1) := by decide +kernel
theorem dL_law_266 : decode cL_law 266 = .ok (.ireturn, 1) := by decide +kernel
theorem dL_law_267 : decode cL_law 267 = .ok (.aload_n 1, 1) := by decide +kernel
theorem dL_law_268 : decode cL_law 268 = .ok (.aload_n 0, 1) := by decide +kernel
theorem dL_law_269 : decode cL_law 269 = .ok (.iload_n 3, 1) := by decide +kernel
theorem dL_law_270 : decode cL_law 270 = .ok (.iconst 1, 1) := by decide +kernel
theorem dL_law_271 : decode cL_law 271 = .ok (.iadd, 1) := by decide +kernel
theorem dL_law_272 : decode cL_law 272 = .ok (.iaload, 1) := by decide +kernel
theorem dL_law_273 : decode cL_law 273 = .ok (.invokevirtual 35, 3) := by decide +kernel
theorem dL_law_276 : decode cL_law 276 = .ok (.aload_n 2, 1) := by decide +kernel
theorem dL_law_277 : decode cL_law 277 = .ok (.aload_n 0, 1) := by decide +kernel
theorem dL_law_278 : decode cL_law 278 = .ok (.iload_n 3, 1) := by decide +kernel
theorem dL_law_279 : decode cL_law 279 = .ok (.iconst 1, 1) := by decide +kernel
theorem dL_law_280 : decode cL_law 280 = .ok (.iadd, 1) := by decide +kernel
theorem dL_law_281 : decode cL_law 281 = .ok (.iaload, 1) := by decide +kernel
theorem dL_law_282 : decode cL_law 282 = .ok (.invokevirtual 38, 3) := by decide +kernel
theorem dL_law_285 : decode cL_law 285 = .ok (.if_icmp .eq 320, 3) := by decide +kernel
theorem dL_law_288 : decode cL_law 288 = .ok (.iconst 0, 1) := by decide +kernel
theorem dL_law_289 : decode cL_law 289 = .ok (.ireturn, 1) := by decide +kernel
theorem dL_law_290 : decode cL_law 290 = .ok (.aload_n 1, 1) := by decide +kernel
theorem dL_law_291 : decode cL_law 291 = .ok (.invokevirtual 39, 3) := by decide +kernel
theorem dL_law_294 : decode cL_law 294 = .ok (.aload_n 2, 1) := by decide +kernel
theorem dL_law_295 : decode cL_law 295 = .ok (.invokevirtual 43, 3) := by decide +kernel
theorem dL_law_298 : decode cL_law 298 = .ok (.if_icmp .eq 307, 3) := by decide +kernel
theorem dL_law_301 : decode cL_law 301 = .ok (.iconst 0, 1) := by decide +kernel
theorem dL_law_302 : decode cL_law 302 = .ok (.ireturn, 1) := by decide +kernel
theorem dL_law_303 : decode cL_law 303 = .ok (.aload_n 1, 1) := by decide +kernel
theorem dL_law_304 : decode cL_law 304 = .ok (.invokevirtual 44, 3) := by decide +kernel
theorem dL_law_307 : decode cL_law 307 = .ok (.aload_n 2, 1) := by decide +kernel
theorem dL_law_308 : decode cL_law 308 = .ok (.invokevirtual 47, 3) := by decide +kernel
theorem dL_law_311 : decode cL_law 311 = .ok (.if_icmp .eq 294, 3) := by decide +kernel
theorem dL_law_314 : decode cL_law 314 = .ok (.iconst 0, 1) := by decide +kernel
theorem dL_law_315 : decode cL_law 315 = .ok (.ireturn, 1) := by decide +kernel
theorem dL_law_316 : decode cL_law 316 = .ok (.aload_n 1, 1) := by decide +kernel
theorem dL_law_317 : decode cL_law 317 = .ok (.invokevirtual 48, 3) := by decide +kernel
theorem dL_law_320 : decode cL_law 320 = .ok (.aload_n 2, 1) := by decide +kernel
theorem dL_law_321 : decode cL_law 321 = .ok (.invokevirtual 51, 3) := by decide +kernel
theorem dL_law_324 : decode cL_law 324 = .ok (.if_icmp .eq 281, 3) := by decide +kernel
theorem dL_law_327 : decode cL_law 327 = .ok (.iconst 0, 1) := by decide +kernel
theorem dL_law_328 : decode cL_law 328 = .ok (.ireturn, 1) := by decide +kernel
theorem dL_law_329 : decode cL_law 329 = .ok (.aload_n 1, 1) := by decide +kernel
theorem dL_law_330 : decode cL_law 330 = .ok (.aload_n 0, 1) := by decide +kernel
theorem dL_law_331 : decode cL_law 331 = .ok (.iload_n 3, 1) := by decide +kernel
theorem dL_law_332 : decode cL_law 332 = .ok (.iconst 1, 1) := by decide +kernel
theorem dL_law_333 : decode cL_law 333 = .ok (.iadd, 1) := by decide +kernel
theorem dL_law_334 : decode cL_law 334 = .ok (.iaload, 1) := by decide +kernel
theorem dL_law_335 : decode cL_law 335 = .ok (.invokevirtual 52, 3) := by decide +kernel
theorem dL_law_338 : decode cL_law 338 = .ok (.aload_n 2, 1) := by decide +kernel
theorem dL_law_339 : decode cL_law 339 = .ok (.aload_n 0, 1) := by decide +kernel
theorem dL_law_340 : decode cL_law 340 = .ok (.iload_n 3, 1) := by decide +kernel
theorem dL_law_341 : decode cL_law 341 = .ok (.iconst 1, 1) := by decide +kernel
theorem dL_law_342 : decode cL_law 342 = .ok (.iadd, 1) := by decide +kernel
theorem dL_law_343 : decode cL_law 343 = .ok (.iaload, 1) := by decide +kernel
theorem dL_law_344 : decode cL_law 344 = .ok (.invokevirtual 55, 3) := by decide +kernel
theorem dL_law_347 : decode cL_law 347 = .ok (.if_icmp .eq 258, 3) := by decide +kernel
theorem dL_law_350 : decode cL_law 350 = .ok (.iconst 0, 1) := by decide +kernel
theorem dL_law_351 : decode cL_law 351 = .ok (.ireturn, 1) := by decide +kernel
theorem dL_law_352 : decode cL_law 352 = .ok (.aload_n 1, 1) := by decide +kernel
theorem dL_law_353 : decode cL_law 353 = .ok (.invokevirtual 56, 3) := by decide +kernel
theorem dL_law_356 : decode cL_law 356 = .ok (.aload_n 2, 1) := by decide +kernel
theorem dL_law_357 : decode cL_law 357 = .ok (.invokevirtual 59, 3) := by decide +kernel
theorem dL_law_360 : decode cL_law 360 = .ok (.if_icmp .eq 245, 3) := by decide +kernel
theorem dL_law_363 : decode cL_law 363 = .ok (.iconst 0, 1) := by decide +kernel
theorem dL_law_364 : decode cL_law 364 = .ok (.ireturn, 1) := by decide +kernel
theorem dL_law_365 : decode cL_law 365 = .ok (.aload_n 1, 1) := by decide +kernel
theorem dL_law_366 : decode cL_law 366 = .ok (.aload_n 0, 1) := by decide +kernel
theorem dL_law_367 : decode cL_law 367 = .ok (.iload_n 3, 1) := by decide +kernel
theorem dL_law_368 : decode cL_law 368 = .ok (.iconst 1, 1) := by decide +kernel
theorem dL_law_369 : decode cL_law 369 = .ok (.iadd, 1) := by decide +kernel
theorem dL_law_370 : decode cL_law 370 = .ok (.iaload, 1) := by decide +kernel
theorem dL_law_371 : decode cL_law 371 = .ok (.aload_n 0, 1) := by decide +kernel
theorem dL_law_372 : decode cL_law 372 = .ok (.iload_n 3, 1) := by decide +kernel
theorem dL_law_373 : decode cL_law 373 = .ok (.iconst 2, 1) := by decide +kernel
theorem dL_law_374 : decode cL_law 374 = .ok (.iadd, 1) := by decide +kernel
theorem dL_law_375 : decode cL_law 375 = .ok (.iaload, 1) := by decide +kernel
theorem dL_law_376 : decode cL_law 376 = .ok (.invokevirtual 60, 3) := by decide +kernel
theorem dL_law_379 : decode cL_law 379 = .ok (.aload_n 2, 1) := by decide +kernel
theorem dL_law_380 : decode cL_law 380 = .ok (.aload_n 0, 1) := by decide +kernel
theorem dL_law_381 : decode cL_law 381 = .ok (.iload_n 3, 1) := by decide +kernel
theorem dL_law_382 : decode cL_law 382 = .ok (.iconst 1, 1) := by decide +kernel
theorem dL_law_383 : decode cL_law 383 = .ok (.iadd, 1) := by decide +kernel
theorem dL_law_384 : decode cL_law 384 = .ok (.iaload, 1) := by decide +kernel
theorem dL_law_385 : decode cL_law 385 = .ok (.aload_n 0, 1) := by decide +kernel
theorem dL_law_386 : decode cL_law 386 = .ok (.iload_n 3, 1) := by decide +kernel
theorem dL_law_387 : decode cL_law 387 = .ok (.iconst 2, 1) := by decide +kernel
theorem dL_law_388 : decode cL_law 388 = .ok (.iadd, 1) := by decide +kernel
theorem dL_law_389 : decode cL_law 389 = .ok (.iaload, 1) := by decide +kernel
theorem dL_law_390 : decode cL_law 390 = .ok (.invokevirtual 64, 3) := by decide +kernel
theorem dL_law_393 : decode cL_law 393 = .ok (.if_icmp .eq 212, 3) := by decide +kernel
theorem dL_law_396 : decode cL_law 396 = .ok (.iconst 0, 1) := by decide +kernel
theorem dL_law_397 : decode cL_law 397 = .ok (.ireturn, 1) := by decide +kernel
theorem dL_law_398 : decode cL_law 398 = .ok (.aload_n 1, 1) := by decide +kernel
theorem dL_law_399 : decode cL_law 399 = .ok (.aload_n 0, 1) := by decide +kernel
theorem dL_law_400 : decode cL_law 400 = .ok (.iload_n 3, 1) := by decide +kernel
theorem dL_law_401 : decode cL_law 401 = .ok (.iconst 1, 1) := by decide +kernel
theorem dL_law_402 : decode cL_law 402 = .ok (.iadd, 1) := by decide +kernel
theorem dL_law_403 : decode cL_law 403 = .ok (.iaload, 1) := by decide +kernel
theorem dL_law_404 : decode cL_law 404 = .ok (.aload_n 0, 1) := by decide +kernel
theorem dL_law_405 : decode cL_law 405 = .ok (.iload_n 3, 1) := by decide +kernel
theorem dL_law_406 : decode cL_law 406 = .ok (.iconst 2, 1) := by decide +kernel
theorem dL_law_407 : decode cL_law 407 = .ok (.iadd, 1) := by decide +kernel
theorem dL_law_408 : decode cL_law 408 = .ok (.iaload, 1) := by decide +kernel
theorem dL_law_409 : decode cL_law 409 = .ok (.invokevirtual 65, 3) := by decide +kernel
theorem dL_law_412 : decode cL_law 412 = .ok (.aload_n 2, 1) := by decide +kernel
theorem dL_law_413 : decode cL_law 413 = .ok (.aload_n 0, 1) := by decide +kernel
theorem dL_law_414 : decode cL_law 414 = .ok (.iload_n 3, 1) := by decide +kernel
theorem dL_law_415 : decode cL_law 415 = .ok (.iconst 1, 1) := by decide +kernel
theorem dL_law_416 : decode cL_law 416 = .ok (.iadd, 1) := by decide +kernel
theorem dL_law_417 : decode cL_law 417 = .ok (.iaload, 1) := by decide +kernel
theorem dL_law_418 : decode cL_law 418 = .ok (.aload_n 0, 1) := by decide +kernel
theorem dL_law_419 : decode cL_law 419 = .ok (.iload_n 3, 1) := by decide +kernel
theorem dL_law_420 : decode cL_law 420 = .ok (.iconst 2, 1) := by decide +kernel
theorem dL_law_421 : decode cL_law 421 = .ok (.iadd, 1) := by decide +kernel
theorem dL_law_422 : decode cL_law 422 = .ok (.iaload, 1) := by decide +kernel
theorem dL_law_423 : decode cL_law 423 = .ok (.invokevirtual 68, 3) := by decide +kernel
theorem dL_law_426 : decode cL_law 426 = .ok (.if_icmp .eq 179, 3) := by decide +kernel
theorem dL_law_429 : decode cL_law 429 = .ok (.iconst 0, 1) := by decide +kernel
theorem dL_law_430 : decode cL_law 430 = .ok (.ireturn, 1) := by decide +kernel
theorem dL_law_431 : decode cL_law 431 = .ok (.aload_n 1, 1) := by decide +kernel
theorem dL_law_432 : decode cL_law 432 = .ok (.aload_n 0, 1) := by decide +kernel
theorem dL_law_433 : decode cL_law 433 = .ok (.iload_n 3, 1) := by decide +kernel
theorem dL_law_434 : decode cL_law 434 = .ok (.iconst 1, 1) := by decide +kernel
theorem dL_law_435 : decode cL_law 435 = .ok (.iadd, 1) := by decide +kernel
theorem dL_law_436 : decode cL_law 436 = .ok (.iaload, 1) := by decide +kernel
theorem dL_law_437 : decode cL_law 437 = .ok (.aload_n 0, 1) := by decide +kernel
theorem dL_law_438 : decode cL_law 438 = .ok (.iload_n 3, 1) := by decide +kernel
theorem dL_law_439 : decode cL_law 439 = .ok (.iconst 2, 1) := by decide +kernel
theorem dL_law_440 : decode cL_law 440 = .ok (.iadd, 1) := by decide +kernel
theorem dL_law_441 : decode cL_law 441 = .ok (.iaload, 1) := by decide +kernel
theorem dL_law_442 : decode cL_law 442 = .ok (.invokevirtual 69, 3) := by decide +kernel
theorem dL_law_445 : decode cL_law 445 = .ok (.aload_n 2, 1) := by decide +kernel
theorem dL_law_446 : decode cL_law 446 = .ok (.aload_n 0, 1) := by decide +kernel
theorem dL_law_447 : decode cL_law 447 = .ok (.iload_n 3, 1) := by decide +kernel
theorem dL_law_448 : decode cL_law 448 = .ok (.iconst 1, 1) := by decide +kernel
theorem dL_law_449 : decode cL_law 449 = .ok (.iadd, 1) := by decide +kernel
theorem dL_law_450 : decode cL_law 450 = .ok (.iaload, 1) := by decide +kernel
theorem dL_law_451 : decode cL_law 451 = .ok (.aload_n 0, 1) := by decide +kernel
theorem dL_law_452 : decode cL_law 452 = .ok (.iload_n 3, 1) := by decide +kernel
theorem dL_law_453 : decode cL_law 453 = .ok (.iconst 2, 1) := by decide +kernel
theorem dL_law_454 : decode cL_law 454 = .ok (.iadd, 1) := by decide +kernel
theorem dL_law_455 : decode cL_law 455 = .ok (.iaload, 1) := by decide +kernel
theorem dL_law_456 : decode cL_law 456 = .ok (.invokevirtual 72, 3) := by decide +kernel
theorem dL_law_459 : decode cL_law 459 = .ok (.if_icmp .eq 146, 3) := by decide +kernel
theorem dL_law_462 : decode cL_law 462 = .ok (.iconst 0, 1) := by decide +kernel
theorem dL_law_463 : decode cL_law 463 = .ok (.ireturn, 1) := by decide +kernel
theorem dL_law_464 : decode cL_law 464 = .ok (.aload_n 1, 1) := by decide +kernel
theorem dL_law_465 : decode cL_law 465 = .ok (.aload_n 0, 1) := by decide +kernel
theorem dL_law_466 : decode cL_law 466 = .ok (.iload_n 3, 1) := by decide +kernel
theorem dL_law_467 : decode cL_law 467 = .ok (.iconst 1, 1) := by decide +kernel
theorem dL_law_468 : decode cL_law 468 = .ok (.iadd, 1) := by decide +kernel
theorem dL_law_469 : decode cL_law 469 = .ok (.iaload, 1) := by decide +kernel
theorem dL_law_470 : decode cL_law 470 = .ok (.aload_n 0, 1) := by decide +kernel
theorem dL_law_471 : decode cL_law 471 = .ok (.iload_n 3, 1) := by decide +kernel
theorem dL_law_472 : decode cL_law 472 = .ok (.iconst 2, 1) := by decide +kernel
theorem dL_law_473 : decode cL_law 473 = .ok (.iadd, 1) := by decide +kernel
theorem dL_law_474 : decode cL_law 474 = .ok (.iaload, 1) := by decide +kernel
theorem dL_law_475 : decode cL_law 475 = .ok (.invokevirtual 73, 3) := by decide +kernel
theorem dL_law_478 : decode cL_law 478 = .ok (.aload_n 2, 1) := by decide +kernel
theorem dL_law_479 : decode cL_law 479 = .ok (.aload_n 0, 1) := by decide +kernel
theorem dL_law_480 : decode cL_law 480 = .ok (.iload_n 3, 1) := by decide +kernel
theorem dL_law_481 : decode cL_law 481 = .ok (.iconst 1, 1) := by decide +kernel
theorem dL_law_482 : decode cL_law 482 = .ok (.iadd, 1) := by decide +kernel
theorem dL_law_483 : decode cL_law 483 = .ok (.iaload, 1) := by decide +kernel
theorem dL_law_484 : decode cL_law 484 = .ok (.aload_n 0, 1) := by decide +kernel
theorem dL_law_485 : decode cL_law 485 = .ok (.iload_n 3, 1) := by decide +kernel
theorem dL_law_486 : decode cL_law 486 = .ok (.iconst 2, 1) := by decide +kernel
theorem dL_law_487 : decode cL_law 487 = .ok (.iadd, 1) := by decide +kernel
theorem dL_law_488 : decode cL_law 488 = .ok (.iaload, 1) := by decide +kernel
theorem dL_law_489 : decode cL_law 489 = .ok (.invokevirtual 76, 3) := by decide +kernel
theorem dL_law_492 : decode cL_law 492 = .ok (.if_icmp .eq 113, 3) := by decide +kernel
theorem dL_law_495 : decode cL_law 495 = .ok (.iconst 0, 1) := by decide +kernel
theorem dL_law_496 : decode cL_law 496 = .ok (.ireturn, 1) := by decide +kernel
theorem dL_law_497 : decode cL_law 497 = .ok (.aload_n 1, 1) := by decide +kernel
theorem dL_law_498 : decode cL_law 498 = .ok (.aload_n 0, 1) := by decide +kernel
theorem dL_law_499 : decode cL_law 499 = .ok (.iload_n 3, 1) := by decide +kernel
theorem dL_law_500 : decode cL_law 500 = .ok (.iconst 1, 1) := by decide +kernel
theorem dL_law_501 : decode cL_law 501 = .ok (.iadd, 1) := by decide +kernel
theorem dL_law_502 : decode cL_law 502 = .ok (.iaload, 1) := by decide +kernel
theorem dL_law_503 : decode cL_law 503 = .ok (.invokevirtual 77, 3) := by decide +kernel
theorem dL_law_506 : decode cL_law 506 = .ok (.aload_n 2, 1) := by decide +kernel
theorem dL_law_507 : decode cL_law 507 = .ok (.aload_n 0, 1) := by decide +kernel
theorem dL_law_508 : decode cL_law 508 = .ok (.iload_n 3, 1) := by decide +kernel
theorem dL_law_509 : decode cL_law 509 = .ok (.iconst 1, 1) := by decide +kernel
theorem dL_law_510 : decode cL_law 510 = .ok (.iadd, 1) := by decide +kernel
theorem dL_law_511 : decode cL_law 511 = .ok (.iaload, 1) := by decide +kernel
theorem dL_law_512 : decode cL_law 512 = .ok (.invokevirtual 80, 3) := by decide +kernel
theorem dL_law_515 : decode cL_law 515 = .ok (.if_icmp .eq 90, 3) := by decide +kernel
theorem dL_law_518 : decode cL_law 518 = .ok (.iconst 0, 1) := by decide +kernel
theorem dL_law_519 : decode cL_law 519 = .ok (.ireturn, 1) := by decide +kernel
theorem dL_law_520 : decode cL_law 520 = .ok (.aload_n 1, 1) := by decide +kernel
theorem dL_law_521 : decode cL_law 521 = .ok (.invokevirtual 81, 3) := by decide +kernel
theorem dL_law_524 : decode cL_law 524 = .ok (.aload_n 2, 1) := by decide +kernel
theorem dL_law_525 : decode cL_law 525 = .ok (.invokevirtual 84, 3) := by decide +kernel
theorem dL_law_528 : decode cL_law 528 = .ok (.if_icmp .eq 77, 3) := by decide +kernel
theorem dL_law_531 : decode cL_law 531 = .ok (.iconst 0, 1) := by decide +kernel
theorem dL_law_532 : decode cL_law 532 = .ok (.ireturn, 1) := by decide +kernel
theorem dL_law_533 : decode cL_law 533 = .ok (.aload_n 1, 1) := by decide +kernel
theorem dL_law_534 : decode cL_law 534 = .ok (.aload_n 0, 1) := by decide +kernel
theorem dL_law_535 : decode cL_law 535 = .ok (.iload_n 3, 1) := by decide +kernel
theorem dL_law_536 : decode cL_law 536 = .ok (.iconst 1, 1) := by decide +kernel
theorem dL_law_537 : decode cL_law 537 = .ok (.iadd, 1) := by decide +kernel
theorem dL_law_538 : decode cL_law 538 = .ok (.iaload, 1) := by decide +kernel
theorem dL_law_539 : decode cL_law 539 = .ok (.invokevirtual 85, 3) := by decide +kernel
theorem dL_law_542 : decode cL_law 542 = .ok (.aload_n 2, 1) := by decide +kernel
theorem dL_law_543 : decode cL_law 543 = .ok (.aload_n 0, 1) := by decide +kernel
theorem dL_law_544 : decode cL_law 544 = .ok (.iload_n 3, 1) := by decide +kernel
theorem dL_law_545 : decode cL_law 545 = .ok (.iconst 1, 1) := by decide +kernel
theorem dL_law_546 : decode cL_law 546 = .ok (.iadd, 1) := by decide +kernel
theorem dL_law_547 : decode cL_law 547 = .ok (.iaload, 1) := by decide +kernel
theorem dL_law_548 : decode cL_law 548 = .ok (.invokevirtual 88, 3) := by decide +kernel
theorem dL_law_551 : decode cL_law 551 = .ok (.if_icmp .eq 54, 3) := by decide +kernel
theorem dL_law_554 : decode cL_law 554 = .ok (.iconst 0, 1) := by decide +kernel
theorem dL_law_555 : decode cL_law 555 = .ok (.ireturn, 1) := by decide +kernel
theorem dL_law_556 : decode cL_law 556 = .ok (.aload_n 1, 1) := by decide +kernel
theorem dL_law_557 : decode cL_law 557 = .ok (.invokevirtual 89, 3) := by decide +kernel
theorem dL_law_560 : decode cL_law 560 = .ok (.aload_n 2, 1) := by decide +kernel
theorem dL_law_561 : decode cL_law 561 = .ok (.invokevirtual 92, 3) := by decide +kernel
theorem dL_law_564 : decode cL_law 564 = .ok (.if_icmp .eq 41, 3) := by decide +kernel
theorem dL_law_567 : decode cL_law 567 = .ok (.iconst 0, 1) := by decide +kernel
theorem dL_law_568 : decode cL_law 568 = .ok (.ireturn, 1) := by decide +kernel
theorem dL_law_569 : decode cL_law 569 = .ok (.aload_n 1, 1) := by decide +kernel
theorem dL_law_570 : decode cL_law 570 = .ok (.aload_n 0, 1) := by decide +kernel
theorem dL_law_571 : decode cL_law 571 = .ok (.iload_n 3, 1) := by decide +kernel
theorem dL_law_572 : decode cL_law 572 = .ok (.iconst 1, 1) := by decide +kernel
theorem dL_law_573 : decode cL_law 573 = .ok (.iadd, 1) := by decide +kernel
theorem dL_law_574 : decode cL_law 574 = .ok (.iaload, 1) := by decide +kernel
theorem dL_law_575 : decode cL_law 575 = .ok (.invokevirtual 93, 3) := by decide +kernel
theorem dL_law_578 : decode cL_law 578 = .ok (.aload_n 2, 1) := by decide +kernel
theorem dL_law_579 : decode cL_law 579 = .ok (.aload_n 0, 1) := by decide +kernel
theorem dL_law_580 : decode cL_law 580 = .ok (.iload_n 3, 1) := by decide +kernel
theorem dL_law_581 : decode cL_law 581 = .ok (.iconst 1, 1) := by decide +kernel
theorem dL_law_582 : decode cL_law 582 = .ok (.iadd, 1) := by decide +kernel
theorem dL_law_583 : decode cL_law 583 = .ok (.iaload, 1) := by decide +kernel
theorem dL_law_584 : decode cL_law 584 = .ok (.invokevirtual 96, 3) := by decide +kernel
theorem dL_law_587 : decode cL_law 587 = .ok (.if_icmp .eq 18, 3) := by decide +kernel
theorem dL_law_590 : decode cL_law 590 = .ok (.iconst 0, 1) := by decide +kernel
theorem dL_law_591 : decode cL_law 591 = .ok (.ireturn, 1) := by decide +kernel
theorem dL_law_592 : decode cL_law 592 = .ok (.aload_n 1, 1) := by decide +kernel
theorem dL_law_593 : decode cL_law 593 = .ok (.invokevirtual 97, 3) := by decide +kernel
theorem dL_law_596 : decode cL_law 596 = .ok (.aload_n 2, 1) := by decide +kernel
theorem dL_law_597 : decode cL_law 597 = .ok (.invokevirtual 100, 3) := by decide +kernel
theorem dL_law_600 : decode cL_law 600 = .ok (.if_icmp .eq 5, 3) := by decide +kernel
theorem dL_law_603 : decode cL_law 603 = .ok (.iconst 0, 1) := by decide +kernel
theorem dL_law_604 : decode cL_law 604 = .ok (.ireturn, 1) := by decide +kernel
theorem dL_law_605 : decode cL_law 605 = .ok (.iinc 3 4, 3) := by decide +kernel
theorem dL_law_608 : decode cL_law 608 = .ok (.goto (-590), 3) := by decide +kernel
theorem dL_law_611 : decode cL_law 611 = .ok (.iconst 1, 1) := by decide +kernel
theorem dL_law_612 : decode cL_law 612 = .ok (.ireturn, 1) := by decide +kernel
end
section
/-! flat memory, layout of the cells, the world, and rows of the kit turned to it -/
abbrev Mem : Type := Nat → Nat → Nat → Int32
def sr (M : Mem) (g r : Nat) (f : Nat → Int32) : Mem := fun g' r' => if g' = g ∧ r' = r then f else M g' r'
def st (M : Mem) (g r i : Nat) (v : Int32) : Mem := sr M g r (upd (M g r) i v)
theorem sr_at {M : Mem} {g r : Nat} {f : Nat → Int32} : sr M g r f g r = f := by simp [sr]
theorem sr_ne {M : Mem} {g r g' r' : Nat} {f : Nat → Int32} (h : ¬ (g' = g ∧ r' = r)) : sr M g r f g' r' = M g' r' := by simp only [sr, if_neg h]
def idx : List (Nat × Nat) := (List.range 7).flatMap (fun g => (List.range 19).map (fun r => (g, r))) ++ [(7, 20), (7, 21), (7, 22), (8, 23), (8, 24), (9, 25), (9, 26), (10, 27), (11, 28), (11, 29), (11, 30), (11, 31), (11, 32), (11, 33), (11, 34), (11, 35)]
def pos (x : Nat × Nat) : Nat := if x.1 < 7 then 19 * x.1 + x.2 else x.2 + 113
theorem idx_len : idx.length = 149 := by decide +kernel
theorem idx_all : ∀ i, i < 149 → idx[i]?.map pos = some i := by decide +kernel
theorem idx_pos {i : Nat} {x : Nat × Nat} (h : idx[i]? = some x) : pos x = i := by
  have hi : i < 149 := by rw [← idx_len]; exact (List.getElem?_eq_some_iff.mp h).1
  have := idx_all i hi
  rw [h] at this
  exact Option.some.inj this
theorem idx_inj {i j : Nat} {x : Nat × Nat} (h : idx[i]? = some x) (h2 : idx[j]? = some x) : i = j := by rw [← idx_pos h, ← idx_pos h2]
theorem ms {k : Nat} (hk : k < 7) (r : Nat) (hr : r < 19 := by decide) : (k, r) ∈ idx := by
  refine List.mem_append_left _ (List.mem_flatMap.mpr ⟨k, List.mem_range.mpr hk, List.mem_map.mpr ⟨r, List.mem_range.mpr hr, rfl⟩⟩)
abbrev En : Type := va_G × (ClassId × ClassId × ClassId) × (Nat → Nat → Nat)
def len (r : Nat) : Nat := if r < 7 then 8 else if r < 11 then 4 else if r < 18 then 128 else if r < 22 then 8 else if r = 22 then 128 else if r = 30 then 8468 else if r = 33 then 80 else if r = 34 then 8 else if r = 35 then 3 else 2117
def cel (E : En) (g r : Nat) (f : Nat → Int32) : va_E := match r with
  | 0 => .inr (6, [.ref (E.2.2 g 1), .ref (E.2.2 g 7), .ref (E.2.2 g 11), .int (f 3), .int (f 4)])
  | 1 => .inr (4, [.ref (E.2.2 g 2), .ref (E.2.2 g 3), .ref (E.2.2 g 4), .ref (E.2.2 g 5), .ref (E.2.2 g 6), .int (f 5), .int (f 6)])
  | 7 => .inr (0, [.ref (E.2.2 g 8), .ref (E.2.2 g 9), .ref (E.2.2 g 10), .int (f 3)])
  | 11 => .inr (2, [.ref (E.2.2 g 12), .ref (E.2.2 g 13), .ref (E.2.2 g 14), .ref (E.2.2 g 15), .ref (E.2.2 g 16), .ref (E.2.2 g 17), .ref (E.2.2 g 18), .int (f 7), .int (f 8), .int (f 9), .int (f 10), .int (f 11)])
  | 20 => .inr (5, [.ref (E.2.2 g 21), .ref (E.2.2 g 22), .int (f 2), .int (f 3), .int (f 4), .int (f 5)])
  | 23 => .inr (1, [.ref (E.2.2 g 24), .int (f 1), .int (f 2)])
  | 24 => .inl (E.2.1.2.2, 5, .inr (.inr (.inr (.inr (fun j => some (E.2.2 (2 + j) 0))))))
  | 25 => .inr (3, [.ref (E.2.2 g 26), .int (f 1), .int (f 2), .int (f 3), .int (f 4), .int (f 5), .int (f 6), .int (f 7)])
  | 26 => .inl (E.2.1.2.1, 80, .inl f)
  | 27 => .inr (7, [.ref (E.2.2 0 0), .ref (E.2.2 1 0), .ref (E.2.2 7 20), .ref (E.2.2 8 23), .ref (E.2.2 9 25), .int (f 5), .int (f 6), .int (f 7)])
  | 28 => .inr (8, [.ref (E.2.2 g 29), .ref (E.2.2 g 30), .ref (E.2.2 g 31), .ref (E.2.2 g 32), .int (f 4), .int (f 5), .ref (E.2.2 g 33), .int (f 7), .ref (E.2.2 g 34), .int (f 9), .int (f 10), .int (f 11), .int (f 12), .int (f 13), .int (f 14), .ref (E.2.2 g 35)])
  | r => .inl (E.2.1.1, len r, .inl f)
def tyE (E : En) : List (ClassId × FieldType) := [(E.2.1.1, .int), (E.2.1.2.1, .char), (E.2.1.2.2, .object RX6)]
def wl (E : En) (M : Mem) : va_W := idx.map (fun q => (E.2.2 q.1 q.2, cel E q.1 q.2 (M q.1 q.2)))
def AA (E : En) : Nat → Prop := fun q => ∃ x ∈ idx, q = E.2.2 x.1 x.2
def AdOK (E : En) : Prop := ∀ x ∈ idx, ∀ y ∈ idx, E.2.2 x.1 x.2 = E.2.2 y.1 y.2 → x = y
def Wd (E : En) (M : Mem) (U : State) : Prop := va_P E.1 vwCl (wl E M) U.heap ∧ va_K E.1 vwCl (tyE E) U
theorem wl_get {E : En} {M : Mem} {i g r : Nat} (h : idx[i]? = some (g, r)) : (wl E M)[i]? = some (E.2.2 g r, cel E g r (M g r)) := by simp [wl, h]
theorem wl_at {E : En} {M : Mem} {g r : Nat} (h : (g, r) ∈ idx) : ∃ i : Nat, idx[i]? = some (g, r) ∧ (wl E M)[i]? = some (E.2.2 g r, cel E g r (M g r)) := by
  obtain ⟨i, hi⟩ := List.getElem?_of_mem h
  exact ⟨i, hi, wl_get hi⟩
theorem wl_set {E : En} {M : Mem} {i g r : Nat} (h : idx[i]? = some (g, r)) {f : Nat → Int32} {e : va_E} (he : cel E g r f = e) : (wl E M).set i (E.2.2 g r, e) = wl E (sr M g r f) := by
  subst he
  apply List.ext_getElem?
  intro j
  rw [List.getElem?_set]
  by_cases hij : i = j
  · subst hij
    have hlt : i < (wl E M).length := by
      have h1 := (List.getElem?_eq_some_iff.mp h).1
      simpa [wl] using h1
    rw [if_pos rfl, if_pos hlt, wl_get h, sr_at]
  · rw [if_neg hij]
    cases hj : idx[j]? with
    | none => simp [wl, hj]
    | some y =>
      obtain ⟨g', r'⟩ := y
      rw [wl_get hj, wl_get hj, sr_ne]
      rintro ⟨rfl, rfl⟩
      exact hij (idx_inj h hj)
theorem wl_D {E : En} (hA : AdOK E) {A : Nat → Prop} (hs : ∀ q, AA E q → A q) (M : Mem) : va_D A (wl E M) := by
  refine ⟨fun i j x y hx hy hxy => ?_, fun k q hq => ?_⟩
  · simp only [wl, List.getElem?_map, Option.map_eq_some_iff] at hx hy
    obtain ⟨a, ha, rfl⟩ := hx
    obtain ⟨b, hb, rfl⟩ := hy
    have hab := hA a (List.mem_of_getElem? ha) b (List.mem_of_getElem? hb) hxy
    subst hab
    exact idx_inj ha hb
  · simp only [wl, List.getElem?_map, Option.map_eq_some_iff] at hq
    obtain ⟨a, ha, rfl⟩ := hq
    exact hs _ ⟨a, List.mem_of_getElem? ha, rfl⟩
/-! words of programs -/
def gd {α : Type} (c : Prop) [Decidable c] (x : Option α) : Option α := if c then x else none
def bd {α β : Type} (x : α) (k : α → β) : β := k x
def bO {α β : Type} (x : Option α) (k : α → Option β) : Option β := match x with
  | none => none
  | some v => k v
def bP {α β : Type} (x : Option (α × Mem)) (k : α → Mem → Option β) : Option β := match x with
  | none => none
  | some v => k v.1 v.2
noncomputable def itr {α : Type} (b : α → α) (z : α) (n : Nat) : α := Nat.rec z (fun _ ih => b ih) n
def FU : Nat := 10000
abbrev inb (i : Int32) (n : Nat) : Prop := 0 ≤ i.toInt ∧ i.toInt < n
abbrev isB (v : Int32) : Prop := v = 0 ∨ v = 1
theorem gd_e {α : Type} {c : Prop} [Decidable c] {x : Option α} {r : α} (h : gd c x = some r) : c ∧ x = some r := by
  unfold gd at h
  by_cases hc : c
  · rw [if_pos hc] at h; exact ⟨hc, h⟩
  · rw [if_neg hc] at h; cases h
theorem bd_e {α β : Type} {x y : α} {k : α → β} {r : β} (h : bd x k = r) (e : y = x) : k y = r := by subst e; exact h
theorem bO_e {α β : Type} {x : Option α} {k : α → Option β} {r : β} (h : bO x k = some r) : ∃ v, x = some v ∧ k v = some r := by
  cases x with
  | none => cases h
  | some v => exact ⟨v, rfl, h⟩
theorem bP_e {α β : Type} {x : Option (α × Mem)} {k : α → Mem → Option β} {r : β} (h : bP x k = some r) : ∃ v M, x = some (v, M) ∧ k v M = some r := by
  cases x with
  | none => cases h
  | some v => exact ⟨v.1, v.2, rfl, h⟩
theorem br_1 {α : Type} {c : Prop} [Decidable c] {x y : Option α} {r : α} (h : (if c then x else y) = some r) (hc : c) : x = some r := by rw [if_pos hc] at h; exact h
theorem br_0 {α : Type} {c : Prop} [Decidable c] {x y : Option α} {r : α} (h : (if c then x else y) = some r) (hc : ¬ c) : y = some r := by rw [if_neg hc] at h; exact h
theorem sw_ne {x n : Int32} {v : Int} (h : ¬ x = n) (hv : n.toInt = v) : x.toInt ≠ v := fun e => h (Int32.toInt_inj.mp (e.trans hv.symm))
theorem inb_vp {i : Int32} {n : Nat} (h : inb i n) : vp_in i n := vp_in_iff.mpr h
theorem isB_n {v : Int32} (h : isB v) : narrow .boolean (.int v) = .int v := by rcases h with rfl | rfl <;> rfl
theorem isB_f {v : Int32} (h : isB v) : fits .boolean (.int v) = true := by rcases h with rfl | rfl <;> rfl
/-! contracts over the world -/
abbrev Wm (y : MethodName) (b : ByteArray) (maxL : Nat) (ret : Option FieldType) : List Cond := Cond.code y b maxL ret :: wsL_law
def QI (E : En) (r : Int32) (M : Mem) : Array Value → State → Outcome → State → Prop := va_Qi (fun r' (_ : Unit) => r' = r) (fun _ t => Wd E M t) (AA E)
def QV (E : En) (M : Mem) : Array Value → State → Outcome → State → Prop := va_Qv (fun (_ : Unit) => True) (fun _ t => Wd E M t) (AA E)
def QR (E : En) (g : Nat) (M : Mem) : Array Value → State → Outcome → State → Prop := va_Qr (fun (_ : Unit) => True) (fun _ a t => a = E.2.2 g 0 ∧ Wd E M t) (AA E)
def Cx (E : En) (A : Nat → Prop) (p : Program) (s : State) (m : MethodId) (c : Code) (args : Array Value) (cc : ByteArray) (nL : Nat) (own : String) : Prop := CallFix p m c cc nL s args wsL_law own ∧ va_K E.1 vwCl (tyE E) s ∧ AdOK E ∧ ∀ q, AA E q → A q
/-- what a call needs of its callee, once for each callee -/
def Pk (C : String) (y : MethodName) (bytes : ByteArray) (maxL : Nat) (ret : Option FieldType) (n : Nat) : Prop :=
  Cond.code y bytes maxL ret ∈ wsL_law ∧ Cond.initialized y.cls ∈ wsL_law ∧ y.cls = C ∧ (y.cls ≠ "java/lang/invoke/MethodHandle" ∧ y.cls ≠ "java/lang/invoke/VarHandle" ∧ (parseMethodDescriptor y.desc).map (fun d => d.parameters.length) = some n)
theorem Wm_good {y y' : MethodName} {b b' : ByteArray} {maxL maxL' : Nat} {ret ret' : Option FieldType} (h : Cond.code y b maxL ret ∈ wsL_law) : GoodIn wsL_law (Wm y b maxL ret) := fun w hw => (List.mem_cons.mp hw).elim (fun e => by subst e; exact ⟨h, (wsL_law_good _ h).2⟩) (fun h => ⟨h, (wsL_law_good _ h).2⟩)
theorem Wd_blind {E : En} {M : Mem} {av : List Value} : FrameBlind (va_Pc av (Wd E M)) := fun a U g mk q => ⟨q.1, q.2.1, va_K.moved (u := U) (U := U.calling g mk a) (Vm.Alike.refl U.vm) q.2.2⟩
section MW
variable {p : Program} {l : Launch} {e : Env} {R : Room} {s : State} {m : MethodId} {args : Array Value} {below : List Frame} {meth : Method} {c : Code} {H : Heap} {locs : List Loc} {cells slots : Nat} {Q : State → Prop} {cc : ByteArray} {pc nL : Nat} {ls : Array Slot} {rest : List Value} {E : En} {M : Mem} {own : String} {H0 : Heap} {A : Nat → Prop}
theorem mw_get (X : Cx E A p s m c args cc nL own) (hP : va_P E.1 vwCl (wl E M) H) {C : String} {T : u_T} {N ci index g r : Nat} (hin : ∀ w ∈ u_ws C T N, w ∈ wsL_law) (hm : (g, r) ∈ idx) {fs : List Value} (he : cel E g r (M g r) = .inr (ci, fs)) (hc : vwCl[ci]? = some (C, T, N)) (k : Nat) (hk : k < N) (hl : Cond.fieldLink own index (T k).1 (T k).2.1 (T k).2.2.1 ∈ wsL_law) {v : Value} (hv : fs[k]? = some v) (hdg : decode cc pc = .ok (.getfield index, 3)) (kk : W p l e R s m args below meth c H locs cells slots Q (F0 m (pc + 3) ls (v :: rest))) : W p l e R s m args below meth c H locs cells slots Q (F0 m pc ls (.ref (E.2.2 g r) :: rest)) := by
  obtain ⟨i, -, hi⟩ := wl_at (E := E) (M := M) hm
  rw [he] at hi
  exact va_get X.1.1 X.1.2.1 X.1.2.2.2.2 hin X.1.2.2.2.1 X.2.1 hP i hi hc k hk (X.1.2.2.2.2 _ hl) (fun _ h => h) hv hdg kk
theorem mw_put (X : Cx E A p s m c args cc nL own) (hP : va_P E.1 vwCl (wl E M) H) (hS : va_S A H0 H locs) {C : String} {T : u_T} {N ci index g r : Nat} (hin : ∀ w ∈ u_ws C T N, w ∈ wsL_law) (ty0 : Nat → FieldType) (hty : ∀ k, k < N → parseFieldDescriptor (T k).2.2.1 = some (ty0 k)) (hnm : ∀ a, a < N → ∀ b, b < N → a ≠ b → (T a).2.1 ≠ (T b).2.1) (hm : (g, r) ∈ idx) {fs : List Value} (he : cel E g r (M g r) = .inr (ci, fs)) (hc : vwCl[ci]? = some (C, T, N)) (k : Nat) (hk : k < N) (hl : Cond.fieldLink own index (T k).1 (T k).2.1 (T k).2.2.1 ∈ wsL_law) (hfin : (T k).2.2.2 = false) {ty : FieldType} {x : Int32} (hd : parseFieldDescriptor (T k).2.2.1 = some ty) (hn : narrow ty (.int x) = .int x) (hfit : fits ty (.int x) = true) (hlen : k < fs.length) (hs : cel E g r (upd (M g r) k x) = .inr (ci, fs.set k (.int x))) (hdg : decode cc pc = .ok (.putfield index, 3)) (kk : ∀ (H1 : Heap) (locs1 : List Loc) (M1 : Mem), M1 = st M g r k x → va_P E.1 vwCl (wl E M1) H1 → va_S A H0 H1 locs1 → W p l e R s m args below meth c H1 locs1 cells slots Q (F0 m (pc + 3) ls rest)) : W p l e R s m args below meth c H locs cells slots Q (F0 m pc ls (.int x :: .ref (E.2.2 g r) :: rest)) := by
  obtain ⟨i, h0, hi⟩ := wl_at (E := E) (M := M) hm
  rw [he] at hi
  refine va_put X.1.1 X.1.2.1 X.1.2.2.2.2 hin ty0 hty hnm X.1.2.2.2.1 X.2.1 hP (wl_D X.2.2.1 X.2.2.2 M) hS i hi hc k hk (X.1.2.2.2.2 _ hl) (fun _ h => h) hfin hd hn hfit hlen hdg (fun H1 locs1 hP1 _ hS1 => ?_)
  rw [wl_set h0 hs] at hP1
  exact kk H1 locs1 _ rfl hP1 hS1
theorem mw_ld (X : Cx E A p s m c args cc nL own) (hP : va_P E.1 vwCl (wl E M) H) {g r n : Nat} (hm : (g, r) ∈ idx) (hc : cel E g r (M g r) = .inl (E.2.1.1, n, .inl (M g r))) {i v : Int32} (hin : vp_in i n) (hv : M g r i.toNatClampNeg = v) (hdg : decode cc pc = .ok (.iaload, 1)) (kk : W p l e R s m args below meth c H locs cells slots Q (F0 m (pc + 1) ls (.int v :: rest))) : W p l e R s m args below meth c H locs cells slots Q (F0 m pc ls (.int i :: .ref (E.2.2 g r) :: rest)) := by
  obtain ⟨j, -, hj⟩ := wl_at (E := E) (M := M) hm
  rw [hc] at hj
  subst hv
  exact va_iald X.1.1 X.1.2.1 X.2.1 hP j 0 hj rfl hin hdg kk
theorem mw_cld (X : Cx E A p s m c args cc nL own) (hP : va_P E.1 vwCl (wl E M) H) {g r n : Nat} (hm : (g, r) ∈ idx) (hc : cel E g r (M g r) = .inl (E.2.1.2.1, n, .inl (M g r))) {i v : Int32} (hin : vp_in i n) (hv : M g r i.toNatClampNeg = v) (hdg : decode cc pc = .ok (.caload, 1)) (kk : W p l e R s m args below meth c H locs cells slots Q (F0 m (pc + 1) ls (.int v :: rest))) : W p l e R s m args below meth c H locs cells slots Q (F0 m pc ls (.int i :: .ref (E.2.2 g r) :: rest)) := by
  obtain ⟨j, -, hj⟩ := wl_at (E := E) (M := M) hm
  rw [hc] at hj
  subst hv
  exact va_cald X.1.1 X.1.2.1 X.2.1 hP j 1 hj rfl hin hdg kk
theorem mw_st (X : Cx E A p s m c args cc nL own) (hP : va_P E.1 vwCl (wl E M) H) (hS : va_S A H0 H locs) {g r n : Nat} (hm : (g, r) ∈ idx) (hc : ∀ f, cel E g r f = .inl (E.2.1.1, n, .inl f)) {i x : Int32} {j : Nat} (hin : vp_in i n) (hj : i.toNatClampNeg = j) (hdg : decode cc pc = .ok (.iastore, 1)) (kk : ∀ (H1 : Heap) (locs1 : List Loc) (M1 : Mem), M1 = st M g r j x → va_P E.1 vwCl (wl E M1) H1 → va_S A H0 H1 locs1 → W p l e R s m args below meth c H1 locs1 cells slots Q (F0 m (pc + 1) ls rest)) : W p l e R s m args below meth c H locs cells slots Q (F0 m pc ls (.int x :: .int i :: .ref (E.2.2 g r) :: rest)) := by
  obtain ⟨q, h0, hq⟩ := wl_at (E := E) (M := M) hm
  rw [hc] at hq
  subst hj
  refine va_iast X.1.1 X.1.2.1 X.2.1 hP (wl_D X.2.2.1 X.2.2.2 M) hS q 0 hq rfl hin hdg (fun H1 locs1 hP1 _ hS1 => ?_)
  rw [wl_set h0 (hc _)] at hP1
  exact kk H1 locs1 _ rfl hP1 hS1
theorem mw_cst (X : Cx E A p s m c args cc nL own) (hP : va_P E.1 vwCl (wl E M) H) (hS : va_S A H0 H locs) {g r n : Nat} (hm : (g, r) ∈ idx) (hc : ∀ f, cel E g r f = .inl (E.2.1.2.1, n, .inl f)) {i x : Int32} {j : Nat} (hin : vp_in i n) (hj : i.toNatClampNeg = j) (hdg : decode cc pc = .ok (.castore, 1)) (kk : ∀ (H1 : Heap) (locs1 : List Loc) (M1 : Mem), M1 = st M g r j (vp_nar .char x) → va_P E.1 vwCl (wl E M1) H1 → va_S A H0 H1 locs1 → W p l e R s m args below meth c H1 locs1 cells slots Q (F0 m (pc + 1) ls rest)) : W p l e R s m args below meth c H locs cells slots Q (F0 m pc ls (.int x :: .int i :: .ref (E.2.2 g r) :: rest)) := by
  obtain ⟨q, h0, hq⟩ := wl_at (E := E) (M := M) hm
  rw [hc] at hq
  subst hj
  refine va_cast X.1.1 X.1.2.1 X.2.1 hP (wl_D X.2.2.1 X.2.2.2 M) hS q 1 hq rfl hin hdg (fun H1 locs1 hP1 _ hS1 => ?_)
  rw [wl_set h0 (hc _)] at hP1
  exact kk H1 locs1 _ rfl hP1 hS1
theorem mw_len (X : Cx E A p s m c args cc nL own) (hP : va_P E.1 vwCl (wl E M) H) {g r n : Nat} (hm : (g, r) ∈ idx) (hc : cel E g r (M g r) = .inl (E.2.1.1, n, .inl (M g r))) {v : Int32} (hv : Int32.ofNat n = v) (hdg : decode cc pc = .ok (.arraylength, 1)) (kk : W p l e R s m args below meth c H locs cells slots Q (F0 m (pc + 1) ls (.int v :: rest))) : W p l e R s m args below meth c H locs cells slots Q (F0 m pc ls (.ref (E.2.2 g r) :: rest)) := by
  obtain ⟨j, -, hj⟩ := wl_at (E := E) (M := M) hm
  rw [hc] at hj
  exact va_alen X.1.1 X.1.2.1 X.2.1 hP j 0 hj (ty := .int) rfl hv hdg kk
theorem mw_cpy (X : Cx E A p s m c args cc nL own) (hP : va_P E.1 vwCl (wl E M) H) (hS : va_S A H0 H locs) (hls : ls.size = nL) {g r g1 r1 n0 n1 index : Nat} (hm : (g, r) ∈ idx) (hc : cel E g r (M g r) = .inl (E.2.1.1, n0, .inl (M g r))) (hm1 : (g1, r1) ∈ idx) (hc1 : ∀ f, cel E g1 r1 f = .inl (E.2.1.1, n1, .inl f)) {sp dp n : Int32} (h1 : ¬ sp < 0) (h2 : ¬ dp < 0) (h3 : ¬ n < 0) (h4 : sp.toNatClampNeg + n.toNatClampNeg ≤ n0) (h5 : dp.toNatClampNeg + n.toNatClampNeg ≤ n1) (hR : 1 ≤ R.frames ∧ 8 + (nativeFrameWords "java/lang/System" "arraycopy" 5 + 11) ≤ R.locals) (hW : (rest.map fun v => v.category).sum ≤ 8) (hl : Cond.methodLink own index arraycopyName ∈ wsL_law) (hw1 : Cond.native arraycopyName ∈ wsL_law) (hw2 : Cond.static arraycopyName ∈ wsL_law) (hw3 : Cond.initialized "java/lang/System" ∈ wsL_law) (hdg : decode cc pc = .ok (.invokestatic index, 3)) (kk : ∀ (H1 : Heap) (locs1 : List Loc) (M1 : Mem), M1 = sr M g1 r1 (va_cpy (M g r) (M g1 r1) sp.toNatClampNeg dp.toNatClampNeg n.toNatClampNeg) → va_P E.1 vwCl (wl E M1) H1 → va_S A H0 H1 locs1 → W p l e R s m args below meth c H1 locs1 cells slots Q (F0 m (pc + 3) ls rest)) : W p l e R s m args below meth c H locs cells slots Q (F0 m pc ls (.int n :: .int dp :: .ref (E.2.2 g1 r1) :: .int sp :: .ref (E.2.2 g r) :: rest)) := by
  obtain ⟨q, -, hq⟩ := wl_at (E := E) (M := M) hm
  rw [hc] at hq
  obtain ⟨q1, h01, hq1⟩ := wl_at (E := E) (M := M) hm1
  rw [hc1] at hq1
  have ht := X.1.2.2.2.2
  refine va_copyi X.1.1 X.1.2.1 (X.1.2.2.1.trans hls.symm) X.1.2.2.2.1 (ht _ hl) (ht _ hw1) (ht _ hw2) (ht _ hw3) X.2.1 hP (wl_D X.2.2.1 X.2.2.2 M) hS q q1 0 0 (ty := .int) hq hq1 rfl rfl rfl h1 h2 h3 h4 h5 (fun _ _ => rfl) hR.1 (by omega) hdg (fun H1 locs1 hP1 _ hS1 => ?_)
  rw [wl_set h01 (hc1 _)] at hP1
  exact kk H1 locs1 _ rfl hP1 hS1
theorem mw_max (X : Cx E A p s m c args cc nL own) (hls : ls.size = nL) {index : Nat} (hR : 1 ≤ R.frames ∧ 21 ≤ R.locals) (hcs : cells ≤ R.cells ∧ slots ≤ R.slots) (hW : (rest.map fun v => v.category).sum ≤ 8) (hl : Cond.methodLink own index Lib.Math.max.name ∈ wsL_law) (hw1 : Cond.static Lib.Math.max.name ∈ wsL_law) (hw2 : Cond.initialized "java/lang/Math" ∈ wsL_law) (hw3 : Cond.code Lib.Math.max.name Lib.Math.max.code 2 (some .int) ∈ wsL_law) {x y : Int32} (hdg : decode cc pc = .ok (.invokestatic index, 3)) (kk : W p l e R s m args below meth c H locs cells slots Q (F0 m (pc + 3) ls (.int (if x < y then y else x) :: rest))) : W p l e R s m args below meth c H locs cells slots Q (F0 m pc ls (.int y :: .int x :: rest)) := by
  have ht := X.1.2.2.2.2
  exact va_mmax X.1.1 X.1.2.1 (X.1.2.2.1.trans hls.symm) X.1.2.2.2.1 (ht _ hl) (ht _ hw1) (ht _ hw2) (ht _ hw3) hR.1 (by omega) hcs.1 hcs.2 hdg kk
theorem mw_min (X : Cx E A p s m c args cc nL own) (hls : ls.size = nL) {index : Nat} (hR : 1 ≤ R.frames ∧ 21 ≤ R.locals) (hcs : cells ≤ R.cells ∧ slots ≤ R.slots) (hW : (rest.map fun v => v.category).sum ≤ 8) (hl : Cond.methodLink own index Lib.Math.min.name ∈ wsL_law) (hw1 : Cond.static Lib.Math.min.name ∈ wsL_law) (hw2 : Cond.initialized "java/lang/Math" ∈ wsL_law) (hw3 : Cond.code Lib.Math.min.name Lib.Math.min.code 2 (some .int) ∈ wsL_law) {x y : Int32} (hdg : decode cc pc = .ok (.invokestatic index, 3)) (kk : W p l e R s m args below meth c H locs cells slots Q (F0 m (pc + 3) ls (.int (if y < x then y else x) :: rest))) : W p l e R s m args below meth c H locs cells slots Q (F0 m pc ls (.int y :: .int x :: rest)) := by
  have ht := X.1.2.2.2.2
  exact va_mmin X.1.1 X.1.2.1 (X.1.2.2.1.trans hls.symm) X.1.2.2.2.1 (ht _ hl) (ht _ hw1) (ht _ hw2) (ht _ hw3) hR.1 (by omega) hcs.1 hcs.2 hdg kk
theorem mw_cb {C : String} {y : MethodName} {bytes : ByteArray} {maxL n index : Nat} {ret : Option FieldType} {rm : Room} (X : Cx E A p s m c args cc nL own) (pk : Pk C y bytes maxL ret n) (hlk : Cond.methodLink own index y ∈ wsL_law) (hR : rm.frames + 1 ≤ R.frames ∧ 8 + (maxL + 11) + rm.locals ≤ R.locals) (hrm : rm.cells = 0 ∧ rm.slots = 0) : CallB R s args own index y bytes maxL ret (Wm y bytes maxL ret) rm 0 0 n :=
  callB_of n X.1.2.2.2.2 (Wm_good (y' := y) (b' := bytes) (maxL' := maxL) (ret' := ret) pk.1) rfl hrm.1 hrm.2 (X.1.2.2.2.2 _ pk.2.1) (X.1.2.2.2.2 _ hlk) pk.2.2.2 hR
theorem mw_pre (X : Cx E A p s m c args cc nL own) (hP : va_P E.1 vwCl (wl E M) H) {av : List Value} : ∀ U : State, U.heap = H → s.WarmedH U.vm → va_Pc av (Wd E M) av.toArray U := fun U hU hW => ⟨rfl, by rw [hU]; exact hP, va_K.moved hW.alike X.2.1⟩
theorem mw_callVi {C : String} {y : MethodName} {bytes : ByteArray} {maxL n index : Nat} {ret : Option FieldType} {rm : Room} {g ro ci : Nat} {fs As st0 : List Value} {q : vw_C} {M1 : Mem} {r : Int32} (X : Cx E A p s m c args cc nL own) (hM : Met l y (Wm y bytes maxL ret) rm (va_Pc (.ref (E.2.2 g ro) :: As) (Wd E M)) (QI E r M1) 0 0 (AA E)) (pk : Pk C y bytes maxL ret n) (him : Cond.instanceMethod y ∈ wsL_law ∧ Cond.selects C y y ∈ wsL_law) (hlk : Cond.methodLink own index y ∈ wsL_law) (hR : rm.frames + 1 ≤ R.frames ∧ 8 + (maxL + 11) + rm.locals ≤ R.locals) (hrm : rm.cells = 0 ∧ rm.slots = 0) (hP : va_P E.1 vwCl (wl E M) H) (hS : va_S A H0 H locs) (hm : (g, ro) ∈ idx) (he : cel E g ro (M g ro) = .inr (ci, fs)) (hc : vwCl[ci]? = some q) (hq : q.1 = C) (hlen : As.length = n) (hls : ls.size = nL) (hW : (rest.map fun v => v.category).sum ≤ 8) (hcs : cells ≤ R.cells ∧ slots ≤ R.slots) (hst : st0 = As.reverse ++ .ref (E.2.2 g ro) :: rest) (hdg : decode cc pc = .ok (.invokevirtual index, 3))
    (kk : ∀ (H1 : Heap) (locs1 : List Loc), va_P E.1 vwCl (wl E M1) H1 → va_S A H0 H1 locs1 → W p l e R s m args below meth c H1 locs1 cells slots Q (F0 m (pc + 3) ls (.int r :: rest))) : W p l e R s m args below meth c H locs cells slots Q (F0 m pc ls st0) := by
  subst hst
  subst hq
  obtain ⟨i, -, hi⟩ := wl_at (E := E) (M := M) hm
  rw [he] at hi
  refine va_calli (A1 := AA E) (va_runV (As := As) (rest := rest) X.1 hM ⟨mw_cb X pk hlk hR hrm, X.1.2.2.2.2 _ him.1, X.1.2.2.2.2 _ him.2⟩ ⟨Wd_blind, va_recv X.2.1 hP hc hi, mw_pre X hP⟩ rfl hlen hls rfl (lv_room hW) hdg hcs) hS (fun q _ h => X.2.2.2 q h) X.2.2.2 (fun r1 u t H1 locs1 ht _ hr hB _ _ hS1 => ?_)
  subst hr
  exact kk H1 locs1 (by rw [← ht]; exact hB.1) hS1
theorem mw_callVv {C : String} {y : MethodName} {bytes : ByteArray} {maxL n index : Nat} {ret : Option FieldType} {rm : Room} {g ro ci : Nat} {fs As st0 : List Value} {q : vw_C} {M1 : Mem} (X : Cx E A p s m c args cc nL own) (hM : Met l y (Wm y bytes maxL ret) rm (va_Pc (.ref (E.2.2 g ro) :: As) (Wd E M)) (QV E M1) 0 0 (AA E)) (pk : Pk C y bytes maxL ret n) (him : Cond.instanceMethod y ∈ wsL_law ∧ Cond.selects C y y ∈ wsL_law) (hlk : Cond.methodLink own index y ∈ wsL_law) (hR : rm.frames + 1 ≤ R.frames ∧ 8 + (maxL + 11) + rm.locals ≤ R.locals) (hrm : rm.cells = 0 ∧ rm.slots = 0) (hP : va_P E.1 vwCl (wl E M) H) (hS : va_S A H0 H locs) (hm : (g, ro) ∈ idx) (he : cel E g ro (M g ro) = .inr (ci, fs)) (hc : vwCl[ci]? = some q) (hq : q.1 = C) (hlen : As.length = n) (hls : ls.size = nL) (hW : (rest.map fun v => v.category).sum ≤ 8) (hcs : cells ≤ R.cells ∧ slots ≤ R.slots) (hst : st0 = As.reverse ++ .ref (E.2.2 g ro) :: rest) (hdg : decode cc pc = .ok (.invokevirtual index, 3))
    (kk : ∀ (H1 : Heap) (locs1 : List Loc), va_P E.1 vwCl (wl E M1) H1 → va_S A H0 H1 locs1 → W p l e R s m args below meth c H1 locs1 cells slots Q (F0 m (pc + 3) ls rest)) : W p l e R s m args below meth c H locs cells slots Q (F0 m pc ls st0) := by
  subst hst
  subst hq
  obtain ⟨i, -, hi⟩ := wl_at (E := E) (M := M) hm
  rw [he] at hi
  refine va_callv (A1 := AA E) (va_runV (As := As) (rest := rest) X.1 hM ⟨mw_cb X pk hlk hR hrm, X.1.2.2.2.2 _ him.1, X.1.2.2.2.2 _ him.2⟩ ⟨Wd_blind, va_recv X.2.1 hP hc hi, mw_pre X hP⟩ rfl hlen hls rfl (lv_room hW) hdg hcs) hS (fun q _ h => X.2.2.2 q h) X.2.2.2 (fun u t H1 locs1 ht _ hr hB _ _ hS1 => ?_)
  exact kk H1 locs1 (by rw [← ht]; exact hB.1) hS1
theorem mw_callVr {C : String} {y : MethodName} {bytes : ByteArray} {maxL n index : Nat} {ret : Option FieldType} {rm : Room} {g ro ci g1 : Nat} {fs As st0 : List Value} {q : vw_C} {M1 : Mem} (X : Cx E A p s m c args cc nL own) (hM : Met l y (Wm y bytes maxL ret) rm (va_Pc (.ref (E.2.2 g ro) :: As) (Wd E M)) (QR E g1 M1) 0 0 (AA E)) (pk : Pk C y bytes maxL ret n) (him : Cond.instanceMethod y ∈ wsL_law ∧ Cond.selects C y y ∈ wsL_law) (hlk : Cond.methodLink own index y ∈ wsL_law) (hR : rm.frames + 1 ≤ R.frames ∧ 8 + (maxL + 11) + rm.locals ≤ R.locals) (hrm : rm.cells = 0 ∧ rm.slots = 0) (hP : va_P E.1 vwCl (wl E M) H) (hS : va_S A H0 H locs) (hm : (g, ro) ∈ idx) (he : cel E g ro (M g ro) = .inr (ci, fs)) (hc : vwCl[ci]? = some q) (hq : q.1 = C) (hlen : As.length = n) (hls : ls.size = nL) (hW : (rest.map fun v => v.category).sum ≤ 8) (hcs : cells ≤ R.cells ∧ slots ≤ R.slots) (hst : st0 = As.reverse ++ .ref (E.2.2 g ro) :: rest) (hdg : decode cc pc = .ok (.invokevirtual index, 3))
    (kk : ∀ (H1 : Heap) (locs1 : List Loc), va_P E.1 vwCl (wl E M1) H1 → va_S A H0 H1 locs1 → W p l e R s m args below meth c H1 locs1 cells slots Q (F0 m (pc + 3) ls (.ref (E.2.2 g1 0) :: rest))) : W p l e R s m args below meth c H locs cells slots Q (F0 m pc ls st0) := by
  subst hst
  subst hq
  obtain ⟨i, -, hi⟩ := wl_at (E := E) (M := M) hm
  rw [he] at hi
  refine va_callr (A1 := AA E) (va_runV (As := As) (rest := rest) X.1 hM ⟨mw_cb X pk hlk hR hrm, X.1.2.2.2.2 _ him.1, X.1.2.2.2.2 _ him.2⟩ ⟨Wd_blind, va_recv X.2.1 hP hc hi, mw_pre X hP⟩ rfl hlen hls rfl (lv_room hW) hdg hcs) hS (fun q _ h => X.2.2.2 q h) X.2.2.2 (fun u ra t H1 locs1 ht _ hr hB _ _ hS1 => ?_)
  obtain ⟨hra, hB⟩ := hB
  subst hra
  exact kk H1 locs1 (by rw [← ht]; exact hB.1) hS1
theorem mw_callSi {C : String} {y : MethodName} {bytes : ByteArray} {maxL n index : Nat} {ret : Option FieldType} {rm : Room} {As st0 : List Value} {M1 : Mem} {r : Int32} (X : Cx E A p s m c args cc nL own) (hM : Met l y (Wm y bytes maxL ret) rm (va_Pc As (Wd E M)) (QI E r M1) 0 0 (AA E)) (pk : Pk C y bytes maxL ret n) (hsy : Cond.static y ∈ wsL_law) (hlk : Cond.methodLink own index y ∈ wsL_law) (hR : rm.frames + 1 ≤ R.frames ∧ 8 + (maxL + 11) + rm.locals ≤ R.locals) (hrm : rm.cells = 0 ∧ rm.slots = 0) (hP : va_P E.1 vwCl (wl E M) H) (hS : va_S A H0 H locs) (hlen : As.length = n) (hls : ls.size = nL) (hW : (rest.map fun v => v.category).sum ≤ 8) (hcs : cells ≤ R.cells ∧ slots ≤ R.slots) (hst : st0 = As.reverse ++ rest) (hdg : decode cc pc = .ok (.invokestatic index, 3))
    (kk : ∀ (H1 : Heap) (locs1 : List Loc), va_P E.1 vwCl (wl E M1) H1 → va_S A H0 H1 locs1 → W p l e R s m args below meth c H1 locs1 cells slots Q (F0 m (pc + 3) ls (.int r :: rest))) : W p l e R s m args below meth c H locs cells slots Q (F0 m pc ls st0) := by
  subst hst
  refine va_calli (A1 := AA E) (va_runS (As := As) (rest := rest) X.1 hM ⟨mw_cb X pk hlk hR hrm, X.1.2.2.2.2 _ hsy⟩ ⟨Wd_blind, mw_pre X hP⟩ rfl hlen hls rfl (lv_room hW) hdg hcs) hS (fun q _ h => X.2.2.2 q h) X.2.2.2 (fun r1 u t H1 locs1 ht _ hr hB _ _ hS1 => ?_)
  subst hr
  exact kk H1 locs1 (by rw [← ht]; exact hB.1) hS1
theorem mw_callSv {C : String} {y : MethodName} {bytes : ByteArray} {maxL n index : Nat} {ret : Option FieldType} {rm : Room} {As st0 : List Value} {M1 : Mem} (X : Cx E A p s m c args cc nL own) (hM : Met l y (Wm y bytes maxL ret) rm (va_Pc As (Wd E M)) (QV E M1) 0 0 (AA E)) (pk : Pk C y bytes maxL ret n) (hsy : Cond.static y ∈ wsL_law) (hlk : Cond.methodLink own index y ∈ wsL_law) (hR : rm.frames + 1 ≤ R.frames ∧ 8 + (maxL + 11) + rm.locals ≤ R.locals) (hrm : rm.cells = 0 ∧ rm.slots = 0) (hP : va_P E.1 vwCl (wl E M) H) (hS : va_S A H0 H locs) (hlen : As.length = n) (hls : ls.size = nL) (hW : (rest.map fun v => v.category).sum ≤ 8) (hcs : cells ≤ R.cells ∧ slots ≤ R.slots) (hst : st0 = As.reverse ++ rest) (hdg : decode cc pc = .ok (.invokestatic index, 3))
    (kk : ∀ (H1 : Heap) (locs1 : List Loc), va_P E.1 vwCl (wl E M1) H1 → va_S A H0 H1 locs1 → W p l e R s m args below meth c H1 locs1 cells slots Q (F0 m (pc + 3) ls rest)) : W p l e R s m args below meth c H locs cells slots Q (F0 m pc ls st0) := by
  subst hst
  refine va_callv (A1 := AA E) (va_runS (As := As) (rest := rest) X.1 hM ⟨mw_cb X pk hlk hR hrm, X.1.2.2.2.2 _ hsy⟩ ⟨Wd_blind, mw_pre X hP⟩ rfl hlen hls rfl (lv_room hW) hdg hcs) hS (fun q _ h => X.2.2.2 q h) X.2.2.2 (fun u t H1 locs1 ht _ hr hB _ _ hS1 => ?_)
  exact kk H1 locs1 (by rw [← ht]; exact hB.1) hS1
/-! ends -/
theorem mw_iret {r0 v : Int32} {M0 : Mem} (X : Cx E (AA E) p s m c args cc nL own) (hr : meth.sig.returnType = some .int) (hlocks : meth.locks = false) (hP : va_P E.1 vwCl (wl E M) H) (hS : va_S (AA E) s.heap H locs) (hv : v = r0) (hM : M = M0) (hdg : decode cc pc = .ok (.ireturn, 1)) : W p l e R s m args below meth c H locs 0 0 (MQ below (QI E r0 M0) args s 0 0 (AA E)) (F0 m pc ls [.int v]) := by
  subst hv; subst hM
  exact W.iret X.1.1 X.1.2.1 hr (fun t ht hW => ⟨⟨v, (), rfl, rfl, by rw [ht]; exact hP, va_K.moved hW.alike X.2.1⟩, hS.F ht⟩) hS.2.2 hdg hlocks
theorem mw_zret {r0 v : Int32} {M0 : Mem} (X : Cx E (AA E) p s m c args cc nL own) (hr : meth.sig.returnType = some .boolean) (hlocks : meth.locks = false) (hP : va_P E.1 vwCl (wl E M) H) (hS : va_S (AA E) s.heap H locs) (hB : isB v) (hv : v = r0) (hM : M = M0) (hdg : decode cc pc = .ok (.ireturn, 1)) : W p l e R s m args below meth c H locs 0 0 (MQ below (QI E r0 M0) args s 0 0 (AA E)) (F0 m pc ls [.int v]) := by
  subst hv; subst hM
  exact W.zret X.1.1 X.1.2.1 hr (isB_n hB) (fun t ht hW => ⟨⟨v, (), rfl, rfl, by rw [ht]; exact hP, va_K.moved hW.alike X.2.1⟩, hS.F ht⟩) hS.2.2 hdg hlocks
theorem mw_vret {M0 : Mem} (X : Cx E (AA E) p s m c args cc nL own) (hr : meth.sig.returnType = none) (hlocks : meth.locks = false) (hP : va_P E.1 vwCl (wl E M) H) (hS : va_S (AA E) s.heap H locs) (hM : M = M0) (hdg : decode cc pc = .ok (.return_, 1)) : W p l e R s m args below meth c H locs 0 0 (MQ below (QV E M0) args s 0 0 (AA E)) (F0 m pc ls []) := by
  subst hM
  exact W.vret X.1.1 X.1.2.1 hr (fun t ht hW => ⟨⟨(), rfl, trivial, by rw [ht]; exact hP, va_K.moved hW.alike X.2.1⟩, hS.F ht⟩) hS.2.2 hdg hlocks
theorem mw_aret {g g0 : Nat} {M0 : Mem} {C : String} (X : Cx E (AA E) p s m c args cc nL own) (hr : meth.sig.returnType = some (.object C)) (hlocks : meth.locks = false) (hP : va_P E.1 vwCl (wl E M) H) (hS : va_S (AA E) s.heap H locs) (hv : g = g0) (hM : M = M0) (hdg : decode cc pc = .ok (.areturn, 1)) : W p l e R s m args below meth c H locs 0 0 (MQ below (QR E g0 M0) args s 0 0 (AA E)) (F0 m pc ls [.ref (E.2.2 g 0)]) := by
  subst hv; subst hM
  exact W.aret X.1.1 X.1.2.1 hr (Or.inl ⟨C, rfl⟩) (Or.inr ⟨_, rfl⟩) (fun t ht hW => ⟨⟨(), E.2.2 g 0, rfl, trivial, rfl, by rw [ht]; exact hP, va_K.moved hW.alike X.2.1⟩, hS.F ht⟩) hS.2.2 hdg hlocks
end MW
end
section
theorem zz_last : True := trivial
end
