theorem dX7_doOrder_205 : decode cX7_doOrder 205 = .ok (.invokevirtual 67, 3) := by decide +kernel
theorem dX7_doOrder_208 : decode cX7_doOrder 208 = .ok (.ireturn, 1) := by decide +kernel
theorem dX7_doOrder_209 : decode cX7_doOrder 209 = .ok (.aload_n 0, 1) := by decide +kernel
theorem dX7_doOrder_210 : decode cX7_doOrder 210 = .ok (.getfield 16, 3) := by decide +kernel
theorem dX7_doOrder_213 : decode cX7_doOrder 213 = .ok (.iconst 0, 1) := by decide +kernel
theorem dX7_doOrder_214 : decode cX7_doOrder 214 = .ok (.invokevirtual 77, 3) := by decide +kernel
theorem dX7_doOrder_217 : decode cX7_doOrder 217 = .ok (.ireturn, 1) := by decide +kernel
theorem dX7_doOrder_218 : decode cX7_doOrder 218 = .ok (.aload_n 0, 1) := by decide +kernel
theorem dX7_doOrder_219 : decode cX7_doOrder 219 = .ok (.getfield 22, 3) := by decide +kernel
theorem dX7_doOrder_222 : decode cX7_doOrder 222 = .ok (.aload_n 0, 1) := by decide +kernel
theorem dX7_doOrder_223 : decode cX7_doOrder 223 = .ok (.getfield 16, 3) := by decide +kernel
theorem dX7_doOrder_226 : decode cX7_doOrder 226 = .ok (.invokevirtual 80, 3) := by decide +kernel
theorem dX7_doOrder_229 : decode cX7_doOrder 229 = .ok (.ireturn, 1) := by decide +kernel
theorem dX8_init_0 : decode cX8_init 0 = .ok (.aload_n 0, 1) := by decide +kernel
theorem dX8_init_1 : decode cX8_init 1 = .ok (.invokespecial 1, 3) := by decide +kernel
theorem dX8_init_4 : decode cX8_init 4 = .ok (.aload_n 0, 1) := by decide +kernel
theorem dX8_init_5 : decode cX8_init 5 = .ok (.sipush 2117, 3) := by decide +kernel
theorem dX8_init_8 : decode cX8_init 8 = .ok (.newarray .int, 2) := by decide +kernel
theorem dX8_init_10 : decode cX8_init 10 = .ok (.putfield 7, 3) := by decide +kernel
theorem dX8_init_13 : decode cX8_init 13 = .ok (.aload_n 0, 1) := by decide +kernel
theorem dX8_init_14 : decode cX8_init 14 = .ok (.sipush 8468, 3) := by decide +kernel
theorem dX8_init_17 : decode cX8_init 17 = .ok (.newarray .int, 2) := by decide +kernel
theorem dX8_init_19 : decode cX8_init 19 = .ok (.putfield 13, 3) := by decide +kernel
theorem dX8_init_22 : decode cX8_init 22 = .ok (.aload_n 0, 1) := by decide +kernel
theorem dX8_init_23 : decode cX8_init 23 = .ok (.sipush 2117, 3) := by decide +kernel
theorem dX8_init_26 : decode cX8_init 26 = .ok (.newarray .int, 2) := by decide +kernel
theorem dX8_init_28 : decode cX8_init 28 = .ok (.putfield 16, 3) := by decide +kernel
theorem dX8_init_31 : decode cX8_init 31 = .ok (.aload_n 0, 1) := by decide +kernel
theorem dX8_init_32 : decode cX8_init 32 = .ok (.sipush 2117, 3) := by decide +kernel
theorem dX8_init_35 : decode cX8_init 35 = .ok (.newarray .int, 2) := by decide +kernel
theorem dX8_init_37 : decode cX8_init 37 = .ok (.putfield 19, 3) := by decide +kernel
theorem dX8_init_40 : decode cX8_init 40 = .ok (.aload_n 0, 1) := by decide +kernel
theorem dX8_init_41 : decode cX8_init 41 = .ok (.bipush 80, 2) := by decide +kernel
theorem dX8_init_43 : decode cX8_init 43 = .ok (.newarray .int, 2) := by decide +kernel
theorem dX8_init_45 : decode cX8_init 45 = .ok (.putfield 22, 3) := by decide +kernel
theorem dX8_init_48 : decode cX8_init 48 = .ok (.aload_n 0, 1) := by decide +kernel
theorem dX8_init_49 : decode cX8_init 49 = .ok (.bipush 8, 2) := by decide +kernel
theorem dX8_init_51 : decode cX8_init 51 = .ok (.newarray .int, 2) := by decide +kernel
theorem dX8_init_53 : decode cX8_init 53 = .ok (.putfield 25, 3) := by decide +kernel
theorem dX8_init_56 : decode cX8_init 56 = .ok (.aload_n 0, 1) := by decide +kernel
theorem dX8_init_57 : decode cX8_init 57 = .ok (.iconst 3, 1) := by decide +kernel
theorem dX8_init_58 : decode cX8_init 58 = .ok (.newarray .int, 2) := by decide +kernel
theorem dX8_init_60 : decode cX8_init 60 = .ok (.putfield 28, 3) := by decide +kernel
theorem dX8_init_63 : decode cX8_init 63 = .ok (.aload_n 0, 1) := by decide +kernel
theorem dX8_init_64 : decode cX8_init 64 = .ok (.getfield 7, 3) := by decide +kernel
theorem dX8_init_67 : decode cX8_init 67 = .ok (.iconst 0, 1) := by decide +kernel
theorem dX8_init_68 : decode cX8_init 68 = .ok (.iconst 1, 1) := by decide +kernel
theorem dX8_init_69 : decode cX8_init 69 = .ok (.iastore, 1) := by decide +kernel
theorem dX8_init_70 : decode cX8_init 70 = .ok (.return_, 1) := by decide +kernel
theorem dX8_in_0 : decode cX8_in 0 = .ok (.iload_n 0, 1) := by decide +kernel
theorem dX8_in_1 : decode cX8_in 1 = .ok (.iload_n 1, 1) := by decide +kernel
theorem dX8_in_2 : decode cX8_in 2 = .ok (.if_icmp .lt 12, 3) := by decide +kernel
theorem dX8_in_5 : decode cX8_in 5 = .ok (.iload_n 0, 1) := by decide +kernel
theorem dX8_in_6 : decode cX8_in 6 = .ok (.iload_n 2, 1) := by decide +kernel
theorem dX8_in_7 : decode cX8_in 7 = .ok (.if_icmp .gt 7, 3) := by decide +kernel
theorem dX8_in_10 : decode cX8_in 10 = .ok (.iconst 1, 1) := by decide +kernel
theorem dX8_in_11 : decode cX8_in 11 = .ok (.goto 4, 3) := by decide +kernel
theorem dX8_in_14 : decode cX8_in 14 = .ok (.iconst 0, 1) := by decide +kernel
theorem dX8_in_15 : decode cX8_in 15 = .ok (.ireturn, 1) := by decide +kernel
theorem dX8_copies_0 : decode cX8_copies 0 = .ok (.iconst 0, 1) := by decide +kernel
theorem dX8_copies_1 : decode cX8_copies 1 = .ok (.istore_n 2, 1) := by decide +kernel
theorem dX8_copies_2 : decode cX8_copies 2 = .ok (.iload_n 2, 1) := by decide +kernel
theorem dX8_copies_3 : decode cX8_copies 3 = .ok (.sipush 2117, 3) := by decide +kernel
theorem dX8_copies_6 : decode cX8_copies 6 = .ok (.if_icmp .ge 15, 3) := by decide +kernel
theorem dX8_copies_9 : decode cX8_copies 9 = .ok (.aload_n 1, 1) := by decide +kernel
theorem dX8_copies_10 : decode cX8_copies 10 = .ok (.iload_n 2, 1) := by decide +kernel
theorem dX8_copies_11 : decode cX8_copies 11 = .ok (.aload_n 0, 1) := by decide +kernel
theorem dX8_copies_12 : decode cX8_copies 12 = .ok (.iload_n 2, 1) := by decide +kernel
theorem dX8_copies_13 : decode cX8_copies 13 = .ok (.iaload, 1) := by decide +kernel
theorem dX8_copies_14 : decode cX8_copies 14 = .ok (.iastore, 1) := by decide +kernel
theorem dX8_copies_15 : decode cX8_copies 15 = .ok (.iinc 2 1, 3) := by decide +kernel
theorem dX8_copies_18 : decode cX8_copies 18 = .ok (.goto (-16), 3) := by decide +kernel
theorem dX8_copies_21 : decode cX8_copies 21 = .ok (.return_, 1) := by decide +kernel
theorem dX8_changes_0 : decode cX8_changes 0 = .ok (.aload_n 0, 1) := by decide +kernel
theorem dX8_changes_1 : decode cX8_changes 1 = .ok (.getfield 31, 3) := by decide +kernel
theorem dX8_changes_4 : decode cX8_changes 4 = .ok (.ifCond .eq 4, 3) := by decide +kernel
theorem dX8_changes_7 : decode cX8_changes 7 = .ok (.return_, 1) := by decide +kernel
theorem dX8_changes_8 : decode cX8_changes 8 = .ok (.aload_n 0, 1) := by decide +kernel
theorem dX8_changes_9 : decode cX8_changes 9 = .ok (.getfield 35, 3) := by decide +kernel
theorem dX8_changes_12 : decode cX8_changes 12 = .ok (.iconst 4, 1) := by decide +kernel
theorem dX8_changes_13 : decode cX8_changes 13 = .ok (.if_icmp .ne 44, 3) := by decide +kernel
theorem dX8_changes_16 : decode cX8_changes 16 = .ok (.iconst 0, 1) := by decide +kernel
theorem dX8_changes_17 : decode cX8_changes 17 = .ok (.istore_n 1, 1) := by decide +kernel
theorem dX8_changes_18 : decode cX8_changes 18 = .ok (.iload_n 1, 1) := by decide +kernel
theorem dX8_changes_19 : decode cX8_changes 19 = .ok (.sipush 6351, 3) := by decide +kernel
theorem dX8_changes_22 : decode cX8_changes 22 = .ok (.if_icmp .ge 25, 3) := by decide +kernel
theorem dX8_changes_25 : decode cX8_changes 25 = .ok (.aload_n 0, 1) := by decide +kernel
theorem dX8_changes_26 : decode cX8_changes 26 = .ok (.getfield 13, 3) := by decide +kernel
theorem dX8_changes_29 : decode cX8_changes 29 = .ok (.iload_n 1, 1) := by decide +kernel
theorem dX8_changes_30 : decode cX8_changes 30 = .ok (.aload_n 0, 1) := by decide +kernel
theorem dX8_changes_31 : decode cX8_changes 31 = .ok (.getfield 13, 3) := by decide +kernel
theorem dX8_changes_34 : decode cX8_changes 34 = .ok (.iload_n 1, 1) := by decide +kernel
theorem dX8_changes_35 : decode cX8_changes 35 = .ok (.sipush 2117, 3) := by decide +kernel
theorem dX8_changes_38 : decode cX8_changes 38 = .ok (.iadd, 1) := by decide +kernel
theorem dX8_changes_39 : decode cX8_changes 39 = .ok (.iaload, 1) := by decide +kernel
theorem dX8_changes_40 : decode cX8_changes 40 = .ok (.iastore, 1) := by decide +kernel
theorem dX8_changes_41 : decode cX8_changes 41 = .ok (.iinc 1 1, 3) := by decide +kernel
theorem dX8_changes_44 : decode cX8_changes 44 = .ok (.goto (-26), 3) := by decide +kernel
theorem dX8_changes_47 : decode cX8_changes 47 = .ok (.aload_n 0, 1) := by decide +kernel
theorem dX8_changes_48 : decode cX8_changes 48 = .ok (.dup, 1) := by decide +kernel
theorem dX8_changes_49 : decode cX8_changes 49 = .ok (.getfield 35, 3) := by decide +kernel
theorem dX8_changes_52 : decode cX8_changes 52 = .ok (.iconst 1, 1) := by decide +kernel
theorem dX8_changes_53 : decode cX8_changes 53 = .ok (.isub, 1) := by decide +kernel
theorem dX8_changes_54 : decode cX8_changes 54 = .ok (.putfield 35, 3) := by decide +kernel
theorem dX8_changes_57 : decode cX8_changes 57 = .ok (.iconst 0, 1) := by decide +kernel
theorem dX8_changes_58 : decode cX8_changes 58 = .ok (.istore_n 1, 1) := by decide +kernel
theorem dX8_changes_59 : decode cX8_changes 59 = .ok (.iload_n 1, 1) := by decide +kernel
theorem dX8_changes_60 : decode cX8_changes 60 = .ok (.sipush 2117, 3) := by decide +kernel
theorem dX8_changes_63 : decode cX8_changes 63 = .ok (.if_icmp .ge 30, 3) := by decide +kernel
theorem dX8_changes_66 : decode cX8_changes 66 = .ok (.aload_n 0, 1) := by decide +kernel
theorem dX8_changes_67 : decode cX8_changes 67 = .ok (.getfield 13, 3) := by decide +kernel
theorem dX8_changes_70 : decode cX8_changes 70 = .ok (.sipush 2117, 3) := by decide +kernel
theorem dX8_changes_73 : decode cX8_changes 73 = .ok (.aload_n 0, 1) := by decide +kernel
theorem dX8_changes_74 : decode cX8_changes 74 = .ok (.getfield 35, 3) := by decide +kernel
theorem dX8_changes_77 : decode cX8_changes 77 = .ok (.imul, 1) := by decide +kernel
theorem dX8_changes_78 : decode cX8_changes 78 = .ok (.iload_n 1, 1) := by decide +kernel
theorem dX8_changes_79 : decode cX8_changes 79 = .ok (.iadd, 1) := by decide +kernel
theorem dX8_changes_80 : decode cX8_changes 80 = .ok (.aload_n 0, 1) := by decide +kernel
theorem dX8_changes_81 : decode cX8_changes 81 = .ok (.getfield 7, 3) := by decide +kernel
theorem dX8_changes_84 : decode cX8_changes 84 = .ok (.iload_n 1, 1) := by decide +kernel
theorem dX8_changes_85 : decode cX8_changes 85 = .ok (.iaload, 1) := by decide +kernel
theorem dX8_changes_86 : decode cX8_changes 86 = .ok (.iastore, 1) := by decide +kernel
theorem dX8_changes_87 : decode cX8_changes 87 = .ok (.iinc 1 1, 3) := by decide +kernel
theorem dX8_changes_90 : decode cX8_changes 90 = .ok (.goto (-31), 3) := by decide +kernel
theorem dX8_changes_93 : decode cX8_changes 93 = .ok (.aload_n 0, 1) := by decide +kernel
theorem dX8_changes_94 : decode cX8_changes 94 = .ok (.dup, 1) := by decide +kernel
theorem dX8_changes_95 : decode cX8_changes 95 = .ok (.getfield 35, 3) := by decide +kernel
theorem dX8_changes_98 : decode cX8_changes 98 = .ok (.iconst 1, 1) := by decide +kernel
theorem dX8_changes_99 : decode cX8_changes 99 = .ok (.iadd, 1) := by decide +kernel
theorem dX8_changes_100 : decode cX8_changes 100 = .ok (.putfield 35, 3) := by decide +kernel
theorem dX8_changes_103 : decode cX8_changes 103 = .ok (.return_, 1) := by decide +kernel
theorem dX8_isStopped_0 : decode cX8_isStopped 0 = .ok (.aload_n 0, 1) := by decide +kernel
theorem dX8_isStopped_1 : decode cX8_isStopped 1 = .ok (.getfield 7, 3) := by decide +kernel
theorem dX8_isStopped_4 : decode cX8_isStopped 4 = .ok (.iconst 3, 1) := by decide +kernel
theorem dX8_isStopped_5 : decode cX8_isStopped 5 = .ok (.iaload, 1) := by decide +kernel
theorem dX8_isStopped_6 : decode cX8_isStopped 6 = .ok (.iconst 1, 1) := by decide +kernel
theorem dX8_isStopped_7 : decode cX8_isStopped 7 = .ok (.if_icmp .ne 7, 3) := by decide +kernel
theorem dX8_isStopped_10 : decode cX8_isStopped 10 = .ok (.iconst 1, 1) := by decide +kernel
theorem dX8_isStopped_11 : decode cX8_isStopped 11 = .ok (.goto 4, 3) := by decide +kernel
theorem dX8_isStopped_14 : decode cX8_isStopped 14 = .ok (.iconst 0, 1) := by decide +kernel
theorem dX8_isStopped_15 : decode cX8_isStopped 15 = .ok (.ireturn, 1) := by decide +kernel
theorem dX8_ofGroup_0 : decode cX8_ofGroup 0 = .ok (.aload_n 0, 1) := by decide +kernel
theorem dX8_ofGroup_1 : decode cX8_ofGroup 1 = .ok (.getfield 7, 3) := by decide +kernel
theorem dX8_ofGroup_4 : decode cX8_ofGroup 4 = .ok (.iconst 5, 1) := by decide +kernel
theorem dX8_ofGroup_5 : decode cX8_ofGroup 5 = .ok (.iconst 4, 1) := by decide +kernel
theorem dX8_ofGroup_6 : decode cX8_ofGroup 6 = .ok (.iload_n 1, 1) := by decide +kernel
theorem dX8_ofGroup_7 : decode cX8_ofGroup 7 = .ok (.imul, 1) := by decide +kernel
theorem dX8_ofGroup_8 : decode cX8_ofGroup 8 = .ok (.iadd, 1) := by decide +kernel
theorem dX8_ofGroup_9 : decode cX8_ofGroup 9 = .ok (.iload_n 2, 1) := by decide +kernel
theorem dX8_ofGroup_10 : decode cX8_ofGroup 10 = .ok (.iadd, 1) := by decide +kernel
theorem dX8_ofGroup_11 : decode cX8_ofGroup 11 = .ok (.iaload, 1) := by decide +kernel
theorem dX8_ofGroup_12 : decode cX8_ofGroup 12 = .ok (.ireturn, 1) := by decide +kernel
theorem dX8_putsGroup_0 : decode cX8_putsGroup 0 = .ok (.aload_n 0, 1) := by decide +kernel
theorem dX8_putsGroup_1 : decode cX8_putsGroup 1 = .ok (.getfield 7, 3) := by decide +kernel
theorem dX8_putsGroup_4 : decode cX8_putsGroup 4 = .ok (.iconst 5, 1) := by decide +kernel
theorem dX8_putsGroup_5 : decode cX8_putsGroup 5 = .ok (.iconst 4, 1) := by decide +kernel
theorem dX8_putsGroup_6 : decode cX8_putsGroup 6 = .ok (.iload_n 1, 1) := by decide +kernel
theorem dX8_putsGroup_7 : decode cX8_putsGroup 7 = .ok (.imul, 1) := by decide +kernel
theorem dX8_putsGroup_8 : decode cX8_putsGroup 8 = .ok (.iadd, 1) := by decide +kernel
theorem dX8_putsGroup_9 : decode cX8_putsGroup 9 = .ok (.iload_n 2, 1) := by decide +kernel
theorem dX8_putsGroup_10 : decode cX8_putsGroup 10 = .ok (.iadd, 1) := by decide +kernel
theorem dX8_putsGroup_11 : decode cX8_putsGroup 11 = .ok (.iload_n 3, 1) := by decide +kernel
theorem dX8_putsGroup_12 : decode cX8_putsGroup 12 = .ok (.iastore, 1) := by decide +kernel
theorem dX8_putsGroup_13 : decode cX8_putsGroup 13 = .ok (.return_, 1) := by decide +kernel
theorem dX8_isOpen_0 : decode cX8_isOpen 0 = .ok (.aload_n 0, 1) := by decide +kernel
theorem dX8_isOpen_1 : decode cX8_isOpen 1 = .ok (.iload_n 1, 1) := by decide +kernel
theorem dX8_isOpen_2 : decode cX8_isOpen 2 = .ok (.iconst 0, 1) := by decide +kernel
theorem dX8_isOpen_3 : decode cX8_isOpen 3 = .ok (.invokevirtual 39, 3) := by decide +kernel
theorem dX8_isOpen_6 : decode cX8_isOpen 6 = .ok (.iconst 1, 1) := by decide +kernel
theorem dX8_isOpen_7 : decode cX8_isOpen 7 = .ok (.if_icmp .ne 7, 3) := by decide +kernel
theorem dX8_isOpen_10 : decode cX8_isOpen 10 = .ok (.iconst 1, 1) := by decide +kernel
theorem dX8_isOpen_11 : decode cX8_isOpen 11 = .ok (.goto 4, 3) := by decide +kernel
theorem dX8_isOpen_14 : decode cX8_isOpen 14 = .ok (.iconst 0, 1) := by decide +kernel
theorem dX8_isOpen_15 : decode cX8_isOpen 15 = .ok (.ireturn, 1) := by decide +kernel
theorem dX8_ofPage_0 : decode cX8_ofPage 0 = .ok (.aload_n 0, 1) := by decide +kernel
theorem dX8_ofPage_1 : decode cX8_ofPage 1 = .ok (.getfield 7, 3) := by decide +kernel
theorem dX8_ofPage_4 : decode cX8_ofPage 4 = .ok (.bipush 21, 2) := by decide +kernel
theorem dX8_ofPage_6 : decode cX8_ofPage 6 = .ok (.bipush 6, 2) := by decide +kernel
theorem dX8_ofPage_8 : decode cX8_ofPage 8 = .ok (.iload_n 1, 1) := by decide +kernel
theorem dX8_ofPage_9 : decode cX8_ofPage 9 = .ok (.imul, 1) := by decide +kernel
theorem dX8_ofPage_10 : decode cX8_ofPage 10 = .ok (.iadd, 1) := by decide +kernel
theorem dX8_ofPage_11 : decode cX8_ofPage 11 = .ok (.iload_n 2, 1) := by decide +kernel
theorem dX8_ofPage_12 : decode cX8_ofPage 12 = .ok (.iadd, 1) := by decide +kernel
theorem dX8_ofPage_13 : decode cX8_ofPage 13 = .ok (.iaload, 1) := by decide +kernel
theorem dX8_ofPage_14 : decode cX8_ofPage 14 = .ok (.ireturn, 1) := by decide +kernel
theorem dX8_putsPage_0 : decode cX8_putsPage 0 = .ok (.aload_n 0, 1) := by decide +kernel
theorem dX8_putsPage_1 : decode cX8_putsPage 1 = .ok (.getfield 7, 3) := by decide +kernel
theorem dX8_putsPage_4 : decode cX8_putsPage 4 = .ok (.bipush 21, 2) := by decide +kernel
theorem dX8_putsPage_6 : decode cX8_putsPage 6 = .ok (.bipush 6, 2) := by decide +kernel
theorem dX8_putsPage_8 : decode cX8_putsPage 8 = .ok (.iload_n 1, 1) := by decide +kernel
theorem dX8_putsPage_9 : decode cX8_putsPage 9 = .ok (.imul, 1) := by decide +kernel
theorem dX8_putsPage_10 : decode cX8_putsPage 10 = .ok (.iadd, 1) := by decide +kernel
theorem dX8_putsPage_11 : decode cX8_putsPage 11 = .ok (.iload_n 2, 1) := by decide +kernel
theorem dX8_putsPage_12 : decode cX8_putsPage 12 = .ok (.iadd, 1) := by decide +kernel
theorem dX8_putsPage_13 : decode cX8_putsPage 13 = .ok (.iload_n 3, 1) := by decide +kernel
theorem dX8_putsPage_14 : decode cX8_putsPage 14 = .ok (.iastore, 1) := by decide +kernel
theorem dX8_putsPage_15 : decode cX8_putsPage 15 = .ok (.return_, 1) := by decide +kernel
theorem dX8_value_0 : decode cX8_value 0 = .ok (.aload_n 0, 1) := by decide +kernel
theorem dX8_value_1 : decode cX8_value 1 = .ok (.iload_n 1, 1) := by decide +kernel
theorem dX8_value_2 : decode cX8_value 2 = .ok (.aload_n 0, 1) := by decide +kernel
theorem dX8_value_3 : decode cX8_value 3 = .ok (.iload_n 1, 1) := by decide +kernel
theorem dX8_value_4 : decode cX8_value 4 = .ok (.iconst 2, 1) := by decide +kernel
theorem dX8_value_5 : decode cX8_value 5 = .ok (.invokevirtual 43, 3) := by decide +kernel
theorem dX8_value_8 : decode cX8_value 8 = .ok (.iconst 1, 1) := by decide +kernel
theorem dX8_value_9 : decode cX8_value 9 = .ok (.if_icmp .ne 7, 3) := by decide +kernel
theorem dX8_value_12 : decode cX8_value 12 = .ok (.iconst 3, 1) := by decide +kernel
theorem dX8_value_13 : decode cX8_value 13 = .ok (.goto 4, 3) := by decide +kernel
theorem dX8_value_16 : decode cX8_value 16 = .ok (.iconst 0, 1) := by decide +kernel
theorem dX8_value_17 : decode cX8_value 17 = .ok (.invokevirtual 43, 3) := by decide +kernel
theorem dX8_value_20 : decode cX8_value 20 = .ok (.ireturn, 1) := by decide +kernel
theorem dX8_mark_0 : decode cX8_mark 0 = .ok (.aload_n 0, 1) := by decide +kernel
theorem dX8_mark_1 : decode cX8_mark 1 = .ok (.iload_n 1, 1) := by decide +kernel
theorem dX8_mark_2 : decode cX8_mark 2 = .ok (.aload_n 0, 1) := by decide +kernel
theorem dX8_mark_3 : decode cX8_mark 3 = .ok (.iload_n 1, 1) := by decide +kernel
theorem dX8_mark_4 : decode cX8_mark 4 = .ok (.iconst 2, 1) := by decide +kernel
theorem dX8_mark_5 : decode cX8_mark 5 = .ok (.invokevirtual 43, 3) := by decide +kernel
theorem dX8_mark_8 : decode cX8_mark 8 = .ok (.iconst 1, 1) := by decide +kernel
theorem dX8_mark_9 : decode cX8_mark 9 = .ok (.if_icmp .ne 7, 3) := by decide +kernel
theorem dX8_mark_12 : decode cX8_mark 12 = .ok (.iconst 4, 1) := by decide +kernel
theorem dX8_mark_13 : decode cX8_mark 13 = .ok (.goto 4, 3) := by decide +kernel
theorem dX8_mark_16 : decode cX8_mark 16 = .ok (.iconst 1, 1) := by decide +kernel
theorem dX8_mark_17 : decode cX8_mark 17 = .ok (.invokevirtual 43, 3) := by decide +kernel
theorem dX8_mark_20 : decode cX8_mark 20 = .ok (.ireturn, 1) := by decide +kernel
theorem dX8_isDirty_0 : decode cX8_isDirty 0 = .ok (.aload_n 0, 1) := by decide +kernel
theorem dX8_isDirty_1 : decode cX8_isDirty 1 = .ok (.iload_n 1, 1) := by decide +kernel
theorem dX8_isDirty_2 : decode cX8_isDirty 2 = .ok (.invokevirtual 46, 3) := by decide +kernel
theorem dX8_isDirty_5 : decode cX8_isDirty 5 = .ok (.aload_n 0, 1) := by decide +kernel
theorem dX8_isDirty_6 : decode cX8_isDirty 6 = .ok (.iload_n 1, 1) := by decide +kernel
theorem dX8_isDirty_7 : decode cX8_isDirty 7 = .ok (.iconst 1, 1) := by decide +kernel
theorem dX8_isDirty_8 : decode cX8_isDirty 8 = .ok (.invokevirtual 43, 3) := by decide +kernel
theorem dX8_isDirty_11 : decode cX8_isDirty 11 = .ok (.if_icmp .eq 7, 3) := by decide +kernel
theorem dX8_isDirty_14 : decode cX8_isDirty 14 = .ok (.iconst 1, 1) := by decide +kernel
theorem dX8_isDirty_15 : decode cX8_isDirty 15 = .ok (.goto 4, 3) := by decide +kernel
theorem dX8_isDirty_18 : decode cX8_isDirty 18 = .ok (.iconst 0, 1) := by decide +kernel
theorem dX8_isDirty_19 : decode cX8_isDirty 19 = .ok (.ireturn, 1) := by decide +kernel
theorem dX8_last_0 : decode cX8_last 0 = .ok (.aload_n 0, 1) := by decide +kernel
theorem dX8_last_1 : decode cX8_last 1 = .ok (.getfield 7, 3) := by decide +kernel
theorem dX8_last_4 : decode cX8_last 4 = .ok (.iconst 0, 1) := by decide +kernel
theorem dX8_last_5 : decode cX8_last 5 = .ok (.iaload, 1) := by decide +kernel
theorem dX8_last_6 : decode cX8_last 6 = .ok (.aload_n 0, 1) := by decide +kernel
theorem dX8_last_7 : decode cX8_last 7 = .ok (.getfield 7, 3) := by decide +kernel
theorem dX8_last_10 : decode cX8_last 10 = .ok (.iconst 1, 1) := by decide +kernel
theorem dX8_last_11 : decode cX8_last 11 = .ok (.iaload, 1) := by decide +kernel
theorem dX8_last_12 : decode cX8_last 12 = .ok (.iadd, 1) := by decide +kernel
theorem dX8_last_13 : decode cX8_last 13 = .ok (.iconst 1, 1) := by decide +kernel
theorem dX8_last_14 : decode cX8_last 14 = .ok (.isub, 1) := by decide +kernel
theorem dX8_last_15 : decode cX8_last 15 = .ok (.ireturn, 1) := by decide +kernel
theorem dX8_isRecord_0 : decode cX8_isRecord 0 = .ok (.iload_n 1, 1) := by decide +kernel
theorem dX8_isRecord_1 : decode cX8_isRecord 1 = .ok (.aload_n 0, 1) := by decide +kernel
theorem dX8_isRecord_2 : decode cX8_isRecord 2 = .ok (.getfield 7, 3) := by decide +kernel
theorem dX8_isRecord_5 : decode cX8_isRecord 5 = .ok (.iconst 0, 1) := by decide +kernel
theorem dX8_isRecord_6 : decode cX8_isRecord 6 = .ok (.iaload, 1) := by decide +kernel
theorem dX8_isRecord_7 : decode cX8_isRecord 7 = .ok (.if_icmp .lt 15, 3) := by decide +kernel
theorem dX8_isRecord_10 : decode cX8_isRecord 10 = .ok (.iload_n 1, 1) := by decide +kernel
theorem dX8_isRecord_11 : decode cX8_isRecord 11 = .ok (.aload_n 0, 1) := by decide +kernel
theorem dX8_isRecord_12 : decode cX8_isRecord 12 = .ok (.invokevirtual 50, 3) := by decide +kernel
theorem dX8_isRecord_15 : decode cX8_isRecord 15 = .ok (.if_icmp .gt 7, 3) := by decide +kernel
theorem dX8_isRecord_18 : decode cX8_isRecord 18 = .ok (.iconst 1, 1) := by decide +kernel
theorem dX8_isRecord_19 : decode cX8_isRecord 19 = .ok (.goto 4, 3) := by decide +kernel
theorem dX8_isRecord_22 : decode cX8_isRecord 22 = .ok (.iconst 0, 1) := by decide +kernel
theorem dX8_isRecord_23 : decode cX8_isRecord 23 = .ok (.ireturn, 1) := by decide +kernel
theorem dX8_of_0 : decode cX8_of 0 = .ok (.aload_n 0, 1) := by decide +kernel
theorem dX8_of_1 : decode cX8_of 1 = .ok (.getfield 7, 3) := by decide +kernel
theorem dX8_of_4 : decode cX8_of 4 = .ok (.bipush 69, 2) := by decide +kernel
theorem dX8_of_6 : decode cX8_of 6 = .ok (.bipush 16, 2) := by decide +kernel
theorem dX8_of_8 : decode cX8_of 8 = .ok (.iload_n 1, 1) := by decide +kernel
theorem dX8_of_9 : decode cX8_of 9 = .ok (.aload_n 0, 1) := by decide +kernel
theorem dX8_of_10 : decode cX8_of 10 = .ok (.getfield 7, 3) := by decide +kernel
theorem dX8_of_13 : decode cX8_of 13 = .ok (.iconst 0, 1) := by decide +kernel
theorem dX8_of_14 : decode cX8_of 14 = .ok (.iaload, 1) := by decide +kernel
theorem dX8_of_15 : decode cX8_of 15 = .ok (.isub, 1) := by decide +kernel
theorem dX8_of_16 : decode cX8_of 16 = .ok (.imul, 1) := by decide +kernel
theorem dX8_of_17 : decode cX8_of 17 = .ok (.iadd, 1) := by decide +kernel
theorem dX8_of_18 : decode cX8_of 18 = .ok (.iload_n 2, 1) := by decide +kernel
theorem dX8_of_19 : decode cX8_of 19 = .ok (.iadd, 1) := by decide +kernel
theorem dX8_of_20 : decode cX8_of 20 = .ok (.iaload, 1) := by decide +kernel
theorem dX8_of_21 : decode cX8_of 21 = .ok (.ireturn, 1) := by decide +kernel
theorem dX8_adds_0 : decode cX8_adds 0 = .ok (.bipush 69, 2) := by decide +kernel
theorem dX8_adds_2 : decode cX8_adds 2 = .ok (.bipush 16, 2) := by decide +kernel
theorem dX8_adds_4 : decode cX8_adds 4 = .ok (.aload_n 0, 1) := by decide +kernel
theorem dX8_adds_5 : decode cX8_adds 5 = .ok (.getfield 7, 3) := by decide +kernel
theorem dX8_adds_8 : decode cX8_adds 8 = .ok (.iconst 1, 1) := by decide +kernel
theorem dX8_adds_9 : decode cX8_adds 9 = .ok (.iaload, 1) := by decide +kernel
theorem dX8_adds_10 : decode cX8_adds 10 = .ok (.imul, 1) := by decide +kernel
theorem dX8_adds_11 : decode cX8_adds 11 = .ok (.iadd, 1) := by decide +kernel
theorem dX8_adds_12 : decode cX8_adds 12 = .ok (.istore 7, 2) := by decide +kernel
theorem dX8_adds_14 : decode cX8_adds 14 = .ok (.iconst 0, 1) := by decide +kernel
theorem dX8_adds_15 : decode cX8_adds 15 = .ok (.istore 8, 2) := by decide +kernel
theorem dX8_adds_17 : decode cX8_adds 17 = .ok (.iload 8, 2) := by decide +kernel
theorem dX8_adds_19 : decode cX8_adds 19 = .ok (.bipush 16, 2) := by decide +kernel
theorem dX8_adds_21 : decode cX8_adds 21 = .ok (.if_icmp .ge 20, 3) := by decide +kernel
theorem dX8_adds_24 : decode cX8_adds 24 = .ok (.aload_n 0, 1) := by decide +kernel
theorem dX8_adds_25 : decode cX8_adds 25 = .ok (.getfield 7, 3) := by decide +kernel
theorem dX8_adds_28 : decode cX8_adds 28 = .ok (.iload 7, 2) := by decide +kernel
theorem dX8_adds_30 : decode cX8_adds 30 = .ok (.iload 8, 2) := by decide +kernel
theorem dX8_adds_32 : decode cX8_adds 32 = .ok (.iadd, 1) := by decide +kernel
theorem dX8_adds_33 : decode cX8_adds 33 = .ok (.iconst 0, 1) := by decide +kernel
theorem dX8_adds_34 : decode cX8_adds 34 = .ok (.iastore, 1) := by decide +kernel
theorem dX8_adds_35 : decode cX8_adds 35 = .ok (.iinc 8 1, 3) := by decide +kernel
theorem dX8_adds_38 : decode cX8_adds 38 = .ok (.goto (-21), 3) := by decide +kernel
theorem dX8_adds_41 : decode cX8_adds 41 = .ok (.aload_n 0, 1) := by decide +kernel
theorem dX8_adds_42 : decode cX8_adds 42 = .ok (.getfield 7, 3) := by decide +kernel
theorem dX8_adds_45 : decode cX8_adds 45 = .ok (.iload 7, 2) := by decide +kernel
theorem dX8_adds_47 : decode cX8_adds 47 = .ok (.iconst 0, 1) := by decide +kernel
theorem dX8_adds_48 : decode cX8_adds 48 = .ok (.iadd, 1) := by decide +kernel
theorem dX8_adds_49 : decode cX8_adds 49 = .ok (.iload_n 1, 1) := by decide +kernel
theorem dX8_adds_50 : decode cX8_adds 50 = .ok (.iastore, 1) := by decide +kernel
theorem dX8_adds_51 : decode cX8_adds 51 = .ok (.aload_n 0, 1) := by decide +kernel
theorem dX8_adds_52 : decode cX8_adds 52 = .ok (.getfield 7, 3) := by decide +kernel
theorem dX8_adds_55 : decode cX8_adds 55 = .ok (.iload 7, 2) := by decide +kernel
theorem dX8_adds_57 : decode cX8_adds 57 = .ok (.iconst 1, 1) := by decide +kernel
theorem dX8_adds_58 : decode cX8_adds 58 = .ok (.iadd, 1) := by decide +kernel
theorem dX8_adds_59 : decode cX8_adds 59 = .ok (.iload_n 2, 1) := by decide +kernel
theorem dX8_adds_60 : decode cX8_adds 60 = .ok (.iastore, 1) := by decide +kernel
theorem dX8_adds_61 : decode cX8_adds 61 = .ok (.aload_n 0, 1) := by decide +kernel
theorem dX8_adds_62 : decode cX8_adds 62 = .ok (.getfield 7, 3) := by decide +kernel
theorem dX8_adds_65 : decode cX8_adds 65 = .ok (.iload 7, 2) := by decide +kernel
theorem dX8_adds_67 : decode cX8_adds 67 = .ok (.iconst 2, 1) := by decide +kernel
theorem dX8_adds_68 : decode cX8_adds 68 = .ok (.iadd, 1) := by decide +kernel
theorem dX8_adds_69 : decode cX8_adds 69 = .ok (.iload_n 3, 1) := by decide +kernel
theorem dX8_adds_70 : decode cX8_adds 70 = .ok (.iastore, 1) := by decide +kernel
theorem dX8_adds_71 : decode cX8_adds 71 = .ok (.aload_n 0, 1) := by decide +kernel
theorem dX8_adds_72 : decode cX8_adds 72 = .ok (.getfield 7, 3) := by decide +kernel
theorem dX8_adds_75 : decode cX8_adds 75 = .ok (.iload 7, 2) := by decide +kernel
theorem dX8_adds_77 : decode cX8_adds 77 = .ok (.iconst 3, 1) := by decide +kernel
theorem dX8_adds_78 : decode cX8_adds 78 = .ok (.iadd, 1) := by decide +kernel
theorem dX8_adds_79 : decode cX8_adds 79 = .ok (.iload 4, 2) := by decide +kernel
theorem dX8_adds_81 : decode cX8_adds 81 = .ok (.iastore, 1) := by decide +kernel
theorem dX8_adds_82 : decode cX8_adds 82 = .ok (.aload_n 0, 1) := by decide +kernel
theorem dX8_adds_83 : decode cX8_adds 83 = .ok (.getfield 7, 3) := by decide +kernel
theorem dX8_adds_86 : decode cX8_adds 86 = .ok (.iload 7, 2) := by decide +kernel
theorem dX8_adds_88 : decode cX8_adds 88 = .ok (.iconst 4, 1) := by decide +kernel
theorem dX8_adds_89 : decode cX8_adds 89 = .ok (.iadd, 1) := by decide +kernel
theorem dX8_adds_90 : decode cX8_adds 90 = .ok (.iload 5, 2) := by decide +kernel
theorem dX8_adds_92 : decode cX8_adds 92 = .ok (.iastore, 1) := by decide +kernel
theorem dX8_adds_93 : decode cX8_adds 93 = .ok (.aload_n 0, 1) := by decide +kernel
theorem dX8_adds_94 : decode cX8_adds 94 = .ok (.getfield 7, 3) := by decide +kernel
theorem dX8_adds_97 : decode cX8_adds 97 = .ok (.iload 7, 2) := by decide +kernel
theorem dX8_adds_99 : decode cX8_adds 99 = .ok (.iconst 5, 1) := by decide +kernel
theorem dX8_adds_100 : decode cX8_adds 100 = .ok (.iadd, 1) := by decide +kernel
theorem dX8_adds_101 : decode cX8_adds 101 = .ok (.iload 6, 2) := by decide +kernel
theorem dX8_adds_103 : decode cX8_adds 103 = .ok (.iastore, 1) := by decide +kernel
theorem dX8_adds_104 : decode cX8_adds 104 = .ok (.aload_n 0, 1) := by decide +kernel
theorem dX8_adds_105 : decode cX8_adds 105 = .ok (.getfield 7, 3) := by decide +kernel
theorem dX8_adds_108 : decode cX8_adds 108 = .ok (.iconst 1, 1) := by decide +kernel
theorem dX8_adds_109 : decode cX8_adds 109 = .ok (.dup2, 1) := by decide +kernel
theorem dX8_adds_110 : decode cX8_adds 110 = .ok (.iaload, 1) := by decide +kernel
theorem dX8_adds_111 : decode cX8_adds 111 = .ok (.iconst 1, 1) := by decide +kernel
theorem dX8_adds_112 : decode cX8_adds 112 = .ok (.iadd, 1) := by decide +kernel
theorem dX8_adds_113 : decode cX8_adds 113 = .ok (.iastore, 1) := by decide +kernel
theorem dX8_adds_114 : decode cX8_adds 114 = .ok (.aload_n 0, 1) := by decide +kernel
theorem dX8_adds_115 : decode cX8_adds 115 = .ok (.invokevirtual 50, 3) := by decide +kernel
theorem dX8_adds_118 : decode cX8_adds 118 = .ok (.ireturn, 1) := by decide +kernel
theorem dX8_forces_0 : decode cX8_forces 0 = .ok (.iload_n 1, 1) := by decide +kernel
theorem dX8_forces_1 : decode cX8_forces 1 = .ok (.aload_n 0, 1) := by decide +kernel
theorem dX8_forces_2 : decode cX8_forces 2 = .ok (.getfield 7, 3) := by decide +kernel
theorem dX8_forces_5 : decode cX8_forces 5 = .ok (.iconst 2, 1) := by decide +kernel
theorem dX8_forces_6 : decode cX8_forces 6 = .ok (.iaload, 1) := by decide +kernel
theorem dX8_forces_7 : decode cX8_forces 7 = .ok (.if_icmp .le 14, 3) := by decide +kernel
theorem dX8_forces_10 : decode cX8_forces 10 = .ok (.iload_n 1, 1) := by decide +kernel
theorem dX8_forces_11 : decode cX8_forces 11 = .ok (.aload_n 0, 1) := by decide +kernel
theorem dX8_forces_12 : decode cX8_forces 12 = .ok (.getfield 7, 3) := by decide +kernel
theorem dX8_forces_15 : decode cX8_forces 15 = .ok (.iconst 2, 1) := by decide +kernel
theorem dX8_forces_16 : decode cX8_forces 16 = .ok (.iaload, 1) := by decide +kernel
theorem dX8_forces_17 : decode cX8_forces 17 = .ok (.isub, 1) := by decide +kernel
theorem dX8_forces_18 : decode cX8_forces 18 = .ok (.goto 4, 3) := by decide +kernel
theorem dX8_forces_21 : decode cX8_forces 21 = .ok (.iconst 0, 1) := by decide +kernel
theorem dX8_forces_22 : decode cX8_forces 22 = .ok (.istore_n 2, 1) := by decide +kernel
theorem dX8_forces_23 : decode cX8_forces 23 = .ok (.aload_n 0, 1) := by decide +kernel
theorem dX8_forces_24 : decode cX8_forces 24 = .ok (.getfield 7, 3) := by decide +kernel
theorem dX8_forces_27 : decode cX8_forces 27 = .ok (.iconst 2, 1) := by decide +kernel
theorem dX8_forces_28 : decode cX8_forces 28 = .ok (.dup2, 1) := by decide +kernel
theorem dX8_forces_29 : decode cX8_forces 29 = .ok (.iaload, 1) := by decide +kernel
theorem dX8_forces_30 : decode cX8_forces 30 = .ok (.iload_n 2, 1) := by decide +kernel
theorem dX8_forces_31 : decode cX8_forces 31 = .ok (.iadd, 1) := by decide +kernel
theorem dX8_forces_32 : decode cX8_forces 32 = .ok (.iastore, 1) := by decide +kernel
theorem dX8_forces_33 : decode cX8_forces 33 = .ok (.iload_n 2, 1) := by decide +kernel
theorem dX8_forces_34 : decode cX8_forces 34 = .ok (.ireturn, 1) := by decide +kernel
theorem dX8_comes_0 : decode cX8_comes 0 = .ok (.aload_n 0, 1) := by decide +kernel
theorem dX8_comes_1 : decode cX8_comes 1 = .ok (.iload_n 1, 1) := by decide +kernel
theorem dX8_comes_2 : decode cX8_comes 2 = .ok (.iconst 5, 1) := by decide +kernel
theorem dX8_comes_3 : decode cX8_comes 3 = .ok (.aload_n 0, 1) := by decide +kernel
theorem dX8_comes_4 : decode cX8_comes 4 = .ok (.iload_n 1, 1) := by decide +kernel
theorem dX8_comes_5 : decode cX8_comes 5 = .ok (.invokevirtual 54, 3) := by decide +kernel
theorem dX8_comes_8 : decode cX8_comes 8 = .ok (.ifCond .eq 12, 3) := by decide +kernel
theorem dX8_comes_11 : decode cX8_comes 11 = .ok (.aload_n 0, 1) := by decide +kernel
theorem dX8_comes_12 : decode cX8_comes 12 = .ok (.iload_n 1, 1) := by decide +kernel
theorem dX8_comes_13 : decode cX8_comes 13 = .ok (.iconst 5, 1) := by decide +kernel
theorem dX8_comes_14 : decode cX8_comes 14 = .ok (.invokevirtual 43, 3) := by decide +kernel
theorem dX8_comes_17 : decode cX8_comes 17 = .ok (.goto 4, 3) := by decide +kernel
theorem dX8_comes_20 : decode cX8_comes 20 = .ok (.iload_n 3, 1) := by decide +kernel
theorem dX8_comes_21 : decode cX8_comes 21 = .ok (.invokevirtual 58, 3) := by decide +kernel
theorem dX8_comes_24 : decode cX8_comes 24 = .ok (.aload_n 0, 1) := by decide +kernel
theorem dX8_comes_25 : decode cX8_comes 25 = .ok (.iload_n 1, 1) := by decide +kernel
theorem dX8_comes_26 : decode cX8_comes 26 = .ok (.iconst 2, 1) := by decide +kernel
theorem dX8_comes_27 : decode cX8_comes 27 = .ok (.iconst 1, 1) := by decide +kernel
theorem dX8_comes_28 : decode cX8_comes 28 = .ok (.invokevirtual 58, 3) := by decide +kernel
theorem dX8_comes_31 : decode cX8_comes 31 = .ok (.aload_n 0, 1) := by decide +kernel
theorem dX8_comes_32 : decode cX8_comes 32 = .ok (.iload_n 1, 1) := by decide +kernel
theorem dX8_comes_33 : decode cX8_comes 33 = .ok (.iconst 3, 1) := by decide +kernel
theorem dX8_comes_34 : decode cX8_comes 34 = .ok (.iload_n 2, 1) := by decide +kernel
theorem dX8_comes_35 : decode cX8_comes 35 = .ok (.invokevirtual 58, 3) := by decide +kernel
theorem dX8_comes_38 : decode cX8_comes 38 = .ok (.aload_n 0, 1) := by decide +kernel
theorem dX8_comes_39 : decode cX8_comes 39 = .ok (.iload_n 1, 1) := by decide +kernel
theorem dX8_comes_40 : decode cX8_comes 40 = .ok (.iconst 4, 1) := by decide +kernel
theorem dX8_comes_41 : decode cX8_comes 41 = .ok (.iload_n 3, 1) := by decide +kernel
theorem dX8_comes_42 : decode cX8_comes 42 = .ok (.invokevirtual 58, 3) := by decide +kernel
theorem dX8_comes_45 : decode cX8_comes 45 = .ok (.return_, 1) := by decide +kernel
theorem dX8_holder_0 : decode cX8_holder 0 = .ok (.ldc 62, 2) := by decide +kernel
theorem dX8_holder_2 : decode cX8_holder 2 = .ok (.istore_n 2, 1) := by decide +kernel
theorem dX8_holder_3 : decode cX8_holder 3 = .ok (.iconst 0, 1) := by decide +kernel
theorem dX8_holder_4 : decode cX8_holder 4 = .ok (.istore_n 3, 1) := by decide +kernel
theorem dX8_holder_5 : decode cX8_holder 5 = .ok (.iload_n 3, 1) := by decide +kernel
theorem dX8_holder_6 : decode cX8_holder 6 = .ok (.iconst 4, 1) := by decide +kernel
theorem dX8_holder_7 : decode cX8_holder 7 = .ok (.if_icmp .ge 37, 3) := by decide +kernel
theorem dX8_holder_10 : decode cX8_holder 10 = .ok (.aload_n 0, 1) := by decide +kernel
theorem dX8_holder_11 : decode cX8_holder 11 = .ok (.iload_n 3, 1) := by decide +kernel
theorem dX8_holder_12 : decode cX8_holder 12 = .ok (.invokevirtual 63, 3) := by decide +kernel
theorem dX8_holder_15 : decode cX8_holder 15 = .ok (.ifCond .eq 21, 3) := by decide +kernel
theorem dX8_holder_18 : decode cX8_holder 18 = .ok (.aload_n 0, 1) := by decide +kernel
theorem dX8_holder_19 : decode cX8_holder 19 = .ok (.iload_n 3, 1) := by decide +kernel
theorem dX8_holder_20 : decode cX8_holder 20 = .ok (.iconst 3, 1) := by decide +kernel
theorem dX8_holder_21 : decode cX8_holder 21 = .ok (.invokevirtual 39, 3) := by decide +kernel
theorem dX8_holder_24 : decode cX8_holder 24 = .ok (.iload_n 1, 1) := by decide +kernel
theorem dX8_holder_25 : decode cX8_holder 25 = .ok (.ishr, 1) := by decide +kernel
theorem dX8_holder_26 : decode cX8_holder 26 = .ok (.iconst 1, 1) := by decide +kernel
theorem dX8_holder_27 : decode cX8_holder 27 = .ok (.iand, 1) := by decide +kernel
theorem dX8_holder_28 : decode cX8_holder 28 = .ok (.iconst 1, 1) := by decide +kernel
theorem dX8_holder_29 : decode cX8_holder 29 = .ok (.if_icmp .ne 7, 3) := by decide +kernel
theorem dX8_holder_32 : decode cX8_holder 32 = .ok (.iload_n 3, 1) := by decide +kernel
theorem dX8_holder_33 : decode cX8_holder 33 = .ok (.goto 4, 3) := by decide +kernel
theorem dX8_holder_36 : decode cX8_holder 36 = .ok (.iload_n 2, 1) := by decide +kernel
theorem dX8_holder_37 : decode cX8_holder 37 = .ok (.istore_n 2, 1) := by decide +kernel
theorem dX8_holder_38 : decode cX8_holder 38 = .ok (.iinc 3 1, 3) := by decide +kernel
theorem dX8_holder_41 : decode cX8_holder 41 = .ok (.goto (-36), 3) := by decide +kernel
theorem dX8_holder_44 : decode cX8_holder 44 = .ok (.iload_n 2, 1) := by decide +kernel
theorem dX8_holder_45 : decode cX8_holder 45 = .ok (.ireturn, 1) := by decide +kernel
theorem dX8_begin_0 : decode cX8_begin 0 = .ok (.iload_n 1, 1) := by decide +kernel
theorem dX8_begin_1 : decode cX8_begin 1 = .ok (.iconst 0, 1) := by decide +kernel
theorem dX8_begin_2 : decode cX8_begin 2 = .ok (.iconst 3, 1) := by decide +kernel
theorem dX8_begin_3 : decode cX8_begin 3 = .ok (.invokestatic 66, 3) := by decide +kernel
theorem dX8_begin_6 : decode cX8_begin 6 = .ok (.ifCond .ne 6, 3) := by decide +kernel
theorem dX8_begin_9 : decode cX8_begin 9 = .ok (.ldc 70, 2) := by decide +kernel
theorem dX8_begin_11 : decode cX8_begin 11 = .ok (.ireturn, 1) := by decide +kernel
theorem dX8_begin_12 : decode cX8_begin 12 = .ok (.aload_n 0, 1) := by decide +kernel
theorem dX8_begin_13 : decode cX8_begin 13 = .ok (.invokevirtual 71, 3) := by decide +kernel
theorem dX8_begin_16 : decode cX8_begin 16 = .ok (.ifCond .ne 11, 3) := by decide +kernel
theorem dX8_begin_19 : decode cX8_begin 19 = .ok (.aload_n 0, 1) := by decide +kernel
theorem dX8_begin_20 : decode cX8_begin 20 = .ok (.iload_n 1, 1) := by decide +kernel
theorem dX8_begin_21 : decode cX8_begin 21 = .ok (.invokevirtual 63, 3) := by decide +kernel
theorem dX8_begin_24 : decode cX8_begin 24 = .ok (.ifCond .eq 6, 3) := by decide +kernel
theorem dX8_begin_27 : decode cX8_begin 27 = .ok (.ldc 75, 2) := by decide +kernel
theorem dX8_begin_29 : decode cX8_begin 29 = .ok (.ireturn, 1) := by decide +kernel
theorem dX8_begin_30 : decode cX8_begin 30 = .ok (.aload_n 0, 1) := by decide +kernel
theorem dX8_begin_31 : decode cX8_begin 31 = .ok (.getfield 7, 3) := by decide +kernel
theorem dX8_begin_34 : decode cX8_begin 34 = .ok (.iconst 1, 1) := by decide +kernel
theorem dX8_begin_35 : decode cX8_begin 35 = .ok (.iaload, 1) := by decide +kernel
theorem dX8_begin_36 : decode cX8_begin 36 = .ok (.bipush 60, 2) := by decide +kernel
theorem dX8_begin_38 : decode cX8_begin 38 = .ok (.if_icmp .lt 6, 3) := by decide +kernel
theorem dX8_begin_41 : decode cX8_begin 41 = .ok (.ldc 76, 2) := by decide +kernel
theorem dX8_begin_43 : decode cX8_begin 43 = .ok (.ireturn, 1) := by decide +kernel
theorem dX8_begin_44 : decode cX8_begin 44 = .ok (.aload_n 0, 1) := by decide +kernel
theorem dX8_begin_45 : decode cX8_begin 45 = .ok (.invokevirtual 77, 3) := by decide +kernel
theorem dX8_begin_48 : decode cX8_begin 48 = .ok (.aload_n 0, 1) := by decide +kernel
theorem dX8_begin_49 : decode cX8_begin 49 = .ok (.iconst 0, 1) := by decide +kernel
theorem dX8_begin_50 : decode cX8_begin 50 = .ok (.iload_n 1, 1) := by decide +kernel
theorem dX8_begin_51 : decode cX8_begin 51 = .ok (.ldc 62, 2) := by decide +kernel
theorem dX8_begin_53 : decode cX8_begin 53 = .ok (.ldc 62, 2) := by decide +kernel
theorem dX8_begin_55 : decode cX8_begin 55 = .ok (.ldc 62, 2) := by decide +kernel
theorem dX8_begin_57 : decode cX8_begin 57 = .ok (.ldc 62, 2) := by decide +kernel
theorem dX8_begin_59 : decode cX8_begin 59 = .ok (.invokevirtual 80, 3) := by decide +kernel
theorem dX8_begin_62 : decode cX8_begin 62 = .ok (.istore_n 2, 1) := by decide +kernel
theorem dX8_begin_63 : decode cX8_begin 63 = .ok (.aload_n 0, 1) := by decide +kernel
theorem dX8_begin_64 : decode cX8_begin 64 = .ok (.iload_n 1, 1) := by decide +kernel
theorem dX8_begin_65 : decode cX8_begin 65 = .ok (.iconst 0, 1) := by decide +kernel
theorem dX8_begin_66 : decode cX8_begin 66 = .ok (.iconst 1, 1) := by decide +kernel
theorem dX8_begin_67 : decode cX8_begin 67 = .ok (.invokevirtual 84, 3) := by decide +kernel
theorem dX8_begin_70 : decode cX8_begin 70 = .ok (.aload_n 0, 1) := by decide +kernel
theorem dX8_begin_71 : decode cX8_begin 71 = .ok (.iload_n 1, 1) := by decide +kernel
theorem dX8_begin_72 : decode cX8_begin 72 = .ok (.iconst 1, 1) := by decide +kernel
theorem dX8_begin_73 : decode cX8_begin 73 = .ok (.iload_n 2, 1) := by decide +kernel
theorem dX8_begin_74 : decode cX8_begin 74 = .ok (.invokevirtual 84, 3) := by decide +kernel
theorem dX8_begin_77 : decode cX8_begin 77 = .ok (.aload_n 0, 1) := by decide +kernel
theorem dX8_begin_78 : decode cX8_begin 78 = .ok (.iload_n 1, 1) := by decide +kernel
theorem dX8_begin_79 : decode cX8_begin 79 = .ok (.iconst 2, 1) := by decide +kernel
theorem dX8_begin_80 : decode cX8_begin 80 = .ok (.iconst 0, 1) := by decide +kernel
theorem dX8_begin_81 : decode cX8_begin 81 = .ok (.invokevirtual 84, 3) := by decide +kernel
theorem dX8_begin_84 : decode cX8_begin 84 = .ok (.aload_n 0, 1) := by decide +kernel
theorem dX8_begin_85 : decode cX8_begin 85 = .ok (.iload_n 1, 1) := by decide +kernel
theorem dX8_begin_86 : decode cX8_begin 86 = .ok (.iconst 3, 1) := by decide +kernel
theorem dX8_begin_87 : decode cX8_begin 87 = .ok (.iconst 0, 1) := by decide +kernel
theorem dX8_begin_88 : decode cX8_begin 88 = .ok (.invokevirtual 84, 3) := by decide +kernel
theorem dX8_begin_91 : decode cX8_begin 91 = .ok (.iload_n 2, 1) := by decide +kernel
theorem dX8_begin_92 : decode cX8_begin 92 = .ok (.ireturn, 1) := by decide +kernel
theorem dX8_write_0 : decode cX8_write 0 = .ok (.iload_n 1, 1) := by decide +kernel
theorem dX8_write_1 : decode cX8_write 1 = .ok (.iconst 0, 1) := by decide +kernel
theorem dX8_write_2 : decode cX8_write 2 = .ok (.iconst 3, 1) := by decide +kernel
theorem dX8_write_3 : decode cX8_write 3 = .ok (.invokestatic 66, 3) := by decide +kernel
theorem dX8_write_6 : decode cX8_write 6 = .ok (.ifCond .eq 23, 3) := by decide +kernel
theorem dX8_write_9 : decode cX8_write 9 = .ok (.iload_n 2, 1) := by decide +kernel
theorem dX8_write_10 : decode cX8_write 10 = .ok (.iconst 0, 1) := by decide +kernel
theorem dX8_write_11 : decode cX8_write 11 = .ok (.bipush 7, 2) := by decide +kernel
theorem dX8_write_13 : decode cX8_write 13 = .ok (.invokestatic 66, 3) := by decide +kernel
theorem dX8_write_16 : decode cX8_write 16 = .ok (.ifCond .eq 13, 3) := by decide +kernel
theorem dX8_write_19 : decode cX8_write 19 = .ok (.iload_n 3, 1) := by decide +kernel
theorem dX8_write_20 : decode cX8_write 20 = .ok (.iconst 0, 1) := by decide +kernel
theorem dX8_write_21 : decode cX8_write 21 = .ok (.bipush 99, 2) := by decide +kernel
theorem dX8_write_23 : decode cX8_write 23 = .ok (.invokestatic 66, 3) := by decide +kernel
theorem dX8_write_26 : decode cX8_write 26 = .ok (.ifCond .ne 6, 3) := by decide +kernel
theorem dX8_write_29 : decode cX8_write 29 = .ok (.ldc 70, 2) := by decide +kernel
theorem dX8_write_31 : decode cX8_write 31 = .ok (.ireturn, 1) := by decide +kernel
theorem dX8_write_32 : decode cX8_write 32 = .ok (.aload_n 0, 1) := by decide +kernel
theorem dX8_write_33 : decode cX8_write 33 = .ok (.iload_n 2, 1) := by decide +kernel
theorem dX8_write_34 : decode cX8_write 34 = .ok (.invokevirtual 87, 3) := by decide +kernel
theorem dX8_write_37 : decode cX8_write 37 = .ok (.istore 4, 2) := by decide +kernel
theorem dX8_write_39 : decode cX8_write 39 = .ok (.aload_n 0, 1) := by decide +kernel
theorem dX8_write_40 : decode cX8_write 40 = .ok (.invokevirtual 71, 3) := by decide +kernel
theorem dX8_write_43 : decode cX8_write 43 = .ok (.ifCond .ne 22, 3) := by decide +kernel
theorem dX8_write_46 : decode cX8_write 46 = .ok (.aload_n 0, 1) := by decide +kernel
theorem dX8_write_47 : decode cX8_write 47 = .ok (.iload_n 1, 1) := by decide +kernel
theorem dX8_write_48 : decode cX8_write 48 = .ok (.invokevirtual 63, 3) := by decide +kernel
theorem dX8_write_51 : decode cX8_write 51 = .ok (.ifCond .eq 14, 3) := by decide +kernel
theorem dX8_write_54 : decode cX8_write 54 = .ok (.iload 4, 2) := by decide +kernel
theorem dX8_write_56 : decode cX8_write 56 = .ok (.ifCond .lt 12, 3) := by decide +kernel
theorem dX8_write_59 : decode cX8_write 59 = .ok (.iload 4, 2) := by decide +kernel
theorem dX8_write_61 : decode cX8_write 61 = .ok (.iload_n 1, 1) := by decide +kernel
theorem dX8_write_62 : decode cX8_write 62 = .ok (.if_icmp .eq 6, 3) := by decide +kernel
theorem dX8_write_65 : decode cX8_write 65 = .ok (.ldc 75, 2) := by decide +kernel
theorem dX8_write_67 : decode cX8_write 67 = .ok (.ireturn, 1) := by decide +kernel
theorem dX8_write_68 : decode cX8_write 68 = .ok (.aload_n 0, 1) := by decide +kernel
theorem dX8_write_69 : decode cX8_write 69 = .ok (.getfield 7, 3) := by decide +kernel
theorem dX8_write_72 : decode cX8_write 72 = .ok (.iconst 1, 1) := by decide +kernel
theorem dX8_write_73 : decode cX8_write 73 = .ok (.iaload, 1) := by decide +kernel
theorem dX8_write_74 : decode cX8_write 74 = .ok (.bipush 60, 2) := by decide +kernel
theorem dX8_write_76 : decode cX8_write 76 = .ok (.if_icmp .lt 6, 3) := by decide +kernel
theorem dX8_write_79 : decode cX8_write 79 = .ok (.ldc 76, 2) := by decide +kernel
theorem dX8_write_81 : decode cX8_write 81 = .ok (.ireturn, 1) := by decide +kernel
theorem dX8_write_82 : decode cX8_write 82 = .ok (.aload_n 0, 1) := by decide +kernel
theorem dX8_write_83 : decode cX8_write 83 = .ok (.invokevirtual 77, 3) := by decide +kernel
theorem dX8_write_86 : decode cX8_write 86 = .ok (.aload_n 0, 1) := by decide +kernel
theorem dX8_write_87 : decode cX8_write 87 = .ok (.iload_n 2, 1) := by decide +kernel
theorem dX8_write_88 : decode cX8_write 88 = .ok (.invokevirtual 90, 3) := by decide +kernel
theorem dX8_write_91 : decode cX8_write 91 = .ok (.istore 5, 2) := by decide +kernel
theorem dX8_write_93 : decode cX8_write 93 = .ok (.aload_n 0, 1) := by decide +kernel
theorem dX8_write_94 : decode cX8_write 94 = .ok (.iconst 1, 1) := by decide +kernel
theorem dX8_write_95 : decode cX8_write 95 = .ok (.iload_n 1, 1) := by decide +kernel
theorem dX8_write_96 : decode cX8_write 96 = .ok (.iload_n 2, 1) := by decide +kernel
theorem dX8_write_97 : decode cX8_write 97 = .ok (.iload 5, 2) := by decide +kernel
theorem dX8_write_99 : decode cX8_write 99 = .ok (.iload_n 3, 1) := by decide +kernel
theorem dX8_write_100 : decode cX8_write 100 = .ok (.ldc 62, 2) := by decide +kernel
theorem dX8_write_102 : decode cX8_write 102 = .ok (.invokevirtual 80, 3) := by decide +kernel
theorem dX8_write_105 : decode cX8_write 105 = .ok (.istore 6, 2) := by decide +kernel
theorem dX8_write_107 : decode cX8_write 107 = .ok (.aload_n 0, 1) := by decide +kernel
theorem dX8_write_108 : decode cX8_write 108 = .ok (.iload_n 2, 1) := by decide +kernel
theorem dX8_write_109 : decode cX8_write 109 = .ok (.iload_n 3, 1) := by decide +kernel
theorem dX8_write_110 : decode cX8_write 110 = .ok (.iload 6, 2) := by decide +kernel
theorem dX8_write_112 : decode cX8_write 112 = .ok (.invokevirtual 93, 3) := by decide +kernel
theorem dX8_write_115 : decode cX8_write 115 = .ok (.aload_n 0, 1) := by decide +kernel
theorem dX8_write_116 : decode cX8_write 116 = .ok (.iload_n 1, 1) := by decide +kernel
theorem dX8_write_117 : decode cX8_write 117 = .ok (.iconst 2, 1) := by decide +kernel
theorem dX8_write_118 : decode cX8_write 118 = .ok (.aload_n 0, 1) := by decide +kernel
theorem dX8_write_119 : decode cX8_write 119 = .ok (.iload_n 1, 1) := by decide +kernel
theorem dX8_write_120 : decode cX8_write 120 = .ok (.iconst 2, 1) := by decide +kernel
theorem dX8_write_121 : decode cX8_write 121 = .ok (.invokevirtual 39, 3) := by decide +kernel
theorem dX8_write_124 : decode cX8_write 124 = .ok (.iconst 1, 1) := by decide +kernel
theorem dX8_write_125 : decode cX8_write 125 = .ok (.iadd, 1) := by decide +kernel
theorem dX8_write_126 : decode cX8_write 126 = .ok (.invokevirtual 84, 3) := by decide +kernel
theorem dX8_write_129 : decode cX8_write 129 = .ok (.aload_n 0, 1) := by decide +kernel
theorem dX8_write_130 : decode cX8_write 130 = .ok (.iload_n 1, 1) := by decide +kernel
theorem dX8_write_131 : decode cX8_write 131 = .ok (.iconst 3, 1) := by decide +kernel
theorem dX8_write_132 : decode cX8_write 132 = .ok (.aload_n 0, 1) := by decide +kernel
theorem dX8_write_133 : decode cX8_write 133 = .ok (.iload_n 1, 1) := by decide +kernel
theorem dX8_write_134 : decode cX8_write 134 = .ok (.iconst 3, 1) := by decide +kernel
theorem dX8_write_135 : decode cX8_write 135 = .ok (.invokevirtual 39, 3) := by decide +kernel
theorem dX8_write_138 : decode cX8_write 138 = .ok (.iconst 1, 1) := by decide +kernel
theorem dX8_write_139 : decode cX8_write 139 = .ok (.iload_n 2, 1) := by decide +kernel
theorem dX8_write_140 : decode cX8_write 140 = .ok (.ishl, 1) := by decide +kernel
theorem dX8_write_141 : decode cX8_write 141 = .ok (.ior, 1) := by decide +kernel
theorem dX8_write_142 : decode cX8_write 142 = .ok (.invokevirtual 84, 3) := by decide +kernel
theorem dX8_write_145 : decode cX8_write 145 = .ok (.iload 5, 2) := by decide +kernel
theorem dX8_write_147 : decode cX8_write 147 = .ok (.ireturn, 1) := by decide +kernel
theorem dX8_bits_0 : decode cX8_bits 0 = .ok (.iconst 0, 1) := by decide +kernel
theorem dX8_bits_1 : decode cX8_bits 1 = .ok (.istore_n 1, 1) := by decide +kernel
theorem dX8_bits_2 : decode cX8_bits 2 = .ok (.iconst 0, 1) := by decide +kernel
theorem dX8_bits_3 : decode cX8_bits 3 = .ok (.istore_n 2, 1) := by decide +kernel
theorem dX8_bits_4 : decode cX8_bits 4 = .ok (.iload_n 2, 1) := by decide +kernel
theorem dX8_bits_5 : decode cX8_bits 5 = .ok (.bipush 8, 2) := by decide +kernel
theorem dX8_bits_7 : decode cX8_bits 7 = .ok (.if_icmp .ge 17, 3) := by decide +kernel
theorem dX8_bits_10 : decode cX8_bits 10 = .ok (.iload_n 1, 1) := by decide +kernel
theorem dX8_bits_11 : decode cX8_bits 11 = .ok (.iload_n 0, 1) := by decide +kernel
theorem dX8_bits_12 : decode cX8_bits 12 = .ok (.iload_n 2, 1) := by decide +kernel
theorem dX8_bits_13 : decode cX8_bits 13 = .ok (.ishr, 1) := by decide +kernel
theorem dX8_bits_14 : decode cX8_bits 14 = .ok (.iconst 1, 1) := by decide +kernel
theorem dX8_bits_15 : decode cX8_bits 15 = .ok (.iand, 1) := by decide +kernel
theorem dX8_bits_16 : decode cX8_bits 16 = .ok (.iadd, 1) := by decide +kernel
theorem dX8_bits_17 : decode cX8_bits 17 = .ok (.istore_n 1, 1) := by decide +kernel
theorem dX8_bits_18 : decode cX8_bits 18 = .ok (.iinc 2 1, 3) := by decide +kernel
theorem dX8_bits_21 : decode cX8_bits 21 = .ok (.goto (-17), 3) := by decide +kernel
theorem dX8_bits_24 : decode cX8_bits 24 = .ok (.iload_n 1, 1) := by decide +kernel
theorem dX8_bits_25 : decode cX8_bits 25 = .ok (.ireturn, 1) := by decide +kernel
theorem dX8_closes_0 : decode cX8_closes 0 = .ok (.iconst 0, 1) := by decide +kernel
theorem dX8_closes_1 : decode cX8_closes 1 = .ok (.istore_n 2, 1) := by decide +kernel
theorem dX8_closes_2 : decode cX8_closes 2 = .ok (.iload_n 2, 1) := by decide +kernel
theorem dX8_closes_3 : decode cX8_closes 3 = .ok (.iconst 4, 1) := by decide +kernel
theorem dX8_closes_4 : decode cX8_closes 4 = .ok (.if_icmp .ge 16, 3) := by decide +kernel
theorem dX8_closes_7 : decode cX8_closes 7 = .ok (.aload_n 0, 1) := by decide +kernel
theorem dX8_closes_8 : decode cX8_closes 8 = .ok (.iload_n 1, 1) := by decide +kernel
theorem dX8_closes_9 : decode cX8_closes 9 = .ok (.iload_n 2, 1) := by decide +kernel
theorem dX8_closes_10 : decode cX8_closes 10 = .ok (.iconst 0, 1) := by decide +kernel
theorem dX8_closes_11 : decode cX8_closes 11 = .ok (.invokevirtual 84, 3) := by decide +kernel
theorem dX8_closes_14 : decode cX8_closes 14 = .ok (.iinc 2 1, 3) := by decide +kernel
theorem dX8_closes_17 : decode cX8_closes 17 = .ok (.goto (-15), 3) := by decide +kernel
theorem dX8_closes_20 : decode cX8_closes 20 = .ok (.return_, 1) := by decide +kernel
theorem dX8_settle_0 : decode cX8_settle 0 = .ok (.iload_n 1, 1) := by decide +kernel
theorem dX8_settle_1 : decode cX8_settle 1 = .ok (.iconst 0, 1) := by decide +kernel
theorem dX8_settle_2 : decode cX8_settle 2 = .ok (.iconst 3, 1) := by decide +kernel
theorem dX8_settle_3 : decode cX8_settle 3 = .ok (.invokestatic 66, 3) := by decide +kernel
theorem dX8_settle_6 : decode cX8_settle 6 = .ok (.ifCond .ne 6, 3) := by decide +kernel
theorem dX8_settle_9 : decode cX8_settle 9 = .ok (.ldc 70, 2) := by decide +kernel
theorem dX8_settle_11 : decode cX8_settle 11 = .ok (.ireturn, 1) := by decide +kernel
theorem dX8_settle_12 : decode cX8_settle 12 = .ok (.aload_n 0, 1) := by decide +kernel
theorem dX8_settle_13 : decode cX8_settle 13 = .ok (.invokevirtual 71, 3) := by decide +kernel
theorem dX8_settle_16 : decode cX8_settle 16 = .ok (.ifCond .ne 11, 3) := by decide +kernel
theorem dX8_settle_19 : decode cX8_settle 19 = .ok (.aload_n 0, 1) := by decide +kernel
theorem dX8_settle_20 : decode cX8_settle 20 = .ok (.iload_n 1, 1) := by decide +kernel
theorem dX8_settle_21 : decode cX8_settle 21 = .ok (.invokevirtual 63, 3) := by decide +kernel
theorem dX8_settle_24 : decode cX8_settle 24 = .ok (.ifCond .ne 6, 3) := by decide +kernel
theorem dX8_settle_27 : decode cX8_settle 27 = .ok (.ldc 75, 2) := by decide +kernel
theorem dX8_settle_29 : decode cX8_settle 29 = .ok (.ireturn, 1) := by decide +kernel
theorem dX8_settle_30 : decode cX8_settle 30 = .ok (.aload_n 0, 1) := by decide +kernel
theorem dX8_settle_31 : decode cX8_settle 31 = .ok (.getfield 7, 3) := by decide +kernel
theorem dX8_settle_34 : decode cX8_settle 34 = .ok (.iconst 1, 1) := by decide +kernel
theorem dX8_settle_35 : decode cX8_settle 35 = .ok (.iaload, 1) := by decide +kernel
theorem dX8_settle_36 : decode cX8_settle 36 = .ok (.bipush 60, 2) := by decide +kernel
theorem dX8_settle_38 : decode cX8_settle 38 = .ok (.if_icmp .lt 6, 3) := by decide +kernel
theorem dX8_settle_41 : decode cX8_settle 41 = .ok (.ldc 76, 2) := by decide +kernel
theorem dX8_settle_43 : decode cX8_settle 43 = .ok (.ireturn, 1) := by decide +kernel
theorem dX8_settle_44 : decode cX8_settle 44 = .ok (.aload_n 0, 1) := by decide +kernel
theorem dX8_settle_45 : decode cX8_settle 45 = .ok (.invokevirtual 77, 3) := by decide +kernel
theorem dX8_settle_48 : decode cX8_settle 48 = .ok (.aload_n 0, 1) := by decide +kernel
theorem dX8_settle_49 : decode cX8_settle 49 = .ok (.aload_n 0, 1) := by decide +kernel
theorem dX8_settle_50 : decode cX8_settle 50 = .ok (.iconst 2, 1) := by decide +kernel
theorem dX8_settle_51 : decode cX8_settle 51 = .ok (.iload_n 1, 1) := by decide +kernel
theorem dX8_settle_52 : decode cX8_settle 52 = .ok (.ldc 62, 2) := by decide +kernel
theorem dX8_settle_54 : decode cX8_settle 54 = .ok (.ldc 62, 2) := by decide +kernel
theorem dX8_settle_56 : decode cX8_settle 56 = .ok (.ldc 62, 2) := by decide +kernel
theorem dX8_settle_58 : decode cX8_settle 58 = .ok (.ldc 62, 2) := by decide +kernel
theorem dX8_settle_60 : decode cX8_settle 60 = .ok (.invokevirtual 80, 3) := by decide +kernel
theorem dX8_settle_63 : decode cX8_settle 63 = .ok (.invokevirtual 96, 3) := by decide +kernel
theorem dX8_settle_66 : decode cX8_settle 66 = .ok (.pop, 1) := by decide +kernel
theorem dX8_settle_67 : decode cX8_settle 67 = .ok (.aload_n 0, 1) := by decide +kernel
theorem dX8_settle_68 : decode cX8_settle 68 = .ok (.iload_n 1, 1) := by decide +kernel
theorem dX8_settle_69 : decode cX8_settle 69 = .ok (.iconst 3, 1) := by decide +kernel
theorem dX8_settle_70 : decode cX8_settle 70 = .ok (.invokevirtual 39, 3) := by decide +kernel
theorem dX8_settle_73 : decode cX8_settle 73 = .ok (.invokestatic 99, 3) := by decide +kernel
theorem dX8_settle_76 : decode cX8_settle 76 = .ok (.istore_n 2, 1) := by decide +kernel
theorem dX8_settle_77 : decode cX8_settle 77 = .ok (.aload_n 0, 1) := by decide +kernel
theorem dX8_settle_78 : decode cX8_settle 78 = .ok (.iload_n 1, 1) := by decide +kernel
theorem dX8_settle_79 : decode cX8_settle 79 = .ok (.invokevirtual 102, 3) := by decide +kernel
theorem dX8_settle_82 : decode cX8_settle 82 = .ok (.iload_n 2, 1) := by decide +kernel
theorem dX8_settle_83 : decode cX8_settle 83 = .ok (.ireturn, 1) := by decide +kernel
theorem dX8_isTakenBack_0 : decode cX8_isTakenBack 0 = .ok (.iconst 0, 1) := by decide +kernel
theorem dX8_isTakenBack_1 : decode cX8_isTakenBack 1 = .ok (.istore_n 2, 1) := by decide +kernel
theorem dX8_isTakenBack_2 : decode cX8_isTakenBack 2 = .ok (.aload_n 0, 1) := by decide +kernel
theorem dX8_isTakenBack_3 : decode cX8_isTakenBack 3 = .ok (.getfield 7, 3) := by decide +kernel
theorem dX8_isTakenBack_6 : decode cX8_isTakenBack 6 = .ok (.iconst 0, 1) := by decide +kernel
theorem dX8_isTakenBack_7 : decode cX8_isTakenBack 7 = .ok (.iaload, 1) := by decide +kernel
theorem dX8_isTakenBack_8 : decode cX8_isTakenBack 8 = .ok (.istore_n 3, 1) := by decide +kernel
theorem dX8_isTakenBack_9 : decode cX8_isTakenBack 9 = .ok (.iload_n 3, 1) := by decide +kernel
theorem dX8_isTakenBack_10 : decode cX8_isTakenBack 10 = .ok (.aload_n 0, 1) := by decide +kernel
theorem dX8_isTakenBack_11 : decode cX8_isTakenBack 11 = .ok (.invokevirtual 50, 3) := by decide +kernel
theorem dX8_isTakenBack_14 : decode cX8_isTakenBack 14 = .ok (.if_icmp .gt 39, 3) := by decide +kernel
theorem dX8_isTakenBack_17 : decode cX8_isTakenBack 17 = .ok (.iload_n 2, 1) := by decide +kernel
theorem dX8_isTakenBack_18 : decode cX8_isTakenBack 18 = .ok (.ifCond .ne 23, 3) := by decide +kernel
theorem dX8_isTakenBack_21 : decode cX8_isTakenBack 21 = .ok (.aload_n 0, 1) := by decide +kernel
theorem dX8_isTakenBack_22 : decode cX8_isTakenBack 22 = .ok (.iload_n 3, 1) := by decide +kernel
theorem dX8_isTakenBack_23 : decode cX8_isTakenBack 23 = .ok (.iconst 0, 1) := by decide +kernel
theorem dX8_isTakenBack_24 : decode cX8_isTakenBack 24 = .ok (.invokevirtual 106, 3) := by decide +kernel
theorem dX8_isTakenBack_27 : decode cX8_isTakenBack 27 = .ok (.iconst 3, 1) := by decide +kernel
theorem dX8_isTakenBack_28 : decode cX8_isTakenBack 28 = .ok (.if_icmp .ne 17, 3) := by decide +kernel
theorem dX8_isTakenBack_31 : decode cX8_isTakenBack 31 = .ok (.aload_n 0, 1) := by decide +kernel
theorem dX8_isTakenBack_32 : decode cX8_isTakenBack 32 = .ok (.iload_n 3, 1) := by decide +kernel
theorem dX8_isTakenBack_33 : decode cX8_isTakenBack 33 = .ok (.iconst 5, 1) := by decide +kernel
theorem dX8_isTakenBack_34 : decode cX8_isTakenBack 34 = .ok (.invokevirtual 106, 3) := by decide +kernel
theorem dX8_isTakenBack_37 : decode cX8_isTakenBack 37 = .ok (.iload_n 1, 1) := by decide +kernel
theorem dX8_isTakenBack_38 : decode cX8_isTakenBack 38 = .ok (.if_icmp .ne 7, 3) := by decide +kernel
theorem dX8_isTakenBack_41 : decode cX8_isTakenBack 41 = .ok (.iconst 1, 1) := by decide +kernel
theorem dX8_isTakenBack_42 : decode cX8_isTakenBack 42 = .ok (.goto 4, 3) := by decide +kernel
theorem dX8_isTakenBack_45 : decode cX8_isTakenBack 45 = .ok (.iconst 0, 1) := by decide +kernel
theorem dX8_isTakenBack_46 : decode cX8_isTakenBack 46 = .ok (.istore_n 2, 1) := by decide +kernel
theorem dX8_isTakenBack_47 : decode cX8_isTakenBack 47 = .ok (.iinc 3 1, 3) := by decide +kernel
theorem dX8_isTakenBack_50 : decode cX8_isTakenBack 50 = .ok (.goto (-41), 3) := by decide +kernel
theorem dX8_isTakenBack_53 : decode cX8_isTakenBack 53 = .ok (.iload_n 2, 1) := by decide +kernel
theorem dX8_isTakenBack_54 : decode cX8_isTakenBack 54 = .ok (.ireturn, 1) := by decide +kernel
theorem dX8_takes_0 : decode cX8_takes 0 = .ok (.iload_n 1, 1) := by decide +kernel
theorem dX8_takes_1 : decode cX8_takes 1 = .ok (.istore_n 2, 1) := by decide +kernel
theorem dX8_takes_2 : decode cX8_takes 2 = .ok (.iconst 0, 1) := by decide +kernel
theorem dX8_takes_3 : decode cX8_takes 3 = .ok (.istore_n 3, 1) := by decide +kernel
theorem dX8_takes_4 : decode cX8_takes 4 = .ok (.aload_n 0, 1) := by decide +kernel
theorem dX8_takes_5 : decode cX8_takes 5 = .ok (.invokevirtual 50, 3) := by decide +kernel
theorem dX8_takes_8 : decode cX8_takes 8 = .ok (.istore 4, 2) := by decide +kernel
theorem dX8_takes_10 : decode cX8_takes 10 = .ok (.iload 4, 2) := by decide +kernel
theorem dX8_takes_12 : decode cX8_takes 12 = .ok (.aload_n 0, 1) := by decide +kernel
theorem dX8_takes_13 : decode cX8_takes 13 = .ok (.getfield 7, 3) := by decide +kernel
theorem dX8_takes_16 : decode cX8_takes 16 = .ok (.iconst 0, 1) := by decide +kernel
theorem dX8_takes_17 : decode cX8_takes 17 = .ok (.iaload, 1) := by decide +kernel
theorem dX8_takes_18 : decode cX8_takes 18 = .ok (.if_icmp .lt 154, 3) := by decide +kernel
theorem dX8_takes_21 : decode cX8_takes 21 = .ok (.iload_n 2, 1) := by decide +kernel
theorem dX8_takes_22 : decode cX8_takes 22 = .ok (.ifCond .le 150, 3) := by decide +kernel
theorem dX8_takes_25 : decode cX8_takes 25 = .ok (.aload_n 0, 1) := by decide +kernel
theorem dX8_takes_26 : decode cX8_takes 26 = .ok (.iload 4, 2) := by decide +kernel
theorem dX8_takes_28 : decode cX8_takes 28 = .ok (.iconst 1, 1) := by decide +kernel
theorem dX8_takes_29 : decode cX8_takes 29 = .ok (.invokevirtual 106, 3) := by decide +kernel
theorem dX8_takes_32 : decode cX8_takes 32 = .ok (.istore 5, 2) := by decide +kernel
theorem dX8_takes_34 : decode cX8_takes 34 = .ok (.aload_n 0, 1) := by decide +kernel
theorem dX8_takes_35 : decode cX8_takes 35 = .ok (.iload 4, 2) := by decide +kernel
theorem dX8_takes_37 : decode cX8_takes 37 = .ok (.iconst 0, 1) := by decide +kernel
theorem dX8_takes_38 : decode cX8_takes 38 = .ok (.invokevirtual 106, 3) := by decide +kernel
theorem dX8_takes_41 : decode cX8_takes 41 = .ok (.iconst 2, 1) := by decide +kernel
theorem dX8_takes_42 : decode cX8_takes 42 = .ok (.if_icmp .ge 17, 3) := by decide +kernel
theorem dX8_takes_45 : decode cX8_takes 45 = .ok (.iload_n 2, 1) := by decide +kernel
theorem dX8_takes_46 : decode cX8_takes 46 = .ok (.iload 5, 2) := by decide +kernel
theorem dX8_takes_48 : decode cX8_takes 48 = .ok (.ishr, 1) := by decide +kernel
theorem dX8_takes_49 : decode cX8_takes 49 = .ok (.iconst 1, 1) := by decide +kernel
theorem dX8_takes_50 : decode cX8_takes 50 = .ok (.iand, 1) := by decide +kernel
theorem dX8_takes_51 : decode cX8_takes 51 = .ok (.iconst 1, 1) := by decide +kernel
theorem dX8_takes_52 : decode cX8_takes 52 = .ok (.if_icmp .ne 7, 3) := by decide +kernel
theorem dX8_takes_55 : decode cX8_takes 55 = .ok (.iconst 1, 1) := by decide +kernel
theorem dX8_takes_56 : decode cX8_takes 56 = .ok (.goto 4, 3) := by decide +kernel
theorem dX8_takes_59 : decode cX8_takes 59 = .ok (.iconst 0, 1) := by decide +kernel
theorem dX8_takes_60 : decode cX8_takes 60 = .ok (.istore 6, 2) := by decide +kernel
theorem dX8_takes_62 : decode cX8_takes 62 = .ok (.iload 6, 2) := by decide +kernel
theorem dX8_takes_64 : decode cX8_takes 64 = .ok (.ifCond .eq 39, 3) := by decide +kernel
theorem dX8_takes_67 : decode cX8_takes 67 = .ok (.aload_n 0, 1) := by decide +kernel
theorem dX8_takes_68 : decode cX8_takes 68 = .ok (.iload 4, 2) := by decide +kernel
theorem dX8_takes_70 : decode cX8_takes 70 = .ok (.iconst 0, 1) := by decide +kernel
theorem dX8_takes_71 : decode cX8_takes 71 = .ok (.invokevirtual 106, 3) := by decide +kernel
theorem dX8_takes_74 : decode cX8_takes 74 = .ok (.ifCond .ne 29, 3) := by decide +kernel
theorem dX8_takes_77 : decode cX8_takes 77 = .ok (.aload_n 0, 1) := by decide +kernel
theorem dX8_takes_78 : decode cX8_takes 78 = .ok (.iconst 4, 1) := by decide +kernel
theorem dX8_takes_79 : decode cX8_takes 79 = .ok (.iload 5, 2) := by decide +kernel
theorem dX8_takes_81 : decode cX8_takes 81 = .ok (.ldc 62, 2) := by decide +kernel
theorem dX8_takes_83 : decode cX8_takes 83 = .ok (.ldc 62, 2) := by decide +kernel
theorem dX8_takes_85 : decode cX8_takes 85 = .ok (.ldc 62, 2) := by decide +kernel
theorem dX8_takes_87 : decode cX8_takes 87 = .ok (.ldc 62, 2) := by decide +kernel
theorem dX8_takes_89 : decode cX8_takes 89 = .ok (.invokevirtual 80, 3) := by decide +kernel
theorem dX8_takes_92 : decode cX8_takes 92 = .ok (.pop, 1) := by decide +kernel
theorem dX8_takes_93 : decode cX8_takes 93 = .ok (.iload_n 2, 1) := by decide +kernel
theorem dX8_takes_94 : decode cX8_takes 94 = .ok (.iconst 1, 1) := by decide +kernel
theorem dX8_takes_95 : decode cX8_takes 95 = .ok (.iload 5, 2) := by decide +kernel
theorem dX8_takes_97 : decode cX8_takes 97 = .ok (.ishl, 1) := by decide +kernel
theorem dX8_takes_98 : decode cX8_takes 98 = .ok (.isub, 1) := by decide +kernel
theorem dX8_takes_99 : decode cX8_takes 99 = .ok (.istore_n 2, 1) := by decide +kernel
theorem dX8_takes_100 : decode cX8_takes 100 = .ok (.goto 66, 3) := by decide +kernel
theorem dX8_takes_103 : decode cX8_takes 103 = .ok (.iload 6, 2) := by decide +kernel
theorem dX8_takes_105 : decode cX8_takes 105 = .ok (.ifCond .eq 61, 3) := by decide +kernel
theorem dX8_takes_108 : decode cX8_takes 108 = .ok (.aload_n 0, 1) := by decide +kernel
theorem dX8_takes_109 : decode cX8_takes 109 = .ok (.iload 4, 2) := by decide +kernel
theorem dX8_takes_111 : decode cX8_takes 111 = .ok (.invokevirtual 109, 3) := by decide +kernel
theorem dX8_takes_114 : decode cX8_takes 114 = .ok (.ifCond .ne 52, 3) := by decide +kernel
theorem dX8_takes_117 : decode cX8_takes 117 = .ok (.aload_n 0, 1) := by decide +kernel
theorem dX8_takes_118 : decode cX8_takes 118 = .ok (.iload 4, 2) := by decide +kernel
theorem dX8_takes_120 : decode cX8_takes 120 = .ok (.iconst 2, 1) := by decide +kernel
theorem dX8_takes_121 : decode cX8_takes 121 = .ok (.invokevirtual 106, 3) := by decide +kernel
theorem dX8_takes_124 : decode cX8_takes 124 = .ok (.istore 7, 2) := by decide +kernel
theorem dX8_takes_126 : decode cX8_takes 126 = .ok (.aload_n 0, 1) := by decide +kernel
theorem dX8_takes_127 : decode cX8_takes 127 = .ok (.iload 7, 2) := by decide +kernel
theorem dX8_takes_129 : decode cX8_takes 129 = .ok (.aload_n 0, 1) := by decide +kernel
theorem dX8_takes_130 : decode cX8_takes 130 = .ok (.iload 4, 2) := by decide +kernel
theorem dX8_takes_132 : decode cX8_takes 132 = .ok (.iconst 3, 1) := by decide +kernel
theorem dX8_takes_133 : decode cX8_takes 133 = .ok (.invokevirtual 106, 3) := by decide +kernel
theorem dX8_takes_136 : decode cX8_takes 136 = .ok (.aload_n 0, 1) := by decide +kernel
theorem dX8_takes_137 : decode cX8_takes 137 = .ok (.iconst 3, 1) := by decide +kernel
theorem dX8_takes_138 : decode cX8_takes 138 = .ok (.iload 5, 2) := by decide +kernel
theorem dX8_takes_140 : decode cX8_takes 140 = .ok (.iload 7, 2) := by decide +kernel
theorem dX8_takes_142 : decode cX8_takes 142 = .ok (.aload_n 0, 1) := by decide +kernel
theorem dX8_takes_143 : decode cX8_takes 143 = .ok (.iload 7, 2) := by decide +kernel
theorem dX8_takes_145 : decode cX8_takes 145 = .ok (.invokevirtual 90, 3) := by decide +kernel
theorem dX8_takes_148 : decode cX8_takes 148 = .ok (.aload_n 0, 1) := by decide +kernel
theorem dX8_takes_149 : decode cX8_takes 149 = .ok (.iload 4, 2) := by decide +kernel
theorem dX8_takes_151 : decode cX8_takes 151 = .ok (.iconst 3, 1) := by decide +kernel
theorem dX8_takes_152 : decode cX8_takes 152 = .ok (.invokevirtual 106, 3) := by decide +kernel
theorem dX8_takes_155 : decode cX8_takes 155 = .ok (.iload 4, 2) := by decide +kernel
theorem dX8_takes_157 : decode cX8_takes 157 = .ok (.invokevirtual 80, 3) := by decide +kernel
theorem dX8_takes_160 : decode cX8_takes 160 = .ok (.invokevirtual 93, 3) := by decide +kernel
theorem dX8_takes_163 : decode cX8_takes 163 = .ok (.iinc 3 1, 3) := by decide +kernel
theorem dX8_takes_166 : decode cX8_takes 166 = .ok (.iinc 4 (-1), 3) := by decide +kernel
theorem dX8_takes_169 : decode cX8_takes 169 = .ok (.goto (-159), 3) := by decide +kernel
theorem dX8_takes_172 : decode cX8_takes 172 = .ok (.iload_n 3, 1) := by decide +kernel
theorem dX8_takes_173 : decode cX8_takes 173 = .ok (.ireturn, 1) := by decide +kernel
theorem dX8_takeBack_0 : decode cX8_takeBack 0 = .ok (.iload_n 1, 1) := by decide +kernel
theorem dX8_takeBack_1 : decode cX8_takeBack 1 = .ok (.iconst 0, 1) := by decide +kernel
theorem dX8_takeBack_2 : decode cX8_takeBack 2 = .ok (.iconst 3, 1) := by decide +kernel
theorem dX8_takeBack_3 : decode cX8_takeBack 3 = .ok (.invokestatic 66, 3) := by decide +kernel
theorem dX8_takeBack_6 : decode cX8_takeBack 6 = .ok (.ifCond .ne 6, 3) := by decide +kernel
theorem dX8_takeBack_9 : decode cX8_takeBack 9 = .ok (.ldc 70, 2) := by decide +kernel
theorem dX8_takeBack_11 : decode cX8_takeBack 11 = .ok (.ireturn, 1) := by decide +kernel
theorem dX8_takeBack_12 : decode cX8_takeBack 12 = .ok (.aload_n 0, 1) := by decide +kernel
theorem dX8_takeBack_13 : decode cX8_takeBack 13 = .ok (.invokevirtual 71, 3) := by decide +kernel
theorem dX8_takeBack_16 : decode cX8_takeBack 16 = .ok (.ifCond .ne 11, 3) := by decide +kernel
theorem dX8_takeBack_19 : decode cX8_takeBack 19 = .ok (.aload_n 0, 1) := by decide +kernel
theorem dX8_takeBack_20 : decode cX8_takeBack 20 = .ok (.iload_n 1, 1) := by decide +kernel
theorem dX8_takeBack_21 : decode cX8_takeBack 21 = .ok (.invokevirtual 63, 3) := by decide +kernel
theorem dX8_takeBack_24 : decode cX8_takeBack 24 = .ok (.ifCond .ne 6, 3) := by decide +kernel
theorem dX8_takeBack_27 : decode cX8_takeBack 27 = .ok (.ldc 75, 2) := by decide +kernel
theorem dX8_takeBack_29 : decode cX8_takeBack 29 = .ok (.ireturn, 1) := by decide +kernel
theorem dX8_takeBack_30 : decode cX8_takeBack 30 = .ok (.aload_n 0, 1) := by decide +kernel
theorem dX8_takeBack_31 : decode cX8_takeBack 31 = .ok (.getfield 7, 3) := by decide +kernel
theorem dX8_takeBack_34 : decode cX8_takeBack 34 = .ok (.iconst 1, 1) := by decide +kernel
theorem dX8_takeBack_35 : decode cX8_takeBack 35 = .ok (.iaload, 1) := by decide +kernel
theorem dX8_takeBack_36 : decode cX8_takeBack 36 = .ok (.aload_n 0, 1) := by decide +kernel
theorem dX8_takeBack_37 : decode cX8_takeBack 37 = .ok (.iload_n 1, 1) := by decide +kernel
theorem dX8_takeBack_38 : decode cX8_takeBack 38 = .ok (.iconst 2, 1) := by decide +kernel
theorem dX8_takeBack_39 : decode cX8_takeBack 39 = .ok (.invokevirtual 39, 3) := by decide +kernel
theorem dX8_takeBack_42 : decode cX8_takeBack 42 = .ok (.iadd, 1) := by decide +kernel
theorem dX8_takeBack_43 : decode cX8_takeBack 43 = .ok (.iconst 1, 1) := by decide +kernel
theorem dX8_takeBack_44 : decode cX8_takeBack 44 = .ok (.iadd, 1) := by decide +kernel
theorem dX8_takeBack_45 : decode cX8_takeBack 45 = .ok (.bipush 60, 2) := by decide +kernel
theorem dX8_takeBack_47 : decode cX8_takeBack 47 = .ok (.if_icmp .le 6, 3) := by decide +kernel
theorem dX8_takeBack_50 : decode cX8_takeBack 50 = .ok (.ldc 76, 2) := by decide +kernel
theorem dX8_takeBack_52 : decode cX8_takeBack 52 = .ok (.ireturn, 1) := by decide +kernel
theorem dX8_takeBack_53 : decode cX8_takeBack 53 = .ok (.aload_n 0, 1) := by decide +kernel
theorem dX8_takeBack_54 : decode cX8_takeBack 54 = .ok (.invokevirtual 77, 3) := by decide +kernel
theorem dX8_takeBack_57 : decode cX8_takeBack 57 = .ok (.aload_n 0, 1) := by decide +kernel
theorem dX8_takeBack_58 : decode cX8_takeBack 58 = .ok (.iconst 1, 1) := by decide +kernel
theorem dX8_takeBack_59 : decode cX8_takeBack 59 = .ok (.iload_n 1, 1) := by decide +kernel
theorem dX8_takeBack_60 : decode cX8_takeBack 60 = .ok (.ishl, 1) := by decide +kernel
theorem dX8_takeBack_61 : decode cX8_takeBack 61 = .ok (.invokevirtual 112, 3) := by decide +kernel
theorem dX8_takeBack_64 : decode cX8_takeBack 64 = .ok (.istore_n 2, 1) := by decide +kernel
theorem dX8_takeBack_65 : decode cX8_takeBack 65 = .ok (.aload_n 0, 1) := by decide +kernel
theorem dX8_takeBack_66 : decode cX8_takeBack 66 = .ok (.iload_n 1, 1) := by decide +kernel
theorem dX8_takeBack_67 : decode cX8_takeBack 67 = .ok (.invokevirtual 102, 3) := by decide +kernel
theorem dX8_takeBack_70 : decode cX8_takeBack 70 = .ok (.iload_n 2, 1) := by decide +kernel
theorem dX8_takeBack_71 : decode cX8_takeBack 71 = .ok (.ireturn, 1) := by decide +kernel
theorem dX8_writeOut_0 : decode cX8_writeOut 0 = .ok (.iload_n 1, 1) := by decide +kernel
theorem dX8_writeOut_1 : decode cX8_writeOut 1 = .ok (.iconst 0, 1) := by decide +kernel
theorem dX8_writeOut_2 : decode cX8_writeOut 2 = .ok (.bipush 7, 2) := by decide +kernel
theorem dX8_writeOut_4 : decode cX8_writeOut 4 = .ok (.invokestatic 66, 3) := by decide +kernel
theorem dX8_writeOut_7 : decode cX8_writeOut 7 = .ok (.ifCond .ne 6, 3) := by decide +kernel
theorem dX8_writeOut_10 : decode cX8_writeOut 10 = .ok (.ldc 70, 2) := by decide +kernel
theorem dX8_writeOut_12 : decode cX8_writeOut 12 = .ok (.ireturn, 1) := by decide +kernel
theorem dX8_writeOut_13 : decode cX8_writeOut 13 = .ok (.aload_n 0, 1) := by decide +kernel
theorem dX8_writeOut_14 : decode cX8_writeOut 14 = .ok (.invokevirtual 71, 3) := by decide +kernel
theorem dX8_writeOut_17 : decode cX8_writeOut 17 = .ok (.ifCond .ne 11, 3) := by decide +kernel
theorem dX8_writeOut_20 : decode cX8_writeOut 20 = .ok (.aload_n 0, 1) := by decide +kernel
theorem dX8_writeOut_21 : decode cX8_writeOut 21 = .ok (.iload_n 1, 1) := by decide +kernel
theorem dX8_writeOut_22 : decode cX8_writeOut 22 = .ok (.invokevirtual 54, 3) := by decide +kernel
theorem dX8_writeOut_25 : decode cX8_writeOut 25 = .ok (.ifCond .ne 6, 3) := by decide +kernel
theorem dX8_writeOut_28 : decode cX8_writeOut 28 = .ok (.ldc 75, 2) := by decide +kernel
theorem dX8_writeOut_30 : decode cX8_writeOut 30 = .ok (.ireturn, 1) := by decide +kernel
theorem dX8_writeOut_31 : decode cX8_writeOut 31 = .ok (.aload_n 0, 1) := by decide +kernel
theorem dX8_writeOut_32 : decode cX8_writeOut 32 = .ok (.invokevirtual 77, 3) := by decide +kernel
theorem dX8_writeOut_35 : decode cX8_writeOut 35 = .ok (.aload_n 0, 1) := by decide +kernel
theorem dX8_writeOut_36 : decode cX8_writeOut 36 = .ok (.aload_n 0, 1) := by decide +kernel
theorem dX8_writeOut_37 : decode cX8_writeOut 37 = .ok (.iload_n 1, 1) := by decide +kernel
theorem dX8_writeOut_38 : decode cX8_writeOut 38 = .ok (.invokevirtual 46, 3) := by decide +kernel
theorem dX8_writeOut_41 : decode cX8_writeOut 41 = .ok (.invokevirtual 96, 3) := by decide +kernel
theorem dX8_writeOut_44 : decode cX8_writeOut 44 = .ok (.istore_n 2, 1) := by decide +kernel
theorem dX8_writeOut_45 : decode cX8_writeOut 45 = .ok (.aload_n 0, 1) := by decide +kernel
theorem dX8_writeOut_46 : decode cX8_writeOut 46 = .ok (.iload_n 1, 1) := by decide +kernel
theorem dX8_writeOut_47 : decode cX8_writeOut 47 = .ok (.iconst 0, 1) := by decide +kernel
theorem dX8_writeOut_48 : decode cX8_writeOut 48 = .ok (.aload_n 0, 1) := by decide +kernel
theorem dX8_writeOut_49 : decode cX8_writeOut 49 = .ok (.iload_n 1, 1) := by decide +kernel
theorem dX8_writeOut_50 : decode cX8_writeOut 50 = .ok (.iconst 3, 1) := by decide +kernel
theorem dX8_writeOut_51 : decode cX8_writeOut 51 = .ok (.invokevirtual 43, 3) := by decide +kernel
theorem dX8_writeOut_54 : decode cX8_writeOut 54 = .ok (.invokevirtual 58, 3) := by decide +kernel
theorem dX8_writeOut_57 : decode cX8_writeOut 57 = .ok (.aload_n 0, 1) := by decide +kernel
theorem dX8_writeOut_58 : decode cX8_writeOut 58 = .ok (.iload_n 1, 1) := by decide +kernel
theorem dX8_writeOut_59 : decode cX8_writeOut 59 = .ok (.iconst 1, 1) := by decide +kernel
theorem dX8_writeOut_60 : decode cX8_writeOut 60 = .ok (.aload_n 0, 1) := by decide +kernel
theorem dX8_writeOut_61 : decode cX8_writeOut 61 = .ok (.iload_n 1, 1) := by decide +kernel
theorem dX8_writeOut_62 : decode cX8_writeOut 62 = .ok (.iconst 4, 1) := by decide +kernel
theorem dX8_writeOut_63 : decode cX8_writeOut 63 = .ok (.invokevirtual 43, 3) := by decide +kernel
theorem dX8_writeOut_66 : decode cX8_writeOut 66 = .ok (.invokevirtual 58, 3) := by decide +kernel
theorem dX8_writeOut_69 : decode cX8_writeOut 69 = .ok (.iload_n 2, 1) := by decide +kernel
theorem dX8_writeOut_70 : decode cX8_writeOut 70 = .ok (.ireturn, 1) := by decide +kernel
theorem dX8_pages_0 : decode cX8_pages 0 = .ok (.iconst 0, 1) := by decide +kernel
theorem dX8_pages_1 : decode cX8_pages 1 = .ok (.istore_n 2, 1) := by decide +kernel
theorem dX8_pages_2 : decode cX8_pages 2 = .ok (.iconst 0, 1) := by decide +kernel
theorem dX8_pages_3 : decode cX8_pages 3 = .ok (.istore_n 3, 1) := by decide +kernel
theorem dX8_pages_4 : decode cX8_pages 4 = .ok (.iload_n 3, 1) := by decide +kernel
theorem dX8_pages_5 : decode cX8_pages 5 = .ok (.bipush 8, 2) := by decide +kernel
theorem dX8_pages_7 : decode cX8_pages 7 = .ok (.if_icmp .ge 42, 3) := by decide +kernel
theorem dX8_pages_10 : decode cX8_pages 10 = .ok (.iload_n 2, 1) := by decide +kernel
theorem dX8_pages_11 : decode cX8_pages 11 = .ok (.iload_n 1, 1) := by decide +kernel
theorem dX8_pages_12 : decode cX8_pages 12 = .ok (.ifCond .ne 14, 3) := by decide +kernel
theorem dX8_pages_15 : decode cX8_pages 15 = .ok (.aload_n 0, 1) := by decide +kernel
theorem dX8_pages_16 : decode cX8_pages 16 = .ok (.iload_n 3, 1) := by decide +kernel
theorem dX8_pages_17 : decode cX8_pages 17 = .ok (.iconst 2, 1) := by decide +kernel
theorem dX8_pages_18 : decode cX8_pages 18 = .ok (.invokevirtual 43, 3) := by decide +kernel
theorem dX8_pages_21 : decode cX8_pages 21 = .ok (.iload_n 3, 1) := by decide +kernel
theorem dX8_pages_22 : decode cX8_pages 22 = .ok (.ishl, 1) := by decide +kernel
theorem dX8_pages_23 : decode cX8_pages 23 = .ok (.goto 18, 3) := by decide +kernel
theorem dX8_pages_26 : decode cX8_pages 26 = .ok (.aload_n 0, 1) := by decide +kernel
theorem dX8_pages_27 : decode cX8_pages 27 = .ok (.iload_n 3, 1) := by decide +kernel
theorem dX8_pages_28 : decode cX8_pages 28 = .ok (.invokevirtual 54, 3) := by decide +kernel
theorem dX8_pages_31 : decode cX8_pages 31 = .ok (.ifCond .eq 9, 3) := by decide +kernel
theorem dX8_pages_34 : decode cX8_pages 34 = .ok (.iconst 1, 1) := by decide +kernel
theorem dX8_pages_35 : decode cX8_pages 35 = .ok (.iload_n 3, 1) := by decide +kernel
theorem dX8_pages_36 : decode cX8_pages 36 = .ok (.ishl, 1) := by decide +kernel
theorem dX8_pages_37 : decode cX8_pages 37 = .ok (.goto 4, 3) := by decide +kernel
theorem dX8_pages_40 : decode cX8_pages 40 = .ok (.iconst 0, 1) := by decide +kernel
theorem dX8_pages_41 : decode cX8_pages 41 = .ok (.ior, 1) := by decide +kernel
theorem dX8_pages_42 : decode cX8_pages 42 = .ok (.istore_n 2, 1) := by decide +kernel
theorem dX8_pages_43 : decode cX8_pages 43 = .ok (.iinc 3 1, 3) := by decide +kernel
theorem dX8_pages_46 : decode cX8_pages 46 = .ok (.goto (-42), 3) := by decide +kernel
theorem dX8_pages_49 : decode cX8_pages 49 = .ok (.iload_n 2, 1) := by decide +kernel
theorem dX8_pages_50 : decode cX8_pages 50 = .ok (.ireturn, 1) := by decide +kernel
theorem dX8_dropOut_0 : decode cX8_dropOut 0 = .ok (.iload_n 1, 1) := by decide +kernel
theorem dX8_dropOut_1 : decode cX8_dropOut 1 = .ok (.iconst 0, 1) := by decide +kernel
theorem dX8_dropOut_2 : decode cX8_dropOut 2 = .ok (.bipush 7, 2) := by decide +kernel
theorem dX8_dropOut_4 : decode cX8_dropOut 4 = .ok (.invokestatic 66, 3) := by decide +kernel
theorem dX8_dropOut_7 : decode cX8_dropOut 7 = .ok (.ifCond .ne 6, 3) := by decide +kernel
theorem dX8_dropOut_10 : decode cX8_dropOut 10 = .ok (.ldc 70, 2) := by decide +kernel
theorem dX8_dropOut_12 : decode cX8_dropOut 12 = .ok (.ireturn, 1) := by decide +kernel
theorem dX8_dropOut_13 : decode cX8_dropOut 13 = .ok (.aload_n 0, 1) := by decide +kernel
theorem dX8_dropOut_14 : decode cX8_dropOut 14 = .ok (.invokevirtual 71, 3) := by decide +kernel
theorem dX8_dropOut_17 : decode cX8_dropOut 17 = .ok (.ifCond .ne 20, 3) := by decide +kernel
theorem dX8_dropOut_20 : decode cX8_dropOut 20 = .ok (.aload_n 0, 1) := by decide +kernel
theorem dX8_dropOut_21 : decode cX8_dropOut 21 = .ok (.iload_n 1, 1) := by decide +kernel
theorem dX8_dropOut_22 : decode cX8_dropOut 22 = .ok (.iconst 2, 1) := by decide +kernel
theorem dX8_dropOut_23 : decode cX8_dropOut 23 = .ok (.invokevirtual 43, 3) := by decide +kernel
theorem dX8_dropOut_26 : decode cX8_dropOut 26 = .ok (.ifCond .eq 11, 3) := by decide +kernel
theorem dX8_dropOut_29 : decode cX8_dropOut 29 = .ok (.aload_n 0, 1) := by decide +kernel
theorem dX8_dropOut_30 : decode cX8_dropOut 30 = .ok (.iload_n 1, 1) := by decide +kernel
theorem dX8_dropOut_31 : decode cX8_dropOut 31 = .ok (.invokevirtual 54, 3) := by decide +kernel
theorem dX8_dropOut_34 : decode cX8_dropOut 34 = .ok (.ifCond .eq 6, 3) := by decide +kernel
theorem dX8_dropOut_37 : decode cX8_dropOut 37 = .ok (.ldc 75, 2) := by decide +kernel
theorem dX8_dropOut_39 : decode cX8_dropOut 39 = .ok (.ireturn, 1) := by decide +kernel
theorem dX8_dropOut_40 : decode cX8_dropOut 40 = .ok (.aload_n 0, 1) := by decide +kernel
theorem dX8_dropOut_41 : decode cX8_dropOut 41 = .ok (.invokevirtual 77, 3) := by decide +kernel
theorem dX8_dropOut_44 : decode cX8_dropOut 44 = .ok (.aload_n 0, 1) := by decide +kernel
theorem dX8_dropOut_45 : decode cX8_dropOut 45 = .ok (.iload_n 1, 1) := by decide +kernel
theorem dX8_dropOut_46 : decode cX8_dropOut 46 = .ok (.iconst 2, 1) := by decide +kernel
theorem dX8_dropOut_47 : decode cX8_dropOut 47 = .ok (.iconst 0, 1) := by decide +kernel
theorem dX8_dropOut_48 : decode cX8_dropOut 48 = .ok (.invokevirtual 58, 3) := by decide +kernel
theorem dX8_dropOut_51 : decode cX8_dropOut 51 = .ok (.aload_n 0, 1) := by decide +kernel
theorem dX8_dropOut_52 : decode cX8_dropOut 52 = .ok (.iconst 0, 1) := by decide +kernel
theorem dX8_dropOut_53 : decode cX8_dropOut 53 = .ok (.invokevirtual 115, 3) := by decide +kernel
theorem dX8_dropOut_56 : decode cX8_dropOut 56 = .ok (.invokestatic 99, 3) := by decide +kernel
theorem dX8_dropOut_59 : decode cX8_dropOut 59 = .ok (.ireturn, 1) := by decide +kernel
theorem dX8_openSet_0 : decode cX8_openSet 0 = .ok (.iconst 0, 1) := by decide +kernel
theorem dX8_openSet_1 : decode cX8_openSet 1 = .ok (.istore_n 1, 1) := by decide +kernel
theorem dX8_openSet_2 : decode cX8_openSet 2 = .ok (.iconst 0, 1) := by decide +kernel
theorem dX8_openSet_3 : decode cX8_openSet 3 = .ok (.istore_n 2, 1) := by decide +kernel
theorem dX8_openSet_4 : decode cX8_openSet 4 = .ok (.iload_n 2, 1) := by decide +kernel
theorem dX8_openSet_5 : decode cX8_openSet 5 = .ok (.iconst 4, 1) := by decide +kernel
theorem dX8_openSet_6 : decode cX8_openSet 6 = .ok (.if_icmp .ge 20, 3) := by decide +kernel
theorem dX8_openSet_9 : decode cX8_openSet 9 = .ok (.iload_n 1, 1) := by decide +kernel
theorem dX8_openSet_10 : decode cX8_openSet 10 = .ok (.aload_n 0, 1) := by decide +kernel
theorem dX8_openSet_11 : decode cX8_openSet 11 = .ok (.iload_n 2, 1) := by decide +kernel
theorem dX8_openSet_12 : decode cX8_openSet 12 = .ok (.iconst 0, 1) := by decide +kernel
theorem dX8_openSet_13 : decode cX8_openSet 13 = .ok (.invokevirtual 39, 3) := by decide +kernel
theorem dX8_openSet_16 : decode cX8_openSet 16 = .ok (.iload_n 2, 1) := by decide +kernel
theorem dX8_openSet_17 : decode cX8_openSet 17 = .ok (.ishl, 1) := by decide +kernel
theorem dX8_openSet_18 : decode cX8_openSet 18 = .ok (.ior, 1) := by decide +kernel
theorem dX8_openSet_19 : decode cX8_openSet 19 = .ok (.istore_n 1, 1) := by decide +kernel
theorem dX8_openSet_20 : decode cX8_openSet 20 = .ok (.iinc 2 1, 3) := by decide +kernel
theorem dX8_openSet_23 : decode cX8_openSet 23 = .ok (.goto (-19), 3) := by decide +kernel
theorem dX8_openSet_26 : decode cX8_openSet 26 = .ok (.iload_n 1, 1) := by decide +kernel
theorem dX8_openSet_27 : decode cX8_openSet 27 = .ok (.ireturn, 1) := by decide +kernel
theorem dX8_checkpoint_0 : decode cX8_checkpoint 0 = .ok (.aload_n 0, 1) := by decide +kernel
theorem dX8_checkpoint_1 : decode cX8_checkpoint 1 = .ok (.invokevirtual 71, 3) := by decide +kernel
theorem dX8_checkpoint_4 : decode cX8_checkpoint 4 = .ok (.ifCond .eq 6, 3) := by decide +kernel
theorem dX8_checkpoint_7 : decode cX8_checkpoint 7 = .ok (.ldc 75, 2) := by decide +kernel
theorem dX8_checkpoint_9 : decode cX8_checkpoint 9 = .ok (.ireturn, 1) := by decide +kernel
theorem dX8_checkpoint_10 : decode cX8_checkpoint 10 = .ok (.aload_n 0, 1) := by decide +kernel
theorem dX8_checkpoint_11 : decode cX8_checkpoint 11 = .ok (.getfield 7, 3) := by decide +kernel
theorem dX8_checkpoint_14 : decode cX8_checkpoint 14 = .ok (.iconst 1, 1) := by decide +kernel
theorem dX8_checkpoint_15 : decode cX8_checkpoint 15 = .ok (.iaload, 1) := by decide +kernel
theorem dX8_checkpoint_16 : decode cX8_checkpoint 16 = .ok (.bipush 60, 2) := by decide +kernel
theorem dX8_checkpoint_18 : decode cX8_checkpoint 18 = .ok (.if_icmp .lt 6, 3) := by decide +kernel
theorem dX8_checkpoint_21 : decode cX8_checkpoint 21 = .ok (.ldc 76, 2) := by decide +kernel
theorem dX8_checkpoint_23 : decode cX8_checkpoint 23 = .ok (.ireturn, 1) := by decide +kernel
theorem dX8_checkpoint_24 : decode cX8_checkpoint 24 = .ok (.aload_n 0, 1) := by decide +kernel
theorem dX8_checkpoint_25 : decode cX8_checkpoint 25 = .ok (.invokevirtual 77, 3) := by decide +kernel
theorem dX8_checkpoint_28 : decode cX8_checkpoint 28 = .ok (.aload_n 0, 1) := by decide +kernel
theorem dX8_checkpoint_29 : decode cX8_checkpoint 29 = .ok (.iconst 5, 1) := by decide +kernel
theorem dX8_checkpoint_30 : decode cX8_checkpoint 30 = .ok (.ldc 62, 2) := by decide +kernel
theorem dX8_checkpoint_32 : decode cX8_checkpoint 32 = .ok (.ldc 62, 2) := by decide +kernel
theorem dX8_checkpoint_34 : decode cX8_checkpoint 34 = .ok (.ldc 62, 2) := by decide +kernel
theorem dX8_checkpoint_36 : decode cX8_checkpoint 36 = .ok (.ldc 62, 2) := by decide +kernel
theorem dX8_checkpoint_38 : decode cX8_checkpoint 38 = .ok (.ldc 62, 2) := by decide +kernel
theorem dX8_checkpoint_40 : decode cX8_checkpoint 40 = .ok (.invokevirtual 80, 3) := by decide +kernel
theorem dX8_checkpoint_43 : decode cX8_checkpoint 43 = .ok (.istore_n 1, 1) := by decide +kernel
theorem dX8_checkpoint_44 : decode cX8_checkpoint 44 = .ok (.bipush 69, 2) := by decide +kernel
theorem dX8_checkpoint_46 : decode cX8_checkpoint 46 = .ok (.bipush 16, 2) := by decide +kernel
theorem dX8_checkpoint_48 : decode cX8_checkpoint 48 = .ok (.iload_n 1, 1) := by decide +kernel
theorem dX8_checkpoint_49 : decode cX8_checkpoint 49 = .ok (.aload_n 0, 1) := by decide +kernel
theorem dX8_checkpoint_50 : decode cX8_checkpoint 50 = .ok (.getfield 7, 3) := by decide +kernel
theorem dX8_checkpoint_53 : decode cX8_checkpoint 53 = .ok (.iconst 0, 1) := by decide +kernel
theorem dX8_checkpoint_54 : decode cX8_checkpoint 54 = .ok (.iaload, 1) := by decide +kernel
theorem dX8_checkpoint_55 : decode cX8_checkpoint 55 = .ok (.isub, 1) := by decide +kernel
theorem dX8_checkpoint_56 : decode cX8_checkpoint 56 = .ok (.imul, 1) := by decide +kernel
theorem dX8_checkpoint_57 : decode cX8_checkpoint 57 = .ok (.iadd, 1) := by decide +kernel
theorem dX8_checkpoint_58 : decode cX8_checkpoint 58 = .ok (.istore_n 2, 1) := by decide +kernel
theorem dX8_checkpoint_59 : decode cX8_checkpoint 59 = .ok (.aload_n 0, 1) := by decide +kernel
theorem dX8_checkpoint_60 : decode cX8_checkpoint 60 = .ok (.getfield 7, 3) := by decide +kernel
theorem dX8_checkpoint_63 : decode cX8_checkpoint 63 = .ok (.iload_n 2, 1) := by decide +kernel
theorem dX8_checkpoint_64 : decode cX8_checkpoint 64 = .ok (.bipush 6, 2) := by decide +kernel
