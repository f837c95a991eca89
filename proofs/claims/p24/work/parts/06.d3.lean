theorem dX6_takeGroupBack_103 : decode cX6_takeGroupBack 103 = .ok (.iload 5, 2) := by decide +kernel
theorem dX6_takeGroupBack_105 : decode cX6_takeGroupBack 105 = .ok (.invokevirtual 127, 3) := by decide +kernel
theorem dX6_takeGroupBack_108 : decode cX6_takeGroupBack 108 = .ok (.iinc 5 (-1), 3) := by decide +kernel
theorem dX6_takeGroupBack_111 : decode cX6_takeGroupBack 111 = .ok (.goto (-68), 3) := by decide +kernel
theorem dX6_takeGroupBack_114 : decode cX6_takeGroupBack 114 = .ok (.aload_n 0, 1) := by decide +kernel
theorem dX6_takeGroupBack_115 : decode cX6_takeGroupBack 115 = .ok (.iload_n 1, 1) := by decide +kernel
theorem dX6_takeGroupBack_116 : decode cX6_takeGroupBack 116 = .ok (.invokevirtual 130, 3) := by decide +kernel
theorem dX6_takeGroupBack_119 : decode cX6_takeGroupBack 119 = .ok (.iload_n 2, 1) := by decide +kernel
theorem dX6_takeGroupBack_120 : decode cX6_takeGroupBack 120 = .ok (.ireturn, 1) := by decide +kernel
theorem dX6_takeWriteBack_0 : decode cX6_takeWriteBack 0 = .ok (.aload_n 0, 1) := by decide +kernel
theorem dX6_takeWriteBack_1 : decode cX6_takeWriteBack 1 = .ok (.getfield 28, 3) := by decide +kernel
theorem dX6_takeWriteBack_4 : decode cX6_takeWriteBack 4 = .ok (.aload_n 0, 1) := by decide +kernel
theorem dX6_takeWriteBack_5 : decode cX6_takeWriteBack 5 = .ok (.getfield 28, 3) := by decide +kernel
theorem dX6_takeWriteBack_8 : decode cX6_takeWriteBack 8 = .ok (.getfield 116, 3) := by decide +kernel
theorem dX6_takeWriteBack_11 : decode cX6_takeWriteBack 11 = .ok (.iload_n 1, 1) := by decide +kernel
theorem dX6_takeWriteBack_12 : decode cX6_takeWriteBack 12 = .ok (.invokevirtual 120, 3) := by decide +kernel
theorem dX6_takeWriteBack_15 : decode cX6_takeWriteBack 15 = .ok (.istore_n 2, 1) := by decide +kernel
theorem dX6_takeWriteBack_16 : decode cX6_takeWriteBack 16 = .ok (.aload_n 0, 1) := by decide +kernel
theorem dX6_takeWriteBack_17 : decode cX6_takeWriteBack 17 = .ok (.getfield 28, 3) := by decide +kernel
theorem dX6_takeWriteBack_20 : decode cX6_takeWriteBack 20 = .ok (.aload_n 0, 1) := by decide +kernel
theorem dX6_takeWriteBack_21 : decode cX6_takeWriteBack 21 = .ok (.getfield 28, 3) := by decide +kernel
theorem dX6_takeWriteBack_24 : decode cX6_takeWriteBack 24 = .ok (.getfield 133, 3) := by decide +kernel
theorem dX6_takeWriteBack_27 : decode cX6_takeWriteBack 27 = .ok (.iload_n 1, 1) := by decide +kernel
theorem dX6_takeWriteBack_28 : decode cX6_takeWriteBack 28 = .ok (.invokevirtual 120, 3) := by decide +kernel
theorem dX6_takeWriteBack_31 : decode cX6_takeWriteBack 31 = .ok (.istore_n 3, 1) := by decide +kernel
theorem dX6_takeWriteBack_32 : decode cX6_takeWriteBack 32 = .ok (.aload_n 0, 1) := by decide +kernel
theorem dX6_takeWriteBack_33 : decode cX6_takeWriteBack 33 = .ok (.getfield 28, 3) := by decide +kernel
theorem dX6_takeWriteBack_36 : decode cX6_takeWriteBack 36 = .ok (.aload_n 0, 1) := by decide +kernel
theorem dX6_takeWriteBack_37 : decode cX6_takeWriteBack 37 = .ok (.getfield 28, 3) := by decide +kernel
theorem dX6_takeWriteBack_40 : decode cX6_takeWriteBack 40 = .ok (.getfield 136, 3) := by decide +kernel
theorem dX6_takeWriteBack_43 : decode cX6_takeWriteBack 43 = .ok (.iload_n 1, 1) := by decide +kernel
theorem dX6_takeWriteBack_44 : decode cX6_takeWriteBack 44 = .ok (.invokevirtual 120, 3) := by decide +kernel
theorem dX6_takeWriteBack_47 : decode cX6_takeWriteBack 47 = .ok (.istore 4, 2) := by decide +kernel
theorem dX6_takeWriteBack_49 : decode cX6_takeWriteBack 49 = .ok (.aload_n 0, 1) := by decide +kernel
theorem dX6_takeWriteBack_50 : decode cX6_takeWriteBack 50 = .ok (.getfield 12, 3) := by decide +kernel
theorem dX6_takeWriteBack_53 : decode cX6_takeWriteBack 53 = .ok (.iload_n 3, 1) := by decide +kernel
theorem dX6_takeWriteBack_54 : decode cX6_takeWriteBack 54 = .ok (.invokevirtual 74, 3) := by decide +kernel
theorem dX6_takeWriteBack_57 : decode cX6_takeWriteBack 57 = .ok (.istore 5, 2) := by decide +kernel
theorem dX6_takeWriteBack_59 : decode cX6_takeWriteBack 59 = .ok (.aload_n 0, 1) := by decide +kernel
theorem dX6_takeWriteBack_60 : decode cX6_takeWriteBack 60 = .ok (.getfield 12, 3) := by decide +kernel
theorem dX6_takeWriteBack_63 : decode cX6_takeWriteBack 63 = .ok (.iload_n 3, 1) := by decide +kernel
theorem dX6_takeWriteBack_64 : decode cX6_takeWriteBack 64 = .ok (.iload 4, 2) := by decide +kernel
theorem dX6_takeWriteBack_66 : decode cX6_takeWriteBack 66 = .ok (.aload_n 0, 1) := by decide +kernel
theorem dX6_takeWriteBack_67 : decode cX6_takeWriteBack 67 = .ok (.getfield 28, 3) := by decide +kernel
theorem dX6_takeWriteBack_70 : decode cX6_takeWriteBack 70 = .ok (.iconst 3, 1) := by decide +kernel
theorem dX6_takeWriteBack_71 : decode cX6_takeWriteBack 71 = .ok (.iload_n 2, 1) := by decide +kernel
theorem dX6_takeWriteBack_72 : decode cX6_takeWriteBack 72 = .ok (.iload_n 3, 1) := by decide +kernel
theorem dX6_takeWriteBack_73 : decode cX6_takeWriteBack 73 = .ok (.iload 5, 2) := by decide +kernel
theorem dX6_takeWriteBack_75 : decode cX6_takeWriteBack 75 = .ok (.iload 4, 2) := by decide +kernel
theorem dX6_takeWriteBack_77 : decode cX6_takeWriteBack 77 = .ok (.iload_n 1, 1) := by decide +kernel
theorem dX6_takeWriteBack_78 : decode cX6_takeWriteBack 78 = .ok (.invokevirtual 62, 3) := by decide +kernel
theorem dX6_takeWriteBack_81 : decode cX6_takeWriteBack 81 = .ok (.invokevirtual 77, 3) := by decide +kernel
theorem dX6_takeWriteBack_84 : decode cX6_takeWriteBack 84 = .ok (.return_, 1) := by decide +kernel
theorem dX6_endGroup_0 : decode cX6_endGroup 0 = .ok (.aload_n 0, 1) := by decide +kernel
theorem dX6_endGroup_1 : decode cX6_endGroup 1 = .ok (.getfield 28, 3) := by decide +kernel
theorem dX6_endGroup_4 : decode cX6_endGroup 4 = .ok (.iconst 4, 1) := by decide +kernel
theorem dX6_endGroup_5 : decode cX6_endGroup 5 = .ok (.iload_n 1, 1) := by decide +kernel
theorem dX6_endGroup_6 : decode cX6_endGroup 6 = .ok (.ldc 61, 2) := by decide +kernel
theorem dX6_endGroup_8 : decode cX6_endGroup 8 = .ok (.iconst 0, 1) := by decide +kernel
theorem dX6_endGroup_9 : decode cX6_endGroup 9 = .ok (.iconst 0, 1) := by decide +kernel
theorem dX6_endGroup_10 : decode cX6_endGroup 10 = .ok (.iconst 0, 1) := by decide +kernel
theorem dX6_endGroup_11 : decode cX6_endGroup 11 = .ok (.invokevirtual 62, 3) := by decide +kernel
theorem dX6_endGroup_14 : decode cX6_endGroup 14 = .ok (.pop, 1) := by decide +kernel
theorem dX6_endGroup_15 : decode cX6_endGroup 15 = .ok (.aload_n 0, 1) := by decide +kernel
theorem dX6_endGroup_16 : decode cX6_endGroup 16 = .ok (.getfield 21, 3) := by decide +kernel
theorem dX6_endGroup_19 : decode cX6_endGroup 19 = .ok (.iload_n 1, 1) := by decide +kernel
theorem dX6_endGroup_20 : decode cX6_endGroup 20 = .ok (.invokevirtual 94, 3) := by decide +kernel
theorem dX6_endGroup_23 : decode cX6_endGroup 23 = .ok (.return_, 1) := by decide +kernel
theorem dX6_writePageOut_0 : decode cX6_writePageOut 0 = .ok (.iload_n 1, 1) := by decide +kernel
theorem dX6_writePageOut_1 : decode cX6_writePageOut 1 = .ok (.ifCond .lt 9, 3) := by decide +kernel
theorem dX6_writePageOut_4 : decode cX6_writePageOut 4 = .ok (.iload_n 1, 1) := by decide +kernel
theorem dX6_writePageOut_5 : decode cX6_writePageOut 5 = .ok (.bipush 8, 2) := by decide +kernel
theorem dX6_writePageOut_7 : decode cX6_writePageOut 7 = .ok (.if_icmp .lt 6, 3) := by decide +kernel
theorem dX6_writePageOut_10 : decode cX6_writePageOut 10 = .ok (.ldc 50, 2) := by decide +kernel
theorem dX6_writePageOut_12 : decode cX6_writePageOut 12 = .ok (.ireturn, 1) := by decide +kernel
theorem dX6_writePageOut_13 : decode cX6_writePageOut 13 = .ok (.aload_n 0, 1) := by decide +kernel
theorem dX6_writePageOut_14 : decode cX6_writePageOut 14 = .ok (.getfield 42, 3) := by decide +kernel
theorem dX6_writePageOut_17 : decode cX6_writePageOut 17 = .ok (.ifCond .ne 17, 3) := by decide +kernel
theorem dX6_writePageOut_20 : decode cX6_writePageOut 20 = .ok (.aload_n 0, 1) := by decide +kernel
theorem dX6_writePageOut_21 : decode cX6_writePageOut 21 = .ok (.getfield 12, 3) := by decide +kernel
theorem dX6_writePageOut_24 : decode cX6_writePageOut 24 = .ok (.getfield 139, 3) := by decide +kernel
theorem dX6_writePageOut_27 : decode cX6_writePageOut 27 = .ok (.iload_n 1, 1) := by decide +kernel
theorem dX6_writePageOut_28 : decode cX6_writePageOut 28 = .ok (.ishr, 1) := by decide +kernel
theorem dX6_writePageOut_29 : decode cX6_writePageOut 29 = .ok (.iconst 1, 1) := by decide +kernel
theorem dX6_writePageOut_30 : decode cX6_writePageOut 30 = .ok (.iand, 1) := by decide +kernel
theorem dX6_writePageOut_31 : decode cX6_writePageOut 31 = .ok (.ifCond .ne 6, 3) := by decide +kernel
theorem dX6_writePageOut_34 : decode cX6_writePageOut 34 = .ok (.ldc 55, 2) := by decide +kernel
theorem dX6_writePageOut_36 : decode cX6_writePageOut 36 = .ok (.ireturn, 1) := by decide +kernel
theorem dX6_writePageOut_37 : decode cX6_writePageOut 37 = .ok (.aload_n 0, 1) := by decide +kernel
theorem dX6_writePageOut_38 : decode cX6_writePageOut 38 = .ok (.getfield 28, 3) := by decide +kernel
theorem dX6_writePageOut_41 : decode cX6_writePageOut 41 = .ok (.aload_n 0, 1) := by decide +kernel
theorem dX6_writePageOut_42 : decode cX6_writePageOut 42 = .ok (.getfield 12, 3) := by decide +kernel
theorem dX6_writePageOut_45 : decode cX6_writePageOut 45 = .ok (.iload_n 1, 1) := by decide +kernel
theorem dX6_writePageOut_46 : decode cX6_writePageOut 46 = .ok (.invokevirtual 142, 3) := by decide +kernel
theorem dX6_writePageOut_49 : decode cX6_writePageOut 49 = .ok (.invokevirtual 91, 3) := by decide +kernel
theorem dX6_writePageOut_52 : decode cX6_writePageOut 52 = .ok (.istore_n 2, 1) := by decide +kernel
theorem dX6_writePageOut_53 : decode cX6_writePageOut 53 = .ok (.aload_n 0, 1) := by decide +kernel
theorem dX6_writePageOut_54 : decode cX6_writePageOut 54 = .ok (.getfield 12, 3) := by decide +kernel
theorem dX6_writePageOut_57 : decode cX6_writePageOut 57 = .ok (.iload_n 1, 1) := by decide +kernel
theorem dX6_writePageOut_58 : decode cX6_writePageOut 58 = .ok (.invokevirtual 145, 3) := by decide +kernel
theorem dX6_writePageOut_61 : decode cX6_writePageOut 61 = .ok (.iload_n 2, 1) := by decide +kernel
theorem dX6_writePageOut_62 : decode cX6_writePageOut 62 = .ok (.ireturn, 1) := by decide +kernel
theorem dX6_dropPageOut_0 : decode cX6_dropPageOut 0 = .ok (.iload_n 1, 1) := by decide +kernel
theorem dX6_dropPageOut_1 : decode cX6_dropPageOut 1 = .ok (.ifCond .lt 9, 3) := by decide +kernel
theorem dX6_dropPageOut_4 : decode cX6_dropPageOut 4 = .ok (.iload_n 1, 1) := by decide +kernel
theorem dX6_dropPageOut_5 : decode cX6_dropPageOut 5 = .ok (.bipush 8, 2) := by decide +kernel
theorem dX6_dropPageOut_7 : decode cX6_dropPageOut 7 = .ok (.if_icmp .lt 6, 3) := by decide +kernel
theorem dX6_dropPageOut_10 : decode cX6_dropPageOut 10 = .ok (.ldc 50, 2) := by decide +kernel
theorem dX6_dropPageOut_12 : decode cX6_dropPageOut 12 = .ok (.ireturn, 1) := by decide +kernel
theorem dX6_dropPageOut_13 : decode cX6_dropPageOut 13 = .ok (.aload_n 0, 1) := by decide +kernel
theorem dX6_dropPageOut_14 : decode cX6_dropPageOut 14 = .ok (.getfield 12, 3) := by decide +kernel
theorem dX6_dropPageOut_17 : decode cX6_dropPageOut 17 = .ok (.getfield 148, 3) := by decide +kernel
theorem dX6_dropPageOut_20 : decode cX6_dropPageOut 20 = .ok (.aload_n 0, 1) := by decide +kernel
theorem dX6_dropPageOut_21 : decode cX6_dropPageOut 21 = .ok (.getfield 12, 3) := by decide +kernel
theorem dX6_dropPageOut_24 : decode cX6_dropPageOut 24 = .ok (.getfield 139, 3) := by decide +kernel
theorem dX6_dropPageOut_27 : decode cX6_dropPageOut 27 = .ok (.iconst (-1), 1) := by decide +kernel
theorem dX6_dropPageOut_28 : decode cX6_dropPageOut 28 = .ok (.ixor, 1) := by decide +kernel
theorem dX6_dropPageOut_29 : decode cX6_dropPageOut 29 = .ok (.iand, 1) := by decide +kernel
theorem dX6_dropPageOut_30 : decode cX6_dropPageOut 30 = .ok (.istore_n 2, 1) := by decide +kernel
theorem dX6_dropPageOut_31 : decode cX6_dropPageOut 31 = .ok (.aload_n 0, 1) := by decide +kernel
theorem dX6_dropPageOut_32 : decode cX6_dropPageOut 32 = .ok (.getfield 42, 3) := by decide +kernel
theorem dX6_dropPageOut_35 : decode cX6_dropPageOut 35 = .ok (.ifCond .ne 11, 3) := by decide +kernel
theorem dX6_dropPageOut_38 : decode cX6_dropPageOut 38 = .ok (.iload_n 2, 1) := by decide +kernel
theorem dX6_dropPageOut_39 : decode cX6_dropPageOut 39 = .ok (.iload_n 1, 1) := by decide +kernel
theorem dX6_dropPageOut_40 : decode cX6_dropPageOut 40 = .ok (.ishr, 1) := by decide +kernel
theorem dX6_dropPageOut_41 : decode cX6_dropPageOut 41 = .ok (.iconst 1, 1) := by decide +kernel
theorem dX6_dropPageOut_42 : decode cX6_dropPageOut 42 = .ok (.iand, 1) := by decide +kernel
theorem dX6_dropPageOut_43 : decode cX6_dropPageOut 43 = .ok (.ifCond .ne 6, 3) := by decide +kernel
theorem dX6_dropPageOut_46 : decode cX6_dropPageOut 46 = .ok (.ldc 55, 2) := by decide +kernel
theorem dX6_dropPageOut_48 : decode cX6_dropPageOut 48 = .ok (.ireturn, 1) := by decide +kernel
theorem dX6_dropPageOut_49 : decode cX6_dropPageOut 49 = .ok (.aload_n 0, 1) := by decide +kernel
theorem dX6_dropPageOut_50 : decode cX6_dropPageOut 50 = .ok (.getfield 12, 3) := by decide +kernel
theorem dX6_dropPageOut_53 : decode cX6_dropPageOut 53 = .ok (.dup, 1) := by decide +kernel
theorem dX6_dropPageOut_54 : decode cX6_dropPageOut 54 = .ok (.getfield 148, 3) := by decide +kernel
theorem dX6_dropPageOut_57 : decode cX6_dropPageOut 57 = .ok (.iconst 1, 1) := by decide +kernel
theorem dX6_dropPageOut_58 : decode cX6_dropPageOut 58 = .ok (.iload_n 1, 1) := by decide +kernel
theorem dX6_dropPageOut_59 : decode cX6_dropPageOut 59 = .ok (.ishl, 1) := by decide +kernel
theorem dX6_dropPageOut_60 : decode cX6_dropPageOut 60 = .ok (.iconst (-1), 1) := by decide +kernel
theorem dX6_dropPageOut_61 : decode cX6_dropPageOut 61 = .ok (.ixor, 1) := by decide +kernel
theorem dX6_dropPageOut_62 : decode cX6_dropPageOut 62 = .ok (.iand, 1) := by decide +kernel
theorem dX6_dropPageOut_63 : decode cX6_dropPageOut 63 = .ok (.putfield 148, 3) := by decide +kernel
theorem dX6_dropPageOut_66 : decode cX6_dropPageOut 66 = .ok (.aload_n 0, 1) := by decide +kernel
theorem dX6_dropPageOut_67 : decode cX6_dropPageOut 67 = .ok (.getfield 12, 3) := by decide +kernel
theorem dX6_dropPageOut_70 : decode cX6_dropPageOut 70 = .ok (.getfield 148, 3) := by decide +kernel
theorem dX6_dropPageOut_73 : decode cX6_dropPageOut 73 = .ok (.invokestatic 101, 3) := by decide +kernel
theorem dX6_dropPageOut_76 : decode cX6_dropPageOut 76 = .ok (.ireturn, 1) := by decide +kernel
theorem dX6_makeCheckpoint_0 : decode cX6_makeCheckpoint 0 = .ok (.aload_n 0, 1) := by decide +kernel
theorem dX6_makeCheckpoint_1 : decode cX6_makeCheckpoint 1 = .ok (.getfield 42, 3) := by decide +kernel
theorem dX6_makeCheckpoint_4 : decode cX6_makeCheckpoint 4 = .ok (.ifCond .eq 6, 3) := by decide +kernel
theorem dX6_makeCheckpoint_7 : decode cX6_makeCheckpoint 7 = .ok (.ldc 55, 2) := by decide +kernel
theorem dX6_makeCheckpoint_9 : decode cX6_makeCheckpoint 9 = .ok (.ireturn, 1) := by decide +kernel
theorem dX6_makeCheckpoint_10 : decode cX6_makeCheckpoint 10 = .ok (.aload_n 0, 1) := by decide +kernel
theorem dX6_makeCheckpoint_11 : decode cX6_makeCheckpoint 11 = .ok (.getfield 28, 3) := by decide +kernel
theorem dX6_makeCheckpoint_14 : decode cX6_makeCheckpoint 14 = .ok (.invokevirtual 56, 3) := by decide +kernel
theorem dX6_makeCheckpoint_17 : decode cX6_makeCheckpoint 17 = .ok (.ifCond .eq 6, 3) := by decide +kernel
theorem dX6_makeCheckpoint_20 : decode cX6_makeCheckpoint 20 = .ok (.ldc 60, 2) := by decide +kernel
theorem dX6_makeCheckpoint_22 : decode cX6_makeCheckpoint 22 = .ok (.ireturn, 1) := by decide +kernel
theorem dX6_makeCheckpoint_23 : decode cX6_makeCheckpoint 23 = .ok (.aload_n 0, 1) := by decide +kernel
theorem dX6_makeCheckpoint_24 : decode cX6_makeCheckpoint 24 = .ok (.getfield 28, 3) := by decide +kernel
theorem dX6_makeCheckpoint_27 : decode cX6_makeCheckpoint 27 = .ok (.aload_n 0, 1) := by decide +kernel
theorem dX6_makeCheckpoint_28 : decode cX6_makeCheckpoint 28 = .ok (.getfield 21, 3) := by decide +kernel
theorem dX6_makeCheckpoint_31 : decode cX6_makeCheckpoint 31 = .ok (.aload_n 0, 1) := by decide +kernel
theorem dX6_makeCheckpoint_32 : decode cX6_makeCheckpoint 32 = .ok (.getfield 12, 3) := by decide +kernel
theorem dX6_makeCheckpoint_35 : decode cX6_makeCheckpoint 35 = .ok (.invokevirtual 151, 3) := by decide +kernel
theorem dX6_makeCheckpoint_38 : decode cX6_makeCheckpoint 38 = .ok (.ireturn, 1) := by decide +kernel
theorem dX6_dropOldRecords_0 : decode cX6_dropOldRecords 0 = .ok (.aload_n 0, 1) := by decide +kernel
theorem dX6_dropOldRecords_1 : decode cX6_dropOldRecords 1 = .ok (.getfield 42, 3) := by decide +kernel
theorem dX6_dropOldRecords_4 : decode cX6_dropOldRecords 4 = .ok (.ifCond .ne 13, 3) := by decide +kernel
theorem dX6_dropOldRecords_7 : decode cX6_dropOldRecords 7 = .ok (.aload_n 0, 1) := by decide +kernel
theorem dX6_dropOldRecords_8 : decode cX6_dropOldRecords 8 = .ok (.getfield 28, 3) := by decide +kernel
theorem dX6_dropOldRecords_11 : decode cX6_dropOldRecords 11 = .ok (.getfield 155, 3) := by decide +kernel
theorem dX6_dropOldRecords_14 : decode cX6_dropOldRecords 14 = .ok (.ifCond .ne 6, 3) := by decide +kernel
theorem dX6_dropOldRecords_17 : decode cX6_dropOldRecords 17 = .ok (.ldc 55, 2) := by decide +kernel
theorem dX6_dropOldRecords_19 : decode cX6_dropOldRecords 19 = .ok (.ireturn, 1) := by decide +kernel
theorem dX6_dropOldRecords_20 : decode cX6_dropOldRecords 20 = .ok (.aload_n 0, 1) := by decide +kernel
theorem dX6_dropOldRecords_21 : decode cX6_dropOldRecords 21 = .ok (.getfield 28, 3) := by decide +kernel
theorem dX6_dropOldRecords_24 : decode cX6_dropOldRecords 24 = .ok (.invokevirtual 158, 3) := by decide +kernel
theorem dX6_dropOldRecords_27 : decode cX6_dropOldRecords 27 = .ok (.ireturn, 1) := by decide +kernel
theorem dX6_forceAll_0 : decode cX6_forceAll 0 = .ok (.aload_n 0, 1) := by decide +kernel
theorem dX6_forceAll_1 : decode cX6_forceAll 1 = .ok (.getfield 42, 3) := by decide +kernel
theorem dX6_forceAll_4 : decode cX6_forceAll 4 = .ok (.ifCond .eq 8, 3) := by decide +kernel
theorem dX6_forceAll_7 : decode cX6_forceAll 7 = .ok (.ldc 55, 2) := by decide +kernel
theorem dX6_forceAll_9 : decode cX6_forceAll 9 = .ok (.goto 17, 3) := by decide +kernel
theorem dX6_forceAll_12 : decode cX6_forceAll 12 = .ok (.aload_n 0, 1) := by decide +kernel
theorem dX6_forceAll_13 : decode cX6_forceAll 13 = .ok (.getfield 28, 3) := by decide +kernel
theorem dX6_forceAll_16 : decode cX6_forceAll 16 = .ok (.aload_n 0, 1) := by decide +kernel
theorem dX6_forceAll_17 : decode cX6_forceAll 17 = .ok (.getfield 28, 3) := by decide +kernel
theorem dX6_forceAll_20 : decode cX6_forceAll 20 = .ok (.invokevirtual 112, 3) := by decide +kernel
theorem dX6_forceAll_23 : decode cX6_forceAll 23 = .ok (.invokevirtual 91, 3) := by decide +kernel
theorem dX6_forceAll_26 : decode cX6_forceAll 26 = .ok (.ireturn, 1) := by decide +kernel
theorem dX6_stopStore_0 : decode cX6_stopStore 0 = .ok (.iload_n 1, 1) := by decide +kernel
theorem dX6_stopStore_1 : decode cX6_stopStore 1 = .ok (.ifCond .lt 8, 3) := by decide +kernel
theorem dX6_stopStore_4 : decode cX6_stopStore 4 = .ok (.iload_n 1, 1) := by decide +kernel
theorem dX6_stopStore_5 : decode cX6_stopStore 5 = .ok (.iconst 1, 1) := by decide +kernel
theorem dX6_stopStore_6 : decode cX6_stopStore 6 = .ok (.if_icmp .le 6, 3) := by decide +kernel
theorem dX6_stopStore_9 : decode cX6_stopStore 9 = .ok (.ldc 50, 2) := by decide +kernel
theorem dX6_stopStore_11 : decode cX6_stopStore 11 = .ok (.ireturn, 1) := by decide +kernel
theorem dX6_stopStore_12 : decode cX6_stopStore 12 = .ok (.aload_n 0, 1) := by decide +kernel
theorem dX6_stopStore_13 : decode cX6_stopStore 13 = .ok (.getfield 42, 3) := by decide +kernel
theorem dX6_stopStore_16 : decode cX6_stopStore 16 = .ok (.ifCond .eq 6, 3) := by decide +kernel
theorem dX6_stopStore_19 : decode cX6_stopStore 19 = .ok (.ldc 55, 2) := by decide +kernel
theorem dX6_stopStore_21 : decode cX6_stopStore 21 = .ok (.ireturn, 1) := by decide +kernel
theorem dX6_stopStore_22 : decode cX6_stopStore 22 = .ok (.aload_n 0, 1) := by decide +kernel
theorem dX6_stopStore_23 : decode cX6_stopStore 23 = .ok (.getfield 28, 3) := by decide +kernel
theorem dX6_stopStore_26 : decode cX6_stopStore 26 = .ok (.iload_n 1, 1) := by decide +kernel
theorem dX6_stopStore_27 : decode cX6_stopStore 27 = .ok (.iconst 1, 1) := by decide +kernel
theorem dX6_stopStore_28 : decode cX6_stopStore 28 = .ok (.if_icmp .ne 7, 3) := by decide +kernel
theorem dX6_stopStore_31 : decode cX6_stopStore 31 = .ok (.iconst 1, 1) := by decide +kernel
theorem dX6_stopStore_32 : decode cX6_stopStore 32 = .ok (.goto 4, 3) := by decide +kernel
theorem dX6_stopStore_35 : decode cX6_stopStore 35 = .ok (.iconst 0, 1) := by decide +kernel
theorem dX6_stopStore_36 : decode cX6_stopStore 36 = .ok (.aload_n 0, 1) := by decide +kernel
theorem dX6_stopStore_37 : decode cX6_stopStore 37 = .ok (.getfield 12, 3) := by decide +kernel
theorem dX6_stopStore_40 : decode cX6_stopStore 40 = .ok (.invokevirtual 161, 3) := by decide +kernel
theorem dX6_stopStore_43 : decode cX6_stopStore 43 = .ok (.invokevirtual 164, 3) := by decide +kernel
theorem dX6_stopStore_46 : decode cX6_stopStore 46 = .ok (.istore_n 2, 1) := by decide +kernel
theorem dX6_stopStore_47 : decode cX6_stopStore 47 = .ok (.aload_n 0, 1) := by decide +kernel
theorem dX6_stopStore_48 : decode cX6_stopStore 48 = .ok (.getfield 12, 3) := by decide +kernel
theorem dX6_stopStore_51 : decode cX6_stopStore 51 = .ok (.invokevirtual 168, 3) := by decide +kernel
theorem dX6_stopStore_54 : decode cX6_stopStore 54 = .ok (.aload_n 0, 1) := by decide +kernel
theorem dX6_stopStore_55 : decode cX6_stopStore 55 = .ok (.getfield 21, 3) := by decide +kernel
theorem dX6_stopStore_58 : decode cX6_stopStore 58 = .ok (.iconst 0, 1) := by decide +kernel
theorem dX6_stopStore_59 : decode cX6_stopStore 59 = .ok (.putfield 171, 3) := by decide +kernel
theorem dX6_stopStore_62 : decode cX6_stopStore 62 = .ok (.aload_n 0, 1) := by decide +kernel
theorem dX6_stopStore_63 : decode cX6_stopStore 63 = .ok (.iconst 1, 1) := by decide +kernel
theorem dX6_stopStore_64 : decode cX6_stopStore 64 = .ok (.putfield 42, 3) := by decide +kernel
theorem dX6_stopStore_67 : decode cX6_stopStore 67 = .ok (.iload_n 2, 1) := by decide +kernel
theorem dX6_stopStore_68 : decode cX6_stopStore 68 = .ok (.ireturn, 1) := by decide +kernel
theorem dX7_init_0 : decode cX7_init 0 = .ok (.aload_n 0, 1) := by decide +kernel
theorem dX7_init_1 : decode cX7_init 1 = .ok (.invokespecial 1, 3) := by decide +kernel
theorem dX7_init_4 : decode cX7_init 4 = .ok (.aload_n 0, 1) := by decide +kernel
theorem dX7_init_5 : decode cX7_init 5 = .ok (.new 7, 3) := by decide +kernel
theorem dX7_init_8 : decode cX7_init 8 = .ok (.dup, 1) := by decide +kernel
theorem dX7_init_9 : decode cX7_init 9 = .ok (.invokespecial 9, 3) := by decide +kernel
theorem dX7_init_12 : decode cX7_init 12 = .ok (.putfield 10, 3) := by decide +kernel
theorem dX7_init_15 : decode cX7_init 15 = .ok (.aload_n 0, 1) := by decide +kernel
theorem dX7_init_16 : decode cX7_init 16 = .ok (.new 7, 3) := by decide +kernel
theorem dX7_init_19 : decode cX7_init 19 = .ok (.dup, 1) := by decide +kernel
theorem dX7_init_20 : decode cX7_init 20 = .ok (.invokespecial 9, 3) := by decide +kernel
theorem dX7_init_23 : decode cX7_init 23 = .ok (.putfield 16, 3) := by decide +kernel
theorem dX7_init_26 : decode cX7_init 26 = .ok (.aload_n 0, 1) := by decide +kernel
theorem dX7_init_27 : decode cX7_init 27 = .ok (.new 19, 3) := by decide +kernel
theorem dX7_init_30 : decode cX7_init 30 = .ok (.dup, 1) := by decide +kernel
theorem dX7_init_31 : decode cX7_init 31 = .ok (.invokespecial 21, 3) := by decide +kernel
theorem dX7_init_34 : decode cX7_init 34 = .ok (.putfield 22, 3) := by decide +kernel
theorem dX7_init_37 : decode cX7_init 37 = .ok (.aload_n 0, 1) := by decide +kernel
theorem dX7_init_38 : decode cX7_init 38 = .ok (.new 26, 3) := by decide +kernel
theorem dX7_init_41 : decode cX7_init 41 = .ok (.dup, 1) := by decide +kernel
theorem dX7_init_42 : decode cX7_init 42 = .ok (.invokespecial 28, 3) := by decide +kernel
theorem dX7_init_45 : decode cX7_init 45 = .ok (.putfield 29, 3) := by decide +kernel
theorem dX7_init_48 : decode cX7_init 48 = .ok (.aload_n 0, 1) := by decide +kernel
theorem dX7_init_49 : decode cX7_init 49 = .ok (.new 33, 3) := by decide +kernel
theorem dX7_init_52 : decode cX7_init 52 = .ok (.dup, 1) := by decide +kernel
theorem dX7_init_53 : decode cX7_init 53 = .ok (.invokespecial 35, 3) := by decide +kernel
theorem dX7_init_56 : decode cX7_init 56 = .ok (.putfield 36, 3) := by decide +kernel
theorem dX7_init_59 : decode cX7_init 59 = .ok (.return_, 1) := by decide +kernel
theorem dX7_begin_0 : decode cX7_begin 0 = .ok (.aload_n 0, 1) := by decide +kernel
theorem dX7_begin_1 : decode cX7_begin 1 = .ok (.getfield 29, 3) := by decide +kernel
theorem dX7_begin_4 : decode cX7_begin 4 = .ok (.aload_n 0, 1) := by decide +kernel
theorem dX7_begin_5 : decode cX7_begin 5 = .ok (.getfield 10, 3) := by decide +kernel
theorem dX7_begin_8 : decode cX7_begin 8 = .ok (.invokevirtual 40, 3) := by decide +kernel
theorem dX7_begin_11 : decode cX7_begin 11 = .ok (.aload_n 0, 1) := by decide +kernel
theorem dX7_begin_12 : decode cX7_begin 12 = .ok (.getfield 29, 3) := by decide +kernel
theorem dX7_begin_15 : decode cX7_begin 15 = .ok (.aload_n 0, 1) := by decide +kernel
theorem dX7_begin_16 : decode cX7_begin 16 = .ok (.getfield 10, 3) := by decide +kernel
theorem dX7_begin_19 : decode cX7_begin 19 = .ok (.iload_n 1, 1) := by decide +kernel
theorem dX7_begin_20 : decode cX7_begin 20 = .ok (.invokevirtual 44, 3) := by decide +kernel
theorem dX7_begin_23 : decode cX7_begin 23 = .ok (.invokevirtual 48, 3) := by decide +kernel
theorem dX7_begin_26 : decode cX7_begin 26 = .ok (.ireturn, 1) := by decide +kernel
theorem dX7_write_0 : decode cX7_write 0 = .ok (.aload_n 0, 1) := by decide +kernel
theorem dX7_write_1 : decode cX7_write 1 = .ok (.getfield 29, 3) := by decide +kernel
theorem dX7_write_4 : decode cX7_write 4 = .ok (.aload_n 0, 1) := by decide +kernel
theorem dX7_write_5 : decode cX7_write 5 = .ok (.getfield 10, 3) := by decide +kernel
theorem dX7_write_8 : decode cX7_write 8 = .ok (.invokevirtual 40, 3) := by decide +kernel
theorem dX7_write_11 : decode cX7_write 11 = .ok (.aload_n 0, 1) := by decide +kernel
theorem dX7_write_12 : decode cX7_write 12 = .ok (.getfield 29, 3) := by decide +kernel
theorem dX7_write_15 : decode cX7_write 15 = .ok (.aload_n 0, 1) := by decide +kernel
theorem dX7_write_16 : decode cX7_write 16 = .ok (.getfield 10, 3) := by decide +kernel
theorem dX7_write_19 : decode cX7_write 19 = .ok (.iload_n 1, 1) := by decide +kernel
theorem dX7_write_20 : decode cX7_write 20 = .ok (.iload_n 2, 1) := by decide +kernel
theorem dX7_write_21 : decode cX7_write 21 = .ok (.iload_n 3, 1) := by decide +kernel
theorem dX7_write_22 : decode cX7_write 22 = .ok (.invokevirtual 51, 3) := by decide +kernel
theorem dX7_write_25 : decode cX7_write 25 = .ok (.invokevirtual 48, 3) := by decide +kernel
theorem dX7_write_28 : decode cX7_write 28 = .ok (.ireturn, 1) := by decide +kernel
theorem dX7_settle_0 : decode cX7_settle 0 = .ok (.aload_n 0, 1) := by decide +kernel
theorem dX7_settle_1 : decode cX7_settle 1 = .ok (.getfield 29, 3) := by decide +kernel
theorem dX7_settle_4 : decode cX7_settle 4 = .ok (.aload_n 0, 1) := by decide +kernel
theorem dX7_settle_5 : decode cX7_settle 5 = .ok (.getfield 10, 3) := by decide +kernel
theorem dX7_settle_8 : decode cX7_settle 8 = .ok (.invokevirtual 40, 3) := by decide +kernel
theorem dX7_settle_11 : decode cX7_settle 11 = .ok (.aload_n 0, 1) := by decide +kernel
theorem dX7_settle_12 : decode cX7_settle 12 = .ok (.getfield 29, 3) := by decide +kernel
theorem dX7_settle_15 : decode cX7_settle 15 = .ok (.aload_n 0, 1) := by decide +kernel
theorem dX7_settle_16 : decode cX7_settle 16 = .ok (.getfield 10, 3) := by decide +kernel
theorem dX7_settle_19 : decode cX7_settle 19 = .ok (.iload_n 1, 1) := by decide +kernel
theorem dX7_settle_20 : decode cX7_settle 20 = .ok (.invokevirtual 55, 3) := by decide +kernel
theorem dX7_settle_23 : decode cX7_settle 23 = .ok (.invokevirtual 48, 3) := by decide +kernel
theorem dX7_settle_26 : decode cX7_settle 26 = .ok (.ireturn, 1) := by decide +kernel
theorem dX7_takeBack_0 : decode cX7_takeBack 0 = .ok (.aload_n 0, 1) := by decide +kernel
theorem dX7_takeBack_1 : decode cX7_takeBack 1 = .ok (.getfield 29, 3) := by decide +kernel
theorem dX7_takeBack_4 : decode cX7_takeBack 4 = .ok (.aload_n 0, 1) := by decide +kernel
theorem dX7_takeBack_5 : decode cX7_takeBack 5 = .ok (.getfield 10, 3) := by decide +kernel
theorem dX7_takeBack_8 : decode cX7_takeBack 8 = .ok (.invokevirtual 40, 3) := by decide +kernel
theorem dX7_takeBack_11 : decode cX7_takeBack 11 = .ok (.aload_n 0, 1) := by decide +kernel
theorem dX7_takeBack_12 : decode cX7_takeBack 12 = .ok (.getfield 29, 3) := by decide +kernel
theorem dX7_takeBack_15 : decode cX7_takeBack 15 = .ok (.aload_n 0, 1) := by decide +kernel
theorem dX7_takeBack_16 : decode cX7_takeBack 16 = .ok (.getfield 10, 3) := by decide +kernel
theorem dX7_takeBack_19 : decode cX7_takeBack 19 = .ok (.iload_n 1, 1) := by decide +kernel
theorem dX7_takeBack_20 : decode cX7_takeBack 20 = .ok (.invokevirtual 58, 3) := by decide +kernel
theorem dX7_takeBack_23 : decode cX7_takeBack 23 = .ok (.invokevirtual 48, 3) := by decide +kernel
theorem dX7_takeBack_26 : decode cX7_takeBack 26 = .ok (.ireturn, 1) := by decide +kernel
theorem dX7_writeOut_0 : decode cX7_writeOut 0 = .ok (.aload_n 0, 1) := by decide +kernel
theorem dX7_writeOut_1 : decode cX7_writeOut 1 = .ok (.getfield 29, 3) := by decide +kernel
theorem dX7_writeOut_4 : decode cX7_writeOut 4 = .ok (.aload_n 0, 1) := by decide +kernel
theorem dX7_writeOut_5 : decode cX7_writeOut 5 = .ok (.getfield 10, 3) := by decide +kernel
theorem dX7_writeOut_8 : decode cX7_writeOut 8 = .ok (.invokevirtual 40, 3) := by decide +kernel
theorem dX7_writeOut_11 : decode cX7_writeOut 11 = .ok (.aload_n 0, 1) := by decide +kernel
theorem dX7_writeOut_12 : decode cX7_writeOut 12 = .ok (.getfield 29, 3) := by decide +kernel
theorem dX7_writeOut_15 : decode cX7_writeOut 15 = .ok (.aload_n 0, 1) := by decide +kernel
theorem dX7_writeOut_16 : decode cX7_writeOut 16 = .ok (.getfield 10, 3) := by decide +kernel
theorem dX7_writeOut_19 : decode cX7_writeOut 19 = .ok (.iload_n 1, 1) := by decide +kernel
theorem dX7_writeOut_20 : decode cX7_writeOut 20 = .ok (.invokevirtual 61, 3) := by decide +kernel
theorem dX7_writeOut_23 : decode cX7_writeOut 23 = .ok (.invokevirtual 48, 3) := by decide +kernel
theorem dX7_writeOut_26 : decode cX7_writeOut 26 = .ok (.ireturn, 1) := by decide +kernel
theorem dX7_dropOut_0 : decode cX7_dropOut 0 = .ok (.aload_n 0, 1) := by decide +kernel
theorem dX7_dropOut_1 : decode cX7_dropOut 1 = .ok (.getfield 29, 3) := by decide +kernel
theorem dX7_dropOut_4 : decode cX7_dropOut 4 = .ok (.aload_n 0, 1) := by decide +kernel
theorem dX7_dropOut_5 : decode cX7_dropOut 5 = .ok (.getfield 10, 3) := by decide +kernel
theorem dX7_dropOut_8 : decode cX7_dropOut 8 = .ok (.invokevirtual 40, 3) := by decide +kernel
theorem dX7_dropOut_11 : decode cX7_dropOut 11 = .ok (.aload_n 0, 1) := by decide +kernel
theorem dX7_dropOut_12 : decode cX7_dropOut 12 = .ok (.getfield 29, 3) := by decide +kernel
theorem dX7_dropOut_15 : decode cX7_dropOut 15 = .ok (.aload_n 0, 1) := by decide +kernel
theorem dX7_dropOut_16 : decode cX7_dropOut 16 = .ok (.getfield 10, 3) := by decide +kernel
theorem dX7_dropOut_19 : decode cX7_dropOut 19 = .ok (.iload_n 1, 1) := by decide +kernel
theorem dX7_dropOut_20 : decode cX7_dropOut 20 = .ok (.invokevirtual 64, 3) := by decide +kernel
theorem dX7_dropOut_23 : decode cX7_dropOut 23 = .ok (.invokevirtual 48, 3) := by decide +kernel
theorem dX7_dropOut_26 : decode cX7_dropOut 26 = .ok (.ireturn, 1) := by decide +kernel
theorem dX7_checkpoint_0 : decode cX7_checkpoint 0 = .ok (.aload_n 0, 1) := by decide +kernel
theorem dX7_checkpoint_1 : decode cX7_checkpoint 1 = .ok (.getfield 29, 3) := by decide +kernel
theorem dX7_checkpoint_4 : decode cX7_checkpoint 4 = .ok (.aload_n 0, 1) := by decide +kernel
theorem dX7_checkpoint_5 : decode cX7_checkpoint 5 = .ok (.getfield 10, 3) := by decide +kernel
theorem dX7_checkpoint_8 : decode cX7_checkpoint 8 = .ok (.invokevirtual 40, 3) := by decide +kernel
theorem dX7_checkpoint_11 : decode cX7_checkpoint 11 = .ok (.aload_n 0, 1) := by decide +kernel
theorem dX7_checkpoint_12 : decode cX7_checkpoint 12 = .ok (.getfield 29, 3) := by decide +kernel
theorem dX7_checkpoint_15 : decode cX7_checkpoint 15 = .ok (.aload_n 0, 1) := by decide +kernel
theorem dX7_checkpoint_16 : decode cX7_checkpoint 16 = .ok (.getfield 10, 3) := by decide +kernel
theorem dX7_checkpoint_19 : decode cX7_checkpoint 19 = .ok (.invokevirtual 67, 3) := by decide +kernel
theorem dX7_checkpoint_22 : decode cX7_checkpoint 22 = .ok (.invokevirtual 48, 3) := by decide +kernel
theorem dX7_checkpoint_25 : decode cX7_checkpoint 25 = .ok (.ireturn, 1) := by decide +kernel
theorem dX7_dropRecords_0 : decode cX7_dropRecords 0 = .ok (.aload_n 0, 1) := by decide +kernel
theorem dX7_dropRecords_1 : decode cX7_dropRecords 1 = .ok (.getfield 29, 3) := by decide +kernel
theorem dX7_dropRecords_4 : decode cX7_dropRecords 4 = .ok (.aload_n 0, 1) := by decide +kernel
theorem dX7_dropRecords_5 : decode cX7_dropRecords 5 = .ok (.getfield 10, 3) := by decide +kernel
theorem dX7_dropRecords_8 : decode cX7_dropRecords 8 = .ok (.invokevirtual 40, 3) := by decide +kernel
theorem dX7_dropRecords_11 : decode cX7_dropRecords 11 = .ok (.aload_n 0, 1) := by decide +kernel
theorem dX7_dropRecords_12 : decode cX7_dropRecords 12 = .ok (.getfield 29, 3) := by decide +kernel
theorem dX7_dropRecords_15 : decode cX7_dropRecords 15 = .ok (.aload_n 0, 1) := by decide +kernel
theorem dX7_dropRecords_16 : decode cX7_dropRecords 16 = .ok (.getfield 10, 3) := by decide +kernel
theorem dX7_dropRecords_19 : decode cX7_dropRecords 19 = .ok (.invokevirtual 71, 3) := by decide +kernel
theorem dX7_dropRecords_22 : decode cX7_dropRecords 22 = .ok (.invokevirtual 48, 3) := by decide +kernel
theorem dX7_dropRecords_25 : decode cX7_dropRecords 25 = .ok (.ireturn, 1) := by decide +kernel
theorem dX7_force_0 : decode cX7_force 0 = .ok (.aload_n 0, 1) := by decide +kernel
theorem dX7_force_1 : decode cX7_force 1 = .ok (.getfield 29, 3) := by decide +kernel
theorem dX7_force_4 : decode cX7_force 4 = .ok (.aload_n 0, 1) := by decide +kernel
theorem dX7_force_5 : decode cX7_force 5 = .ok (.getfield 10, 3) := by decide +kernel
theorem dX7_force_8 : decode cX7_force 8 = .ok (.invokevirtual 40, 3) := by decide +kernel
theorem dX7_force_11 : decode cX7_force 11 = .ok (.aload_n 0, 1) := by decide +kernel
theorem dX7_force_12 : decode cX7_force 12 = .ok (.getfield 29, 3) := by decide +kernel
theorem dX7_force_15 : decode cX7_force 15 = .ok (.aload_n 0, 1) := by decide +kernel
theorem dX7_force_16 : decode cX7_force 16 = .ok (.getfield 10, 3) := by decide +kernel
theorem dX7_force_19 : decode cX7_force 19 = .ok (.invokevirtual 74, 3) := by decide +kernel
theorem dX7_force_22 : decode cX7_force 22 = .ok (.invokevirtual 48, 3) := by decide +kernel
theorem dX7_force_25 : decode cX7_force 25 = .ok (.ireturn, 1) := by decide +kernel
theorem dX7_stop_0 : decode cX7_stop 0 = .ok (.aload_n 0, 1) := by decide +kernel
theorem dX7_stop_1 : decode cX7_stop 1 = .ok (.getfield 29, 3) := by decide +kernel
theorem dX7_stop_4 : decode cX7_stop 4 = .ok (.aload_n 0, 1) := by decide +kernel
theorem dX7_stop_5 : decode cX7_stop 5 = .ok (.getfield 10, 3) := by decide +kernel
theorem dX7_stop_8 : decode cX7_stop 8 = .ok (.invokevirtual 40, 3) := by decide +kernel
theorem dX7_stop_11 : decode cX7_stop 11 = .ok (.aload_n 0, 1) := by decide +kernel
theorem dX7_stop_12 : decode cX7_stop 12 = .ok (.getfield 29, 3) := by decide +kernel
theorem dX7_stop_15 : decode cX7_stop 15 = .ok (.aload_n 0, 1) := by decide +kernel
theorem dX7_stop_16 : decode cX7_stop 16 = .ok (.getfield 10, 3) := by decide +kernel
theorem dX7_stop_19 : decode cX7_stop 19 = .ok (.iload_n 1, 1) := by decide +kernel
theorem dX7_stop_20 : decode cX7_stop 20 = .ok (.invokevirtual 77, 3) := by decide +kernel
theorem dX7_stop_23 : decode cX7_stop 23 = .ok (.invokevirtual 48, 3) := by decide +kernel
theorem dX7_stop_26 : decode cX7_stop 26 = .ok (.ireturn, 1) := by decide +kernel
theorem dX7_restart_0 : decode cX7_restart 0 = .ok (.aload_n 0, 1) := by decide +kernel
theorem dX7_restart_1 : decode cX7_restart 1 = .ok (.getfield 29, 3) := by decide +kernel
theorem dX7_restart_4 : decode cX7_restart 4 = .ok (.aload_n 0, 1) := by decide +kernel
theorem dX7_restart_5 : decode cX7_restart 5 = .ok (.getfield 10, 3) := by decide +kernel
theorem dX7_restart_8 : decode cX7_restart 8 = .ok (.invokevirtual 40, 3) := by decide +kernel
theorem dX7_restart_11 : decode cX7_restart 11 = .ok (.aload_n 0, 1) := by decide +kernel
theorem dX7_restart_12 : decode cX7_restart 12 = .ok (.getfield 29, 3) := by decide +kernel
theorem dX7_restart_15 : decode cX7_restart 15 = .ok (.aload_n 0, 1) := by decide +kernel
theorem dX7_restart_16 : decode cX7_restart 16 = .ok (.getfield 22, 3) := by decide +kernel
theorem dX7_restart_19 : decode cX7_restart 19 = .ok (.aload_n 0, 1) := by decide +kernel
theorem dX7_restart_20 : decode cX7_restart 20 = .ok (.getfield 10, 3) := by decide +kernel
theorem dX7_restart_23 : decode cX7_restart 23 = .ok (.invokevirtual 80, 3) := by decide +kernel
theorem dX7_restart_26 : decode cX7_restart 26 = .ok (.invokevirtual 48, 3) := by decide +kernel
theorem dX7_restart_29 : decode cX7_restart 29 = .ok (.ireturn, 1) := by decide +kernel
theorem dX7_pageOf_0 : decode cX7_pageOf 0 = .ok (.iload_n 1, 1) := by decide +kernel
theorem dX7_pageOf_1 : decode cX7_pageOf 1 = .ok (.ifCond .lt 19, 3) := by decide +kernel
theorem dX7_pageOf_4 : decode cX7_pageOf 4 = .ok (.iload_n 1, 1) := by decide +kernel
theorem dX7_pageOf_5 : decode cX7_pageOf 5 = .ok (.bipush 8, 2) := by decide +kernel
theorem dX7_pageOf_7 : decode cX7_pageOf 7 = .ok (.if_icmp .ge 13, 3) := by decide +kernel
theorem dX7_pageOf_10 : decode cX7_pageOf 10 = .ok (.iload_n 2, 1) := by decide +kernel
theorem dX7_pageOf_11 : decode cX7_pageOf 11 = .ok (.ifCond .lt 9, 3) := by decide +kernel
theorem dX7_pageOf_14 : decode cX7_pageOf 14 = .ok (.iload_n 2, 1) := by decide +kernel
theorem dX7_pageOf_15 : decode cX7_pageOf 15 = .ok (.bipush 8, 2) := by decide +kernel
theorem dX7_pageOf_17 : decode cX7_pageOf 17 = .ok (.if_icmp .le 6, 3) := by decide +kernel
theorem dX7_pageOf_20 : decode cX7_pageOf 20 = .ok (.ldc 84, 2) := by decide +kernel
theorem dX7_pageOf_22 : decode cX7_pageOf 22 = .ok (.ireturn, 1) := by decide +kernel
theorem dX7_pageOf_23 : decode cX7_pageOf 23 = .ok (.iload_n 2, 1) := by decide +kernel
theorem dX7_pageOf_24 : decode cX7_pageOf 24 = .ok (.lookupswitch 52 #[(7, 28), (8, 40)], 28) := by decide +kernel
theorem dX7_pageOf_52 : decode cX7_pageOf 52 = .ok (.aload_n 0, 1) := by decide +kernel
theorem dX7_pageOf_53 : decode cX7_pageOf 53 = .ok (.getfield 10, 3) := by decide +kernel
theorem dX7_pageOf_56 : decode cX7_pageOf 56 = .ok (.getfield 85, 3) := by decide +kernel
theorem dX7_pageOf_59 : decode cX7_pageOf 59 = .ok (.iload_n 1, 1) := by decide +kernel
theorem dX7_pageOf_60 : decode cX7_pageOf 60 = .ok (.invokevirtual 89, 3) := by decide +kernel
theorem dX7_pageOf_63 : decode cX7_pageOf 63 = .ok (.ireturn, 1) := by decide +kernel
theorem dX7_pageOf_64 : decode cX7_pageOf 64 = .ok (.aload_n 0, 1) := by decide +kernel
theorem dX7_pageOf_65 : decode cX7_pageOf 65 = .ok (.getfield 10, 3) := by decide +kernel
theorem dX7_pageOf_68 : decode cX7_pageOf 68 = .ok (.getfield 94, 3) := by decide +kernel
theorem dX7_pageOf_71 : decode cX7_pageOf 71 = .ok (.iload_n 1, 1) := by decide +kernel
theorem dX7_pageOf_72 : decode cX7_pageOf 72 = .ok (.invokevirtual 98, 3) := by decide +kernel
theorem dX7_pageOf_75 : decode cX7_pageOf 75 = .ok (.ireturn, 1) := by decide +kernel
theorem dX7_pageOf_76 : decode cX7_pageOf 76 = .ok (.aload_n 0, 1) := by decide +kernel
theorem dX7_pageOf_77 : decode cX7_pageOf 77 = .ok (.getfield 10, 3) := by decide +kernel
theorem dX7_pageOf_80 : decode cX7_pageOf 80 = .ok (.getfield 103, 3) := by decide +kernel
theorem dX7_pageOf_83 : decode cX7_pageOf 83 = .ok (.iload_n 1, 1) := by decide +kernel
theorem dX7_pageOf_84 : decode cX7_pageOf 84 = .ok (.iload_n 2, 1) := by decide +kernel
theorem dX7_pageOf_85 : decode cX7_pageOf 85 = .ok (.invokevirtual 107, 3) := by decide +kernel
theorem dX7_pageOf_88 : decode cX7_pageOf 88 = .ok (.ireturn, 1) := by decide +kernel
theorem dX7_recordOf_0 : decode cX7_recordOf 0 = .ok (.iload_n 1, 1) := by decide +kernel
theorem dX7_recordOf_1 : decode cX7_recordOf 1 = .ok (.iconst 1, 1) := by decide +kernel
theorem dX7_recordOf_2 : decode cX7_recordOf 2 = .ok (.if_icmp .lt 13, 3) := by decide +kernel
theorem dX7_recordOf_5 : decode cX7_recordOf 5 = .ok (.iload_n 2, 1) := by decide +kernel
theorem dX7_recordOf_6 : decode cX7_recordOf 6 = .ok (.ifCond .lt 9, 3) := by decide +kernel
theorem dX7_recordOf_9 : decode cX7_recordOf 9 = .ok (.iload_n 2, 1) := by decide +kernel
theorem dX7_recordOf_10 : decode cX7_recordOf 10 = .ok (.bipush 8, 2) := by decide +kernel
theorem dX7_recordOf_12 : decode cX7_recordOf 12 = .ok (.if_icmp .le 6, 3) := by decide +kernel
theorem dX7_recordOf_15 : decode cX7_recordOf 15 = .ok (.ldc 84, 2) := by decide +kernel
theorem dX7_recordOf_17 : decode cX7_recordOf 17 = .ok (.ireturn, 1) := by decide +kernel
theorem dX7_recordOf_18 : decode cX7_recordOf 18 = .ok (.aload_n 0, 1) := by decide +kernel
theorem dX7_recordOf_19 : decode cX7_recordOf 19 = .ok (.getfield 10, 3) := by decide +kernel
theorem dX7_recordOf_22 : decode cX7_recordOf 22 = .ok (.getfield 94, 3) := by decide +kernel
theorem dX7_recordOf_25 : decode cX7_recordOf 25 = .ok (.iload_n 1, 1) := by decide +kernel
theorem dX7_recordOf_26 : decode cX7_recordOf 26 = .ok (.iload_n 2, 1) := by decide +kernel
theorem dX7_recordOf_27 : decode cX7_recordOf 27 = .ok (.invokevirtual 113, 3) := by decide +kernel
theorem dX7_recordOf_30 : decode cX7_recordOf 30 = .ok (.ireturn, 1) := by decide +kernel
theorem dX7_groupOf_0 : decode cX7_groupOf 0 = .ok (.iload_n 1, 1) := by decide +kernel
theorem dX7_groupOf_1 : decode cX7_groupOf 1 = .ok (.ifCond .lt 17, 3) := by decide +kernel
theorem dX7_groupOf_4 : decode cX7_groupOf 4 = .ok (.iload_n 1, 1) := by decide +kernel
theorem dX7_groupOf_5 : decode cX7_groupOf 5 = .ok (.iconst 4, 1) := by decide +kernel
theorem dX7_groupOf_6 : decode cX7_groupOf 6 = .ok (.if_icmp .ge 12, 3) := by decide +kernel
theorem dX7_groupOf_9 : decode cX7_groupOf 9 = .ok (.iload_n 2, 1) := by decide +kernel
theorem dX7_groupOf_10 : decode cX7_groupOf 10 = .ok (.ifCond .lt 8, 3) := by decide +kernel
theorem dX7_groupOf_13 : decode cX7_groupOf 13 = .ok (.iload_n 2, 1) := by decide +kernel
theorem dX7_groupOf_14 : decode cX7_groupOf 14 = .ok (.iconst 3, 1) := by decide +kernel
theorem dX7_groupOf_15 : decode cX7_groupOf 15 = .ok (.if_icmp .le 6, 3) := by decide +kernel
theorem dX7_groupOf_18 : decode cX7_groupOf 18 = .ok (.ldc 84, 2) := by decide +kernel
theorem dX7_groupOf_20 : decode cX7_groupOf 20 = .ok (.ireturn, 1) := by decide +kernel
theorem dX7_groupOf_21 : decode cX7_groupOf 21 = .ok (.aload_n 0, 1) := by decide +kernel
theorem dX7_groupOf_22 : decode cX7_groupOf 22 = .ok (.getfield 10, 3) := by decide +kernel
theorem dX7_groupOf_25 : decode cX7_groupOf 25 = .ok (.getfield 85, 3) := by decide +kernel
theorem dX7_groupOf_28 : decode cX7_groupOf 28 = .ok (.iload_n 1, 1) := by decide +kernel
theorem dX7_groupOf_29 : decode cX7_groupOf 29 = .ok (.iload_n 2, 1) := by decide +kernel
theorem dX7_groupOf_30 : decode cX7_groupOf 30 = .ok (.invokevirtual 114, 3) := by decide +kernel
theorem dX7_groupOf_33 : decode cX7_groupOf 33 = .ok (.ireturn, 1) := by decide +kernel
theorem dX7_would_0 : decode cX7_would 0 = .ok (.iload_n 2, 1) := by decide +kernel
theorem dX7_would_1 : decode cX7_would 1 = .ok (.bipush 10, 2) := by decide +kernel
theorem dX7_would_3 : decode cX7_would 3 = .ok (.if_icmp .lt 13, 3) := by decide +kernel
theorem dX7_would_6 : decode cX7_would 6 = .ok (.iload_n 2, 1) := by decide +kernel
theorem dX7_would_7 : decode cX7_would 7 = .ok (.bipush 18, 2) := by decide +kernel
theorem dX7_would_9 : decode cX7_would 9 = .ok (.if_icmp .ge 7, 3) := by decide +kernel
theorem dX7_would_12 : decode cX7_would 12 = .ok (.iconst 1, 1) := by decide +kernel
theorem dX7_would_13 : decode cX7_would 13 = .ok (.goto 4, 3) := by decide +kernel
theorem dX7_would_16 : decode cX7_would 16 = .ok (.iconst 0, 1) := by decide +kernel
theorem dX7_would_17 : decode cX7_would 17 = .ok (.istore_n 3, 1) := by decide +kernel
theorem dX7_would_18 : decode cX7_would 18 = .ok (.iload_n 1, 1) := by decide +kernel
theorem dX7_would_19 : decode cX7_would 19 = .ok (.ifCond .lt 21, 3) := by decide +kernel
theorem dX7_would_22 : decode cX7_would 22 = .ok (.iload_n 1, 1) := by decide +kernel
theorem dX7_would_23 : decode cX7_would 23 = .ok (.iconst 1, 1) := by decide +kernel
theorem dX7_would_24 : decode cX7_would 24 = .ok (.if_icmp .gt 16, 3) := by decide +kernel
theorem dX7_would_27 : decode cX7_would 27 = .ok (.iload_n 2, 1) := by decide +kernel
theorem dX7_would_28 : decode cX7_would 28 = .ok (.ifCond .lt 12, 3) := by decide +kernel
theorem dX7_would_31 : decode cX7_would 31 = .ok (.iload_n 2, 1) := by decide +kernel
theorem dX7_would_32 : decode cX7_would 32 = .ok (.iconst 4, 1) := by decide +kernel
theorem dX7_would_33 : decode cX7_would 33 = .ok (.if_icmp .le 10, 3) := by decide +kernel
theorem dX7_would_36 : decode cX7_would 36 = .ok (.iload_n 3, 1) := by decide +kernel
theorem dX7_would_37 : decode cX7_would 37 = .ok (.ifCond .ne 6, 3) := by decide +kernel
theorem dX7_would_40 : decode cX7_would 40 = .ok (.ldc 84, 2) := by decide +kernel
theorem dX7_would_42 : decode cX7_would 42 = .ok (.ireturn, 1) := by decide +kernel
theorem dX7_would_43 : decode cX7_would 43 = .ok (.aload_n 0, 1) := by decide +kernel
theorem dX7_would_44 : decode cX7_would 44 = .ok (.getfield 10, 3) := by decide +kernel
theorem dX7_would_47 : decode cX7_would 47 = .ok (.getfield 115, 3) := by decide +kernel
theorem dX7_would_50 : decode cX7_would 50 = .ok (.ifCond .eq 6, 3) := by decide +kernel
theorem dX7_would_53 : decode cX7_would 53 = .ok (.ldc 119, 2) := by decide +kernel
theorem dX7_would_55 : decode cX7_would 55 = .ok (.ireturn, 1) := by decide +kernel
theorem dX7_would_56 : decode cX7_would 56 = .ok (.aload_n 0, 1) := by decide +kernel
theorem dX7_would_57 : decode cX7_would 57 = .ok (.getfield 16, 3) := by decide +kernel
theorem dX7_would_60 : decode cX7_would 60 = .ok (.aload_n 0, 1) := by decide +kernel
theorem dX7_would_61 : decode cX7_would 61 = .ok (.getfield 10, 3) := by decide +kernel
theorem dX7_would_64 : decode cX7_would 64 = .ok (.invokevirtual 120, 3) := by decide +kernel
theorem dX7_would_67 : decode cX7_would 67 = .ok (.aload_n 0, 1) := by decide +kernel
theorem dX7_would_68 : decode cX7_would 68 = .ok (.getfield 16, 3) := by decide +kernel
theorem dX7_would_71 : decode cX7_would 71 = .ok (.iload_n 1, 1) := by decide +kernel
theorem dX7_would_72 : decode cX7_would 72 = .ok (.invokevirtual 77, 3) := by decide +kernel
theorem dX7_would_75 : decode cX7_would 75 = .ok (.istore 4, 2) := by decide +kernel
theorem dX7_would_77 : decode cX7_would 77 = .ok (.aload_n 0, 1) := by decide +kernel
theorem dX7_would_78 : decode cX7_would 78 = .ok (.getfield 22, 3) := by decide +kernel
theorem dX7_would_81 : decode cX7_would 81 = .ok (.aload_n 0, 1) := by decide +kernel
theorem dX7_would_82 : decode cX7_would 82 = .ok (.getfield 16, 3) := by decide +kernel
theorem dX7_would_85 : decode cX7_would 85 = .ok (.invokevirtual 80, 3) := by decide +kernel
theorem dX7_would_88 : decode cX7_would 88 = .ok (.pop, 1) := by decide +kernel
theorem dX7_would_89 : decode cX7_would 89 = .ok (.iload_n 3, 1) := by decide +kernel
theorem dX7_would_90 : decode cX7_would 90 = .ok (.ifCond .eq 18, 3) := by decide +kernel
theorem dX7_would_93 : decode cX7_would 93 = .ok (.aload_n 0, 1) := by decide +kernel
theorem dX7_would_94 : decode cX7_would 94 = .ok (.getfield 16, 3) := by decide +kernel
theorem dX7_would_97 : decode cX7_would 97 = .ok (.getfield 103, 3) := by decide +kernel
theorem dX7_would_100 : decode cX7_would 100 = .ok (.iload_n 2, 1) := by decide +kernel
theorem dX7_would_101 : decode cX7_would 101 = .ok (.bipush 10, 2) := by decide +kernel
theorem dX7_would_103 : decode cX7_would 103 = .ok (.isub, 1) := by decide +kernel
theorem dX7_would_104 : decode cX7_would 104 = .ok (.invokevirtual 123, 3) := by decide +kernel
theorem dX7_would_107 : decode cX7_would 107 = .ok (.ireturn, 1) := by decide +kernel
theorem dX7_would_108 : decode cX7_would 108 = .ok (.iload_n 2, 1) := by decide +kernel
theorem dX7_would_109 : decode cX7_would 109 = .ok (.ifCond .ne 8, 3) := by decide +kernel
theorem dX7_would_112 : decode cX7_would 112 = .ok (.iload 4, 2) := by decide +kernel
theorem dX7_would_114 : decode cX7_would 114 = .ok (.goto 11, 3) := by decide +kernel
theorem dX7_would_117 : decode cX7_would 117 = .ok (.aload_n 0, 1) := by decide +kernel
theorem dX7_would_118 : decode cX7_would 118 = .ok (.getfield 22, 3) := by decide +kernel
theorem dX7_would_121 : decode cX7_would 121 = .ok (.iload_n 2, 1) := by decide +kernel
theorem dX7_would_122 : decode cX7_would 122 = .ok (.invokevirtual 126, 3) := by decide +kernel
theorem dX7_would_125 : decode cX7_would 125 = .ok (.ireturn, 1) := by decide +kernel
theorem dX7_count_0 : decode cX7_count 0 = .ok (.iload_n 1, 1) := by decide +kernel
theorem dX7_count_1 : decode cX7_count 1 = .ok (.tableswitch 124 4 12 #[51, 62, 73, 84, 124, 124, 100, 108, 116], 51) := by decide +kernel
theorem dX7_count_52 : decode cX7_count 52 = .ok (.aload_n 0, 1) := by decide +kernel
theorem dX7_count_53 : decode cX7_count 53 = .ok (.getfield 10, 3) := by decide +kernel
theorem dX7_count_56 : decode cX7_count 56 = .ok (.getfield 85, 3) := by decide +kernel
theorem dX7_count_59 : decode cX7_count 59 = .ok (.getfield 128, 3) := by decide +kernel
theorem dX7_count_62 : decode cX7_count 62 = .ok (.ireturn, 1) := by decide +kernel
theorem dX7_count_63 : decode cX7_count 63 = .ok (.aload_n 0, 1) := by decide +kernel
theorem dX7_count_64 : decode cX7_count 64 = .ok (.getfield 10, 3) := by decide +kernel
theorem dX7_count_67 : decode cX7_count 67 = .ok (.getfield 103, 3) := by decide +kernel
theorem dX7_count_70 : decode cX7_count 70 = .ok (.getfield 132, 3) := by decide +kernel
theorem dX7_count_73 : decode cX7_count 73 = .ok (.ireturn, 1) := by decide +kernel
theorem dX7_count_74 : decode cX7_count 74 = .ok (.aload_n 0, 1) := by decide +kernel
theorem dX7_count_75 : decode cX7_count 75 = .ok (.getfield 10, 3) := by decide +kernel
theorem dX7_count_78 : decode cX7_count 78 = .ok (.getfield 103, 3) := by decide +kernel
theorem dX7_count_81 : decode cX7_count 81 = .ok (.getfield 135, 3) := by decide +kernel
theorem dX7_count_84 : decode cX7_count 84 = .ok (.ireturn, 1) := by decide +kernel
theorem dX7_count_85 : decode cX7_count 85 = .ok (.aload_n 0, 1) := by decide +kernel
theorem dX7_count_86 : decode cX7_count 86 = .ok (.getfield 10, 3) := by decide +kernel
theorem dX7_count_89 : decode cX7_count 89 = .ok (.getfield 115, 3) := by decide +kernel
theorem dX7_count_92 : decode cX7_count 92 = .ok (.ifCond .eq 7, 3) := by decide +kernel
theorem dX7_count_95 : decode cX7_count 95 = .ok (.iconst 1, 1) := by decide +kernel
theorem dX7_count_96 : decode cX7_count 96 = .ok (.goto 4, 3) := by decide +kernel
theorem dX7_count_99 : decode cX7_count 99 = .ok (.iconst 0, 1) := by decide +kernel
theorem dX7_count_100 : decode cX7_count 100 = .ok (.ireturn, 1) := by decide +kernel
theorem dX7_count_101 : decode cX7_count 101 = .ok (.aload_n 0, 1) := by decide +kernel
theorem dX7_count_102 : decode cX7_count 102 = .ok (.getfield 10, 3) := by decide +kernel
theorem dX7_count_105 : decode cX7_count 105 = .ok (.getfield 138, 3) := by decide +kernel
theorem dX7_count_108 : decode cX7_count 108 = .ok (.ireturn, 1) := by decide +kernel
theorem dX7_count_109 : decode cX7_count 109 = .ok (.aload_n 0, 1) := by decide +kernel
theorem dX7_count_110 : decode cX7_count 110 = .ok (.getfield 29, 3) := by decide +kernel
theorem dX7_count_113 : decode cX7_count 113 = .ok (.getfield 141, 3) := by decide +kernel
theorem dX7_count_116 : decode cX7_count 116 = .ok (.ireturn, 1) := by decide +kernel
theorem dX7_count_117 : decode cX7_count 117 = .ok (.aload_n 0, 1) := by decide +kernel
theorem dX7_count_118 : decode cX7_count 118 = .ok (.getfield 36, 3) := by decide +kernel
theorem dX7_count_121 : decode cX7_count 121 = .ok (.getfield 144, 3) := by decide +kernel
theorem dX7_count_124 : decode cX7_count 124 = .ok (.ireturn, 1) := by decide +kernel
theorem dX7_count_125 : decode cX7_count 125 = .ok (.aload_n 0, 1) := by decide +kernel
theorem dX7_count_126 : decode cX7_count 126 = .ok (.getfield 10, 3) := by decide +kernel
theorem dX7_count_129 : decode cX7_count 129 = .ok (.getfield 94, 3) := by decide +kernel
theorem dX7_count_132 : decode cX7_count 132 = .ok (.iload_n 1, 1) := by decide +kernel
theorem dX7_count_133 : decode cX7_count 133 = .ok (.invokevirtual 147, 3) := by decide +kernel
theorem dX7_count_136 : decode cX7_count 136 = .ok (.ireturn, 1) := by decide +kernel
theorem dJ6_bitCount_0f7a4_0 : decode cJ6_bitCount_0f7a4 0 = .ok (.iload_n 0, 1) := by decide +kernel
theorem dJ6_bitCount_0f7a4_1 : decode cJ6_bitCount_0f7a4 1 = .ok (.iload_n 0, 1) := by decide +kernel
theorem dJ6_bitCount_0f7a4_2 : decode cJ6_bitCount_0f7a4 2 = .ok (.iconst 1, 1) := by decide +kernel
theorem dJ6_bitCount_0f7a4_3 : decode cJ6_bitCount_0f7a4 3 = .ok (.iushr, 1) := by decide +kernel
theorem dJ6_bitCount_0f7a4_4 : decode cJ6_bitCount_0f7a4 4 = .ok (.ldc_w 265, 3) := by decide +kernel
theorem dJ6_bitCount_0f7a4_7 : decode cJ6_bitCount_0f7a4 7 = .ok (.iand, 1) := by decide +kernel
theorem dJ6_bitCount_0f7a4_8 : decode cJ6_bitCount_0f7a4 8 = .ok (.isub, 1) := by decide +kernel
theorem dJ6_bitCount_0f7a4_9 : decode cJ6_bitCount_0f7a4 9 = .ok (.istore_n 0, 1) := by decide +kernel
theorem dJ6_bitCount_0f7a4_10 : decode cJ6_bitCount_0f7a4 10 = .ok (.iload_n 0, 1) := by decide +kernel
theorem dJ6_bitCount_0f7a4_11 : decode cJ6_bitCount_0f7a4 11 = .ok (.ldc_w 266, 3) := by decide +kernel
theorem dJ6_bitCount_0f7a4_14 : decode cJ6_bitCount_0f7a4 14 = .ok (.iand, 1) := by decide +kernel
theorem dJ6_bitCount_0f7a4_15 : decode cJ6_bitCount_0f7a4 15 = .ok (.iload_n 0, 1) := by decide +kernel
theorem dJ6_bitCount_0f7a4_16 : decode cJ6_bitCount_0f7a4 16 = .ok (.iconst 2, 1) := by decide +kernel
theorem dJ6_bitCount_0f7a4_17 : decode cJ6_bitCount_0f7a4 17 = .ok (.iushr, 1) := by decide +kernel
theorem dJ6_bitCount_0f7a4_18 : decode cJ6_bitCount_0f7a4 18 = .ok (.ldc_w 266, 3) := by decide +kernel
theorem dJ6_bitCount_0f7a4_21 : decode cJ6_bitCount_0f7a4 21 = .ok (.iand, 1) := by decide +kernel
theorem dJ6_bitCount_0f7a4_22 : decode cJ6_bitCount_0f7a4 22 = .ok (.iadd, 1) := by decide +kernel
theorem dJ6_bitCount_0f7a4_23 : decode cJ6_bitCount_0f7a4 23 = .ok (.istore_n 0, 1) := by decide +kernel
theorem dJ6_bitCount_0f7a4_24 : decode cJ6_bitCount_0f7a4 24 = .ok (.iload_n 0, 1) := by decide +kernel
theorem dJ6_bitCount_0f7a4_25 : decode cJ6_bitCount_0f7a4 25 = .ok (.iload_n 0, 1) := by decide +kernel
theorem dJ6_bitCount_0f7a4_26 : decode cJ6_bitCount_0f7a4 26 = .ok (.iconst 4, 1) := by decide +kernel
theorem dJ6_bitCount_0f7a4_27 : decode cJ6_bitCount_0f7a4 27 = .ok (.iushr, 1) := by decide +kernel
theorem dJ6_bitCount_0f7a4_28 : decode cJ6_bitCount_0f7a4 28 = .ok (.iadd, 1) := by decide +kernel
theorem dJ6_bitCount_0f7a4_29 : decode cJ6_bitCount_0f7a4 29 = .ok (.ldc_w 267, 3) := by decide +kernel
theorem dJ6_bitCount_0f7a4_32 : decode cJ6_bitCount_0f7a4 32 = .ok (.iand, 1) := by decide +kernel
theorem dJ6_bitCount_0f7a4_33 : decode cJ6_bitCount_0f7a4 33 = .ok (.istore_n 0, 1) := by decide +kernel
theorem dJ6_bitCount_0f7a4_34 : decode cJ6_bitCount_0f7a4 34 = .ok (.iload_n 0, 1) := by decide +kernel
theorem dJ6_bitCount_0f7a4_35 : decode cJ6_bitCount_0f7a4 35 = .ok (.iload_n 0, 1) := by decide +kernel
theorem dJ6_bitCount_0f7a4_36 : decode cJ6_bitCount_0f7a4 36 = .ok (.bipush 8, 2) := by decide +kernel
theorem dJ6_bitCount_0f7a4_38 : decode cJ6_bitCount_0f7a4 38 = .ok (.iushr, 1) := by decide +kernel
theorem dJ6_bitCount_0f7a4_39 : decode cJ6_bitCount_0f7a4 39 = .ok (.iadd, 1) := by decide +kernel
theorem dJ6_bitCount_0f7a4_40 : decode cJ6_bitCount_0f7a4 40 = .ok (.istore_n 0, 1) := by decide +kernel
theorem dJ6_bitCount_0f7a4_41 : decode cJ6_bitCount_0f7a4 41 = .ok (.iload_n 0, 1) := by decide +kernel
theorem dJ6_bitCount_0f7a4_42 : decode cJ6_bitCount_0f7a4 42 = .ok (.iload_n 0, 1) := by decide +kernel
theorem dJ6_bitCount_0f7a4_43 : decode cJ6_bitCount_0f7a4 43 = .ok (.bipush 16, 2) := by decide +kernel
theorem dJ6_bitCount_0f7a4_45 : decode cJ6_bitCount_0f7a4 45 = .ok (.iushr, 1) := by decide +kernel
theorem dJ6_bitCount_0f7a4_46 : decode cJ6_bitCount_0f7a4 46 = .ok (.iadd, 1) := by decide +kernel
theorem dJ6_bitCount_0f7a4_47 : decode cJ6_bitCount_0f7a4 47 = .ok (.istore_n 0, 1) := by decide +kernel
theorem dJ6_bitCount_0f7a4_48 : decode cJ6_bitCount_0f7a4 48 = .ok (.iload_n 0, 1) := by decide +kernel
theorem dJ6_bitCount_0f7a4_49 : decode cJ6_bitCount_0f7a4 49 = .ok (.bipush 63, 2) := by decide +kernel
theorem dJ6_bitCount_0f7a4_51 : decode cJ6_bitCount_0f7a4 51 = .ok (.iand, 1) := by decide +kernel
theorem dJ6_bitCount_0f7a4_52 : decode cJ6_bitCount_0f7a4 52 = .ok (.ireturn, 1) := by decide +kernel
theorem dJ9_floorMod_7cf53_0 : decode cJ9_floorMod_7cf53 0 = .ok (.iload_n 0, 1) := by decide +kernel
theorem dJ9_floorMod_7cf53_1 : decode cJ9_floorMod_7cf53 1 = .ok (.iload_n 1, 1) := by decide +kernel
theorem dJ9_floorMod_7cf53_2 : decode cJ9_floorMod_7cf53 2 = .ok (.irem, 1) := by decide +kernel
theorem dJ9_floorMod_7cf53_3 : decode cJ9_floorMod_7cf53 3 = .ok (.istore_n 2, 1) := by decide +kernel
theorem dJ9_floorMod_7cf53_4 : decode cJ9_floorMod_7cf53 4 = .ok (.iload_n 0, 1) := by decide +kernel
theorem dJ9_floorMod_7cf53_5 : decode cJ9_floorMod_7cf53 5 = .ok (.iload_n 1, 1) := by decide +kernel
theorem dJ9_floorMod_7cf53_6 : decode cJ9_floorMod_7cf53 6 = .ok (.ixor, 1) := by decide +kernel
theorem dJ9_floorMod_7cf53_7 : decode cJ9_floorMod_7cf53 7 = .ok (.ifCond .ge 11, 3) := by decide +kernel
theorem dJ9_floorMod_7cf53_10 : decode cJ9_floorMod_7cf53 10 = .ok (.iload_n 2, 1) := by decide +kernel
theorem dJ9_floorMod_7cf53_11 : decode cJ9_floorMod_7cf53 11 = .ok (.ifCond .eq 7, 3) := by decide +kernel
theorem dJ9_floorMod_7cf53_14 : decode cJ9_floorMod_7cf53 14 = .ok (.iload_n 2, 1) := by decide +kernel
theorem dJ9_floorMod_7cf53_15 : decode cJ9_floorMod_7cf53 15 = .ok (.iload_n 1, 1) := by decide +kernel
theorem dJ9_floorMod_7cf53_16 : decode cJ9_floorMod_7cf53 16 = .ok (.iadd, 1) := by decide +kernel
theorem dJ9_floorMod_7cf53_17 : decode cJ9_floorMod_7cf53 17 = .ok (.ireturn, 1) := by decide +kernel
theorem dJ9_floorMod_7cf53_18 : decode cJ9_floorMod_7cf53 18 = .ok (.iload_n 2, 1) := by decide +kernel
theorem dJ9_floorMod_7cf53_19 : decode cJ9_floorMod_7cf53 19 = .ok (.ireturn, 1) := by decide +kernel
theorem dJ9_max_7cf53_0 : decode cJ9_max_7cf53 0 = .ok (.iload_n 0, 1) := by decide +kernel
theorem dJ9_max_7cf53_1 : decode cJ9_max_7cf53 1 = .ok (.iload_n 1, 1) := by decide +kernel
theorem dJ9_max_7cf53_2 : decode cJ9_max_7cf53 2 = .ok (.if_icmp .lt 7, 3) := by decide +kernel
theorem dJ9_max_7cf53_5 : decode cJ9_max_7cf53 5 = .ok (.iload_n 0, 1) := by decide +kernel
theorem dJ9_max_7cf53_6 : decode cJ9_max_7cf53 6 = .ok (.goto 4, 3) := by decide +kernel
theorem dJ9_max_7cf53_9 : decode cJ9_max_7cf53 9 = .ok (.iload_n 1, 1) := by decide +kernel
theorem dJ9_max_7cf53_10 : decode cJ9_max_7cf53 10 = .ok (.ireturn, 1) := by decide +kernel
theorem dJ9_min_7cf53_0 : decode cJ9_min_7cf53 0 = .ok (.iload_n 0, 1) := by decide +kernel
theorem dJ9_min_7cf53_1 : decode cJ9_min_7cf53 1 = .ok (.iload_n 1, 1) := by decide +kernel
theorem dJ9_min_7cf53_2 : decode cJ9_min_7cf53 2 = .ok (.if_icmp .gt 7, 3) := by decide +kernel
theorem dJ9_min_7cf53_5 : decode cJ9_min_7cf53 5 = .ok (.iload_n 0, 1) := by decide +kernel
theorem dJ9_min_7cf53_6 : decode cJ9_min_7cf53 6 = .ok (.goto 4, 3) := by decide +kernel
theorem dJ9_min_7cf53_9 : decode cJ9_min_7cf53 9 = .ok (.iload_n 1, 1) := by decide +kernel
theorem dJ9_min_7cf53_10 : decode cJ9_min_7cf53 10 = .ok (.ireturn, 1) := by decide +kernel
theorem dL_cell_0 : decode cL_cell 0 = .ok (.iload_n 1, 1) := by decide +kernel
theorem dL_cell_1 : decode cL_cell 1 = .ok (.aload_n 0, 1) := by decide +kernel
theorem dL_cell_2 : decode cL_cell 2 = .ok (.arraylength, 1) := by decide +kernel
theorem dL_cell_3 : decode cL_cell 3 = .ok (.if_icmp .ge 9, 3) := by decide +kernel
theorem dL_cell_6 : decode cL_cell 6 = .ok (.aload_n 0, 1) := by decide +kernel
theorem dL_cell_7 : decode cL_cell 7 = .ok (.iload_n 1, 1) := by decide +kernel
theorem dL_cell_8 : decode cL_cell 8 = .ok (.iaload, 1) := by decide +kernel
theorem dL_cell_9 : decode cL_cell 9 = .ok (.goto 9, 3) := by decide +kernel
theorem dL_cell_12 : decode cL_cell 12 = .ok (.ldc 7, 2) := by decide +kernel
theorem dL_cell_14 : decode cL_cell 14 = .ok (.iload_n 1, 1) := by decide +kernel
theorem dL_cell_15 : decode cL_cell 15 = .ok (.iconst 3, 1) := by decide +kernel
theorem dL_cell_16 : decode cL_cell 16 = .ok (.iadd, 1) := by decide +kernel
theorem dL_cell_17 : decode cL_cell 17 = .ok (.imul, 1) := by decide +kernel
theorem dL_cell_18 : decode cL_cell 18 = .ok (.ireturn, 1) := by decide +kernel
theorem dL_low_0 : decode cL_low 0 = .ok (.iload_n 0, 1) := by decide +kernel
theorem dL_low_1 : decode cL_low 1 = .ok (.ldc 8, 2) := by decide +kernel
theorem dL_low_3 : decode cL_low 3 = .ok (.iand, 1) := by decide +kernel
theorem dL_low_4 : decode cL_low 4 = .ok (.iload_n 1, 1) := by decide +kernel
theorem dL_low_5 : decode cL_low 5 = .ok (.irem, 1) := by decide +kernel
theorem dL_low_6 : decode cL_low 6 = .ok (.ireturn, 1) := by decide +kernel
theorem dL_of_0 : decode cL_of 0 = .ok (.iload_n 3, 1) := by decide +kernel
theorem dL_of_1 : decode cL_of 1 = .ok (.ifCond .ne 7, 3) := by decide +kernel
theorem dL_of_4 : decode cL_of 4 = .ok (.iconst 0, 1) := by decide +kernel
theorem dL_of_5 : decode cL_of 5 = .ok (.goto 65, 3) := by decide +kernel
theorem dL_of_8 : decode cL_of 8 = .ok (.iload_n 3, 1) := by decide +kernel
theorem dL_of_9 : decode cL_of 9 = .ok (.iconst 1, 1) := by decide +kernel
theorem dL_of_10 : decode cL_of 10 = .ok (.if_icmp .ne 7, 3) := by decide +kernel
theorem dL_of_13 : decode cL_of 13 = .ok (.iconst 3, 1) := by decide +kernel
theorem dL_of_14 : decode cL_of 14 = .ok (.goto 56, 3) := by decide +kernel
theorem dL_of_17 : decode cL_of 17 = .ok (.iload_n 3, 1) := by decide +kernel
theorem dL_of_18 : decode cL_of 18 = .ok (.iconst 2, 1) := by decide +kernel
theorem dL_of_19 : decode cL_of 19 = .ok (.if_icmp .ne 8, 3) := by decide +kernel
theorem dL_of_22 : decode cL_of 22 = .ok (.bipush 6, 2) := by decide +kernel
theorem dL_of_24 : decode cL_of 24 = .ok (.goto 46, 3) := by decide +kernel
theorem dL_of_27 : decode cL_of 27 = .ok (.iload_n 3, 1) := by decide +kernel
theorem dL_of_28 : decode cL_of 28 = .ok (.iconst 3, 1) := by decide +kernel
theorem dL_of_29 : decode cL_of 29 = .ok (.if_icmp .ne 8, 3) := by decide +kernel
theorem dL_of_32 : decode cL_of 32 = .ok (.bipush 9, 2) := by decide +kernel
theorem dL_of_34 : decode cL_of 34 = .ok (.goto 36, 3) := by decide +kernel
theorem dL_of_37 : decode cL_of 37 = .ok (.iload_n 3, 1) := by decide +kernel
theorem dL_of_38 : decode cL_of 38 = .ok (.iconst 4, 1) := by decide +kernel
theorem dL_of_39 : decode cL_of 39 = .ok (.if_icmp .ne 8, 3) := by decide +kernel
theorem dL_of_42 : decode cL_of 42 = .ok (.bipush 16, 2) := by decide +kernel
theorem dL_of_44 : decode cL_of 44 = .ok (.goto 26, 3) := by decide +kernel
theorem dL_of_47 : decode cL_of 47 = .ok (.iload_n 3, 1) := by decide +kernel
theorem dL_of_48 : decode cL_of 48 = .ok (.iconst 5, 1) := by decide +kernel
theorem dL_of_49 : decode cL_of 49 = .ok (.if_icmp .ne 8, 3) := by decide +kernel
theorem dL_of_52 : decode cL_of 52 = .ok (.bipush 23, 2) := by decide +kernel
theorem dL_of_54 : decode cL_of 54 = .ok (.goto 16, 3) := by decide +kernel
theorem dL_of_57 : decode cL_of 57 = .ok (.iload_n 3, 1) := by decide +kernel
theorem dL_of_58 : decode cL_of 58 = .ok (.bipush 6, 2) := by decide +kernel
theorem dL_of_60 : decode cL_of 60 = .ok (.if_icmp .ne 8, 3) := by decide +kernel
theorem dL_of_63 : decode cL_of 63 = .ok (.bipush 31, 2) := by decide +kernel
theorem dL_of_65 : decode cL_of 65 = .ok (.goto 5, 3) := by decide +kernel
theorem dL_of_68 : decode cL_of 68 = .ok (.bipush 35, 2) := by decide +kernel
theorem dL_of_70 : decode cL_of 70 = .ok (.istore 4, 2) := by decide +kernel
theorem dL_of_72 : decode cL_of 72 = .ok (.iload_n 3, 1) := by decide +kernel
theorem dL_of_73 : decode cL_of 73 = .ok (.iconst 3, 1) := by decide +kernel
theorem dL_of_74 : decode cL_of 74 = .ok (.if_icmp .ge 8, 3) := by decide +kernel
theorem dL_of_77 : decode cL_of 77 = .ok (.bipush 7, 2) := by decide +kernel
theorem dL_of_79 : decode cL_of 79 = .ok (.goto 27, 3) := by decide +kernel
theorem dL_of_82 : decode cL_of 82 = .ok (.iload_n 3, 1) := by decide +kernel
theorem dL_of_83 : decode cL_of 83 = .ok (.iconst 5, 1) := by decide +kernel
theorem dL_of_84 : decode cL_of 84 = .ok (.if_icmp .ge 8, 3) := by decide +kernel
theorem dL_of_87 : decode cL_of 87 = .ok (.bipush 127, 2) := by decide +kernel
theorem dL_of_89 : decode cL_of 89 = .ok (.goto 17, 3) := by decide +kernel
theorem dL_of_92 : decode cL_of 92 = .ok (.iload_n 3, 1) := by decide +kernel
theorem dL_of_93 : decode cL_of 93 = .ok (.bipush 6, 2) := by decide +kernel
theorem dL_of_95 : decode cL_of 95 = .ok (.if_icmp .ne 8, 3) := by decide +kernel
theorem dL_of_98 : decode cL_of 98 = .ok (.bipush 15, 2) := by decide +kernel
theorem dL_of_100 : decode cL_of 100 = .ok (.goto 6, 3) := by decide +kernel
theorem dL_of_103 : decode cL_of 103 = .ok (.sipush 255, 3) := by decide +kernel
theorem dL_of_106 : decode cL_of 106 = .ok (.istore 5, 2) := by decide +kernel
theorem dL_of_108 : decode cL_of 108 = .ok (.aload_n 0, 1) := by decide +kernel
theorem dL_of_109 : decode cL_of 109 = .ok (.iload_n 2, 1) := by decide +kernel
theorem dL_of_110 : decode cL_of 110 = .ok (.aload_n 1, 1) := by decide +kernel
theorem dL_of_111 : decode cL_of 111 = .ok (.iconst 0, 1) := by decide +kernel
theorem dL_of_112 : decode cL_of 112 = .ok (.iaload, 1) := by decide +kernel
theorem dL_of_113 : decode cL_of 113 = .ok (.isub, 1) := by decide +kernel
theorem dL_of_114 : decode cL_of 114 = .ok (.laload, 1) := by decide +kernel
theorem dL_of_115 : decode cL_of 115 = .ok (.iload 4, 2) := by decide +kernel
theorem dL_of_117 : decode cL_of 117 = .ok (.lshr, 1) := by decide +kernel
theorem dL_of_118 : decode cL_of 118 = .ok (.l2i, 1) := by decide +kernel
theorem dL_of_119 : decode cL_of 119 = .ok (.iload 5, 2) := by decide +kernel
theorem dL_of_121 : decode cL_of 121 = .ok (.iand, 1) := by decide +kernel
theorem dL_of_122 : decode cL_of 122 = .ok (.ireturn, 1) := by decide +kernel
theorem dL_last_0 : decode cL_last 0 = .ok (.aload_n 0, 1) := by decide +kernel
theorem dL_last_1 : decode cL_last 1 = .ok (.iconst 0, 1) := by decide +kernel
theorem dL_last_2 : decode cL_last 2 = .ok (.iaload, 1) := by decide +kernel
theorem dL_last_3 : decode cL_last 3 = .ok (.aload_n 0, 1) := by decide +kernel
theorem dL_last_4 : decode cL_last 4 = .ok (.iconst 1, 1) := by decide +kernel
theorem dL_last_5 : decode cL_last 5 = .ok (.iaload, 1) := by decide +kernel
theorem dL_last_6 : decode cL_last 6 = .ok (.iadd, 1) := by decide +kernel
theorem dL_last_7 : decode cL_last 7 = .ok (.iconst 1, 1) := by decide +kernel
theorem dL_last_8 : decode cL_last 8 = .ok (.isub, 1) := by decide +kernel
theorem dL_last_9 : decode cL_last 9 = .ok (.ireturn, 1) := by decide +kernel
theorem dL_add_0 : decode cL_add 0 = .ok (.aload_n 0, 1) := by decide +kernel
theorem dL_add_1 : decode cL_add 1 = .ok (.aload_n 1, 1) := by decide +kernel
theorem dL_add_2 : decode cL_add 2 = .ok (.iconst 1, 1) := by decide +kernel
theorem dL_add_3 : decode cL_add 3 = .ok (.iaload, 1) := by decide +kernel
theorem dL_add_4 : decode cL_add 4 = .ok (.iload_n 2, 1) := by decide +kernel
theorem dL_add_5 : decode cL_add 5 = .ok (.iload_n 3, 1) := by decide +kernel
theorem dL_add_6 : decode cL_add 6 = .ok (.iconst 3, 1) := by decide +kernel
theorem dL_add_7 : decode cL_add 7 = .ok (.ishl, 1) := by decide +kernel
theorem dL_add_8 : decode cL_add 8 = .ok (.ior, 1) := by decide +kernel
theorem dL_add_9 : decode cL_add 9 = .ok (.iload 4, 2) := by decide +kernel
theorem dL_add_11 : decode cL_add 11 = .ok (.bipush 6, 2) := by decide +kernel
theorem dL_add_13 : decode cL_add 13 = .ok (.ishl, 1) := by decide +kernel
theorem dL_add_14 : decode cL_add 14 = .ok (.ior, 1) := by decide +kernel
theorem dL_add_15 : decode cL_add 15 = .ok (.iload 5, 2) := by decide +kernel
theorem dL_add_17 : decode cL_add 17 = .ok (.bipush 9, 2) := by decide +kernel
theorem dL_add_19 : decode cL_add 19 = .ok (.ishl, 1) := by decide +kernel
theorem dL_add_20 : decode cL_add 20 = .ok (.ior, 1) := by decide +kernel
theorem dL_add_21 : decode cL_add 21 = .ok (.i2l, 1) := by decide +kernel
theorem dL_add_22 : decode cL_add 22 = .ok (.iload 6, 2) := by decide +kernel
theorem dL_add_24 : decode cL_add 24 = .ok (.i2l, 1) := by decide +kernel
theorem dL_add_25 : decode cL_add 25 = .ok (.bipush 16, 2) := by decide +kernel
theorem dL_add_27 : decode cL_add 27 = .ok (.lshl, 1) := by decide +kernel
theorem dL_add_28 : decode cL_add 28 = .ok (.lor, 1) := by decide +kernel
theorem dL_add_29 : decode cL_add 29 = .ok (.iload 7, 2) := by decide +kernel
theorem dL_add_31 : decode cL_add 31 = .ok (.i2l, 1) := by decide +kernel
theorem dL_add_32 : decode cL_add 32 = .ok (.bipush 23, 2) := by decide +kernel
theorem dL_add_34 : decode cL_add 34 = .ok (.lshl, 1) := by decide +kernel
theorem dL_add_35 : decode cL_add 35 = .ok (.lor, 1) := by decide +kernel
theorem dL_add_36 : decode cL_add 36 = .ok (.lastore, 1) := by decide +kernel
theorem dL_add_37 : decode cL_add 37 = .ok (.aload_n 1, 1) := by decide +kernel
theorem dL_add_38 : decode cL_add 38 = .ok (.iconst 1, 1) := by decide +kernel
theorem dL_add_39 : decode cL_add 39 = .ok (.dup2, 1) := by decide +kernel
theorem dL_add_40 : decode cL_add 40 = .ok (.iaload, 1) := by decide +kernel
theorem dL_add_41 : decode cL_add 41 = .ok (.iconst 1, 1) := by decide +kernel
theorem dL_add_42 : decode cL_add 42 = .ok (.iadd, 1) := by decide +kernel
theorem dL_add_43 : decode cL_add 43 = .ok (.iastore, 1) := by decide +kernel
theorem dL_add_44 : decode cL_add 44 = .ok (.aload_n 1, 1) := by decide +kernel
theorem dL_add_45 : decode cL_add 45 = .ok (.invokestatic 9, 3) := by decide +kernel
theorem dL_add_48 : decode cL_add 48 = .ok (.ireturn, 1) := by decide +kernel
theorem dL_value_0 : decode cL_value 0 = .ok (.aload_n 0, 1) := by decide +kernel
theorem dL_value_1 : decode cL_value 1 = .ok (.bipush 6, 2) := by decide +kernel
theorem dL_value_3 : decode cL_value 3 = .ok (.iload_n 1, 1) := by decide +kernel
theorem dL_value_4 : decode cL_value 4 = .ok (.imul, 1) := by decide +kernel
theorem dL_value_5 : decode cL_value 5 = .ok (.iconst 2, 1) := by decide +kernel
theorem dL_value_6 : decode cL_value 6 = .ok (.iadd, 1) := by decide +kernel
theorem dL_value_7 : decode cL_value 7 = .ok (.iaload, 1) := by decide +kernel
theorem dL_value_8 : decode cL_value 8 = .ok (.iconst 1, 1) := by decide +kernel
theorem dL_value_9 : decode cL_value 9 = .ok (.if_icmp .ne 14, 3) := by decide +kernel
theorem dL_value_12 : decode cL_value 12 = .ok (.aload_n 0, 1) := by decide +kernel
theorem dL_value_13 : decode cL_value 13 = .ok (.bipush 6, 2) := by decide +kernel
theorem dL_value_15 : decode cL_value 15 = .ok (.iload_n 1, 1) := by decide +kernel
theorem dL_value_16 : decode cL_value 16 = .ok (.imul, 1) := by decide +kernel
theorem dL_value_17 : decode cL_value 17 = .ok (.iconst 3, 1) := by decide +kernel
theorem dL_value_18 : decode cL_value 18 = .ok (.iadd, 1) := by decide +kernel
theorem dL_value_19 : decode cL_value 19 = .ok (.iaload, 1) := by decide +kernel
theorem dL_value_20 : decode cL_value 20 = .ok (.goto 9, 3) := by decide +kernel
theorem dL_value_23 : decode cL_value 23 = .ok (.aload_n 0, 1) := by decide +kernel
theorem dL_value_24 : decode cL_value 24 = .ok (.bipush 6, 2) := by decide +kernel
theorem dL_value_26 : decode cL_value 26 = .ok (.iload_n 1, 1) := by decide +kernel
theorem dL_value_27 : decode cL_value 27 = .ok (.imul, 1) := by decide +kernel
theorem dL_value_28 : decode cL_value 28 = .ok (.iaload, 1) := by decide +kernel
theorem dL_value_29 : decode cL_value 29 = .ok (.ireturn, 1) := by decide +kernel
theorem dL_mark_0 : decode cL_mark 0 = .ok (.aload_n 0, 1) := by decide +kernel
theorem dL_mark_1 : decode cL_mark 1 = .ok (.bipush 6, 2) := by decide +kernel
theorem dL_mark_3 : decode cL_mark 3 = .ok (.iload_n 1, 1) := by decide +kernel
theorem dL_mark_4 : decode cL_mark 4 = .ok (.imul, 1) := by decide +kernel
theorem dL_mark_5 : decode cL_mark 5 = .ok (.iconst 2, 1) := by decide +kernel
theorem dL_mark_6 : decode cL_mark 6 = .ok (.iadd, 1) := by decide +kernel
theorem dL_mark_7 : decode cL_mark 7 = .ok (.iaload, 1) := by decide +kernel
theorem dL_mark_8 : decode cL_mark 8 = .ok (.iconst 1, 1) := by decide +kernel
theorem dL_mark_9 : decode cL_mark 9 = .ok (.if_icmp .ne 14, 3) := by decide +kernel
theorem dL_mark_12 : decode cL_mark 12 = .ok (.aload_n 0, 1) := by decide +kernel
theorem dL_mark_13 : decode cL_mark 13 = .ok (.bipush 6, 2) := by decide +kernel
theorem dL_mark_15 : decode cL_mark 15 = .ok (.iload_n 1, 1) := by decide +kernel
theorem dL_mark_16 : decode cL_mark 16 = .ok (.imul, 1) := by decide +kernel
theorem dL_mark_17 : decode cL_mark 17 = .ok (.iconst 4, 1) := by decide +kernel
theorem dL_mark_18 : decode cL_mark 18 = .ok (.iadd, 1) := by decide +kernel
theorem dL_mark_19 : decode cL_mark 19 = .ok (.iaload, 1) := by decide +kernel
theorem dL_mark_20 : decode cL_mark 20 = .ok (.goto 11, 3) := by decide +kernel
theorem dL_mark_23 : decode cL_mark 23 = .ok (.aload_n 0, 1) := by decide +kernel
theorem dL_mark_24 : decode cL_mark 24 = .ok (.bipush 6, 2) := by decide +kernel
theorem dL_mark_26 : decode cL_mark 26 = .ok (.iload_n 1, 1) := by decide +kernel
theorem dL_mark_27 : decode cL_mark 27 = .ok (.imul, 1) := by decide +kernel
theorem dL_mark_28 : decode cL_mark 28 = .ok (.iconst 1, 1) := by decide +kernel
theorem dL_mark_29 : decode cL_mark 29 = .ok (.iadd, 1) := by decide +kernel
theorem dL_mark_30 : decode cL_mark 30 = .ok (.iaload, 1) := by decide +kernel
theorem dL_mark_31 : decode cL_mark 31 = .ok (.ireturn, 1) := by decide +kernel
theorem dL_come_0 : decode cL_come 0 = .ok (.aload_n 0, 1) := by decide +kernel
theorem dL_come_1 : decode cL_come 1 = .ok (.bipush 6, 2) := by decide +kernel
theorem dL_come_3 : decode cL_come 3 = .ok (.iload_n 1, 1) := by decide +kernel
theorem dL_come_4 : decode cL_come 4 = .ok (.imul, 1) := by decide +kernel
theorem dL_come_5 : decode cL_come 5 = .ok (.iconst 5, 1) := by decide +kernel
theorem dL_come_6 : decode cL_come 6 = .ok (.iadd, 1) := by decide +kernel
theorem dL_come_7 : decode cL_come 7 = .ok (.aload_n 0, 1) := by decide +kernel
theorem dL_come_8 : decode cL_come 8 = .ok (.iload_n 1, 1) := by decide +kernel
theorem dL_come_9 : decode cL_come 9 = .ok (.invokestatic 15, 3) := by decide +kernel
theorem dL_come_12 : decode cL_come 12 = .ok (.aload_n 0, 1) := by decide +kernel
theorem dL_come_13 : decode cL_come 13 = .ok (.bipush 6, 2) := by decide +kernel
theorem dL_come_15 : decode cL_come 15 = .ok (.iload_n 1, 1) := by decide +kernel
theorem dL_come_16 : decode cL_come 16 = .ok (.imul, 1) := by decide +kernel
theorem dL_come_17 : decode cL_come 17 = .ok (.iconst 1, 1) := by decide +kernel
theorem dL_come_18 : decode cL_come 18 = .ok (.iadd, 1) := by decide +kernel
theorem dL_come_19 : decode cL_come 19 = .ok (.iaload, 1) := by decide +kernel
theorem dL_come_20 : decode cL_come 20 = .ok (.if_icmp .ne 7, 3) := by decide +kernel
theorem dL_come_23 : decode cL_come 23 = .ok (.iload_n 3, 1) := by decide +kernel
theorem dL_come_24 : decode cL_come 24 = .ok (.goto 11, 3) := by decide +kernel
theorem dL_come_27 : decode cL_come 27 = .ok (.aload_n 0, 1) := by decide +kernel
theorem dL_come_28 : decode cL_come 28 = .ok (.bipush 6, 2) := by decide +kernel
theorem dL_come_30 : decode cL_come 30 = .ok (.iload_n 1, 1) := by decide +kernel
theorem dL_come_31 : decode cL_come 31 = .ok (.imul, 1) := by decide +kernel
theorem dL_come_32 : decode cL_come 32 = .ok (.iconst 5, 1) := by decide +kernel
theorem dL_come_33 : decode cL_come 33 = .ok (.iadd, 1) := by decide +kernel
theorem dL_come_34 : decode cL_come 34 = .ok (.iaload, 1) := by decide +kernel
theorem dL_come_35 : decode cL_come 35 = .ok (.iastore, 1) := by decide +kernel
theorem dL_come_36 : decode cL_come 36 = .ok (.aload_n 0, 1) := by decide +kernel
theorem dL_come_37 : decode cL_come 37 = .ok (.bipush 6, 2) := by decide +kernel
theorem dL_come_39 : decode cL_come 39 = .ok (.iload_n 1, 1) := by decide +kernel
theorem dL_come_40 : decode cL_come 40 = .ok (.imul, 1) := by decide +kernel
theorem dL_come_41 : decode cL_come 41 = .ok (.iconst 2, 1) := by decide +kernel
theorem dL_come_42 : decode cL_come 42 = .ok (.iadd, 1) := by decide +kernel
theorem dL_come_43 : decode cL_come 43 = .ok (.iconst 1, 1) := by decide +kernel
theorem dL_come_44 : decode cL_come 44 = .ok (.iastore, 1) := by decide +kernel
theorem dL_come_45 : decode cL_come 45 = .ok (.aload_n 0, 1) := by decide +kernel
theorem dL_come_46 : decode cL_come 46 = .ok (.bipush 6, 2) := by decide +kernel
theorem dL_come_48 : decode cL_come 48 = .ok (.iload_n 1, 1) := by decide +kernel
theorem dL_come_49 : decode cL_come 49 = .ok (.imul, 1) := by decide +kernel
theorem dL_come_50 : decode cL_come 50 = .ok (.iconst 3, 1) := by decide +kernel
theorem dL_come_51 : decode cL_come 51 = .ok (.iadd, 1) := by decide +kernel
theorem dL_come_52 : decode cL_come 52 = .ok (.iload_n 2, 1) := by decide +kernel
theorem dL_come_53 : decode cL_come 53 = .ok (.iastore, 1) := by decide +kernel
theorem dL_come_54 : decode cL_come 54 = .ok (.aload_n 0, 1) := by decide +kernel
theorem dL_come_55 : decode cL_come 55 = .ok (.bipush 6, 2) := by decide +kernel
theorem dL_come_57 : decode cL_come 57 = .ok (.iload_n 1, 1) := by decide +kernel
theorem dL_come_58 : decode cL_come 58 = .ok (.imul, 1) := by decide +kernel
theorem dL_come_59 : decode cL_come 59 = .ok (.iconst 4, 1) := by decide +kernel
theorem dL_come_60 : decode cL_come 60 = .ok (.iadd, 1) := by decide +kernel
theorem dL_come_61 : decode cL_come 61 = .ok (.iload_n 3, 1) := by decide +kernel
theorem dL_come_62 : decode cL_come 62 = .ok (.iastore, 1) := by decide +kernel
theorem dL_come_63 : decode cL_come 63 = .ok (.return_, 1) := by decide +kernel
theorem dL_force_0 : decode cL_force 0 = .ok (.iload_n 1, 1) := by decide +kernel
theorem dL_force_1 : decode cL_force 1 = .ok (.aload_n 0, 1) := by decide +kernel
theorem dL_force_2 : decode cL_force 2 = .ok (.iconst 2, 1) := by decide +kernel
theorem dL_force_3 : decode cL_force 3 = .ok (.iaload, 1) := by decide +kernel
theorem dL_force_4 : decode cL_force 4 = .ok (.if_icmp .le 11, 3) := by decide +kernel
theorem dL_force_7 : decode cL_force 7 = .ok (.iload_n 1, 1) := by decide +kernel
theorem dL_force_8 : decode cL_force 8 = .ok (.aload_n 0, 1) := by decide +kernel
theorem dL_force_9 : decode cL_force 9 = .ok (.iconst 2, 1) := by decide +kernel
theorem dL_force_10 : decode cL_force 10 = .ok (.iaload, 1) := by decide +kernel
theorem dL_force_11 : decode cL_force 11 = .ok (.isub, 1) := by decide +kernel
theorem dL_force_12 : decode cL_force 12 = .ok (.goto 4, 3) := by decide +kernel
theorem dL_force_15 : decode cL_force 15 = .ok (.iconst 0, 1) := by decide +kernel
theorem dL_force_16 : decode cL_force 16 = .ok (.istore_n 2, 1) := by decide +kernel
theorem dL_force_17 : decode cL_force 17 = .ok (.aload_n 0, 1) := by decide +kernel
theorem dL_force_18 : decode cL_force 18 = .ok (.iconst 2, 1) := by decide +kernel
theorem dL_force_19 : decode cL_force 19 = .ok (.dup2, 1) := by decide +kernel
theorem dL_force_20 : decode cL_force 20 = .ok (.iaload, 1) := by decide +kernel
theorem dL_force_21 : decode cL_force 21 = .ok (.iload_n 2, 1) := by decide +kernel
theorem dL_force_22 : decode cL_force 22 = .ok (.iadd, 1) := by decide +kernel
theorem dL_force_23 : decode cL_force 23 = .ok (.iastore, 1) := by decide +kernel
theorem dL_force_24 : decode cL_force 24 = .ok (.iload_n 2, 1) := by decide +kernel
theorem dL_force_25 : decode cL_force 25 = .ok (.ireturn, 1) := by decide +kernel
theorem dL_holder_0 : decode cL_holder 0 = .ok (.iconst (-1), 1) := by decide +kernel
theorem dL_holder_1 : decode cL_holder 1 = .ok (.istore_n 2, 1) := by decide +kernel
theorem dL_holder_2 : decode cL_holder 2 = .ok (.iconst 0, 1) := by decide +kernel
theorem dL_holder_3 : decode cL_holder 3 = .ok (.istore_n 3, 1) := by decide +kernel
theorem dL_holder_4 : decode cL_holder 4 = .ok (.iload_n 3, 1) := by decide +kernel
theorem dL_holder_5 : decode cL_holder 5 = .ok (.iconst 4, 1) := by decide +kernel
theorem dL_holder_6 : decode cL_holder 6 = .ok (.if_icmp .ge 39, 3) := by decide +kernel
theorem dL_holder_9 : decode cL_holder 9 = .ok (.aload_n 0, 1) := by decide +kernel
theorem dL_holder_10 : decode cL_holder 10 = .ok (.iconst 4, 1) := by decide +kernel
theorem dL_holder_11 : decode cL_holder 11 = .ok (.iload_n 3, 1) := by decide +kernel
theorem dL_holder_12 : decode cL_holder 12 = .ok (.imul, 1) := by decide +kernel
theorem dL_holder_13 : decode cL_holder 13 = .ok (.iaload, 1) := by decide +kernel
theorem dL_holder_14 : decode cL_holder 14 = .ok (.iconst 1, 1) := by decide +kernel
theorem dL_holder_15 : decode cL_holder 15 = .ok (.if_icmp .ne 22, 3) := by decide +kernel
theorem dL_holder_18 : decode cL_holder 18 = .ok (.aload_n 0, 1) := by decide +kernel
theorem dL_holder_19 : decode cL_holder 19 = .ok (.iconst 4, 1) := by decide +kernel
theorem dL_holder_20 : decode cL_holder 20 = .ok (.iload_n 3, 1) := by decide +kernel
theorem dL_holder_21 : decode cL_holder 21 = .ok (.imul, 1) := by decide +kernel
theorem dL_holder_22 : decode cL_holder 22 = .ok (.iconst 3, 1) := by decide +kernel
theorem dL_holder_23 : decode cL_holder 23 = .ok (.iadd, 1) := by decide +kernel
theorem dL_holder_24 : decode cL_holder 24 = .ok (.iaload, 1) := by decide +kernel
theorem dL_holder_25 : decode cL_holder 25 = .ok (.iload_n 1, 1) := by decide +kernel
theorem dL_holder_26 : decode cL_holder 26 = .ok (.ishr, 1) := by decide +kernel
theorem dL_holder_27 : decode cL_holder 27 = .ok (.iconst 1, 1) := by decide +kernel
theorem dL_holder_28 : decode cL_holder 28 = .ok (.iand, 1) := by decide +kernel
theorem dL_holder_29 : decode cL_holder 29 = .ok (.iconst 1, 1) := by decide +kernel
theorem dL_holder_30 : decode cL_holder 30 = .ok (.if_icmp .ne 7, 3) := by decide +kernel
theorem dL_holder_33 : decode cL_holder 33 = .ok (.iload_n 3, 1) := by decide +kernel
theorem dL_holder_34 : decode cL_holder 34 = .ok (.goto 4, 3) := by decide +kernel
theorem dL_holder_37 : decode cL_holder 37 = .ok (.iload_n 2, 1) := by decide +kernel
theorem dL_holder_38 : decode cL_holder 38 = .ok (.istore_n 2, 1) := by decide +kernel
theorem dL_holder_39 : decode cL_holder 39 = .ok (.iinc 3 1, 3) := by decide +kernel
theorem dL_holder_42 : decode cL_holder 42 = .ok (.goto (-38), 3) := by decide +kernel
theorem dL_holder_45 : decode cL_holder 45 = .ok (.iload_n 2, 1) := by decide +kernel
theorem dL_holder_46 : decode cL_holder 46 = .ok (.ireturn, 1) := by decide +kernel
theorem dL_dirty_0 : decode cL_dirty 0 = .ok (.iconst 0, 1) := by decide +kernel
theorem dL_dirty_1 : decode cL_dirty 1 = .ok (.istore_n 1, 1) := by decide +kernel
theorem dL_dirty_2 : decode cL_dirty 2 = .ok (.iconst 0, 1) := by decide +kernel
theorem dL_dirty_3 : decode cL_dirty 3 = .ok (.istore_n 2, 1) := by decide +kernel
theorem dL_dirty_4 : decode cL_dirty 4 = .ok (.iload_n 2, 1) := by decide +kernel
theorem dL_dirty_5 : decode cL_dirty 5 = .ok (.bipush 8, 2) := by decide +kernel
theorem dL_dirty_7 : decode cL_dirty 7 = .ok (.if_icmp .ge 35, 3) := by decide +kernel
theorem dL_dirty_10 : decode cL_dirty 10 = .ok (.iload_n 1, 1) := by decide +kernel
theorem dL_dirty_11 : decode cL_dirty 11 = .ok (.aload_n 0, 1) := by decide +kernel
theorem dL_dirty_12 : decode cL_dirty 12 = .ok (.iload_n 2, 1) := by decide +kernel
theorem dL_dirty_13 : decode cL_dirty 13 = .ok (.invokestatic 15, 3) := by decide +kernel
theorem dL_dirty_16 : decode cL_dirty 16 = .ok (.aload_n 0, 1) := by decide +kernel
theorem dL_dirty_17 : decode cL_dirty 17 = .ok (.bipush 6, 2) := by decide +kernel
theorem dL_dirty_19 : decode cL_dirty 19 = .ok (.iload_n 2, 1) := by decide +kernel
theorem dL_dirty_20 : decode cL_dirty 20 = .ok (.imul, 1) := by decide +kernel
theorem dL_dirty_21 : decode cL_dirty 21 = .ok (.iconst 1, 1) := by decide +kernel
theorem dL_dirty_22 : decode cL_dirty 22 = .ok (.iadd, 1) := by decide +kernel
theorem dL_dirty_23 : decode cL_dirty 23 = .ok (.iaload, 1) := by decide +kernel
theorem dL_dirty_24 : decode cL_dirty 24 = .ok (.if_icmp .ne 7, 3) := by decide +kernel
theorem dL_dirty_27 : decode cL_dirty 27 = .ok (.iconst 0, 1) := by decide +kernel
theorem dL_dirty_28 : decode cL_dirty 28 = .ok (.goto 6, 3) := by decide +kernel
theorem dL_dirty_31 : decode cL_dirty 31 = .ok (.iconst 1, 1) := by decide +kernel
theorem dL_dirty_32 : decode cL_dirty 32 = .ok (.iload_n 2, 1) := by decide +kernel
theorem dL_dirty_33 : decode cL_dirty 33 = .ok (.ishl, 1) := by decide +kernel
theorem dL_dirty_34 : decode cL_dirty 34 = .ok (.iadd, 1) := by decide +kernel
theorem dL_dirty_35 : decode cL_dirty 35 = .ok (.istore_n 1, 1) := by decide +kernel
theorem dL_dirty_36 : decode cL_dirty 36 = .ok (.iinc 2 1, 3) := by decide +kernel
theorem dL_dirty_39 : decode cL_dirty 39 = .ok (.goto (-35), 3) := by decide +kernel
theorem dL_dirty_42 : decode cL_dirty 42 = .ok (.iload_n 1, 1) := by decide +kernel
theorem dL_dirty_43 : decode cL_dirty 43 = .ok (.ireturn, 1) := by decide +kernel
theorem dL_open_0 : decode cL_open 0 = .ok (.aload_n 0, 1) := by decide +kernel
theorem dL_open_1 : decode cL_open 1 = .ok (.iconst 0, 1) := by decide +kernel
theorem dL_open_2 : decode cL_open 2 = .ok (.iaload, 1) := by decide +kernel
theorem dL_open_3 : decode cL_open 3 = .ok (.iconst 2, 1) := by decide +kernel
theorem dL_open_4 : decode cL_open 4 = .ok (.aload_n 0, 1) := by decide +kernel
theorem dL_open_5 : decode cL_open 5 = .ok (.iconst 4, 1) := by decide +kernel
theorem dL_open_6 : decode cL_open 6 = .ok (.iaload, 1) := by decide +kernel
theorem dL_open_7 : decode cL_open 7 = .ok (.imul, 1) := by decide +kernel
theorem dL_open_8 : decode cL_open 8 = .ok (.iadd, 1) := by decide +kernel
theorem dL_open_9 : decode cL_open 9 = .ok (.iconst 4, 1) := by decide +kernel
theorem dL_open_10 : decode cL_open 10 = .ok (.aload_n 0, 1) := by decide +kernel
theorem dL_open_11 : decode cL_open 11 = .ok (.bipush 8, 2) := by decide +kernel
theorem dL_open_13 : decode cL_open 13 = .ok (.iaload, 1) := by decide +kernel
theorem dL_open_14 : decode cL_open 14 = .ok (.imul, 1) := by decide +kernel
theorem dL_open_15 : decode cL_open 15 = .ok (.iadd, 1) := by decide +kernel
theorem dL_open_16 : decode cL_open 16 = .ok (.bipush 8, 2) := by decide +kernel
theorem dL_open_18 : decode cL_open 18 = .ok (.aload_n 0, 1) := by decide +kernel
theorem dL_open_19 : decode cL_open 19 = .ok (.bipush 12, 2) := by decide +kernel
theorem dL_open_21 : decode cL_open 21 = .ok (.iaload, 1) := by decide +kernel
theorem dL_open_22 : decode cL_open 22 = .ok (.imul, 1) := by decide +kernel
theorem dL_open_23 : decode cL_open 23 = .ok (.iadd, 1) := by decide +kernel
theorem dL_open_24 : decode cL_open 24 = .ok (.ireturn, 1) := by decide +kernel
theorem dL_back_0 : decode cL_back 0 = .ok (.iconst 0, 1) := by decide +kernel
theorem dL_back_1 : decode cL_back 1 = .ok (.istore 4, 2) := by decide +kernel
theorem dL_back_3 : decode cL_back 3 = .ok (.iload_n 3, 1) := by decide +kernel
theorem dL_back_4 : decode cL_back 4 = .ok (.istore 5, 2) := by decide +kernel
theorem dL_back_6 : decode cL_back 6 = .ok (.aload_n 0, 1) := by decide +kernel
theorem dL_back_7 : decode cL_back 7 = .ok (.invokestatic 9, 3) := by decide +kernel
theorem dL_back_10 : decode cL_back 10 = .ok (.istore 6, 2) := by decide +kernel
theorem dL_back_12 : decode cL_back 12 = .ok (.iload 6, 2) := by decide +kernel
theorem dL_back_14 : decode cL_back 14 = .ok (.aload_n 0, 1) := by decide +kernel
