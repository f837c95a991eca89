theorem dX6_copyFrom_41 : decode cX6_copyFrom 41 = .ok (.aload_n 0, 1) := by decide +kernel
theorem dX6_copyFrom_42 : decode cX6_copyFrom 42 = .ok (.aload_n 1, 1) := by decide +kernel
theorem dX6_copyFrom_43 : decode cX6_copyFrom 43 = .ok (.getfield 46, 3) := by decide +kernel
theorem dX6_copyFrom_46 : decode cX6_copyFrom 46 = .ok (.putfield 46, 3) := by decide +kernel
theorem dX6_copyFrom_49 : decode cX6_copyFrom 49 = .ok (.return_, 1) := by decide +kernel
theorem dX6_beginGroup_0 : decode cX6_beginGroup 0 = .ok (.iload_n 1, 1) := by decide +kernel
theorem dX6_beginGroup_1 : decode cX6_beginGroup 1 = .ok (.ifCond .lt 8, 3) := by decide +kernel
theorem dX6_beginGroup_4 : decode cX6_beginGroup 4 = .ok (.iload_n 1, 1) := by decide +kernel
theorem dX6_beginGroup_5 : decode cX6_beginGroup 5 = .ok (.iconst 4, 1) := by decide +kernel
theorem dX6_beginGroup_6 : decode cX6_beginGroup 6 = .ok (.if_icmp .lt 6, 3) := by decide +kernel
theorem dX6_beginGroup_9 : decode cX6_beginGroup 9 = .ok (.ldc 50, 2) := by decide +kernel
theorem dX6_beginGroup_11 : decode cX6_beginGroup 11 = .ok (.ireturn, 1) := by decide +kernel
theorem dX6_beginGroup_12 : decode cX6_beginGroup 12 = .ok (.aload_n 0, 1) := by decide +kernel
theorem dX6_beginGroup_13 : decode cX6_beginGroup 13 = .ok (.getfield 42, 3) := by decide +kernel
theorem dX6_beginGroup_16 : decode cX6_beginGroup 16 = .ok (.ifCond .ne 14, 3) := by decide +kernel
theorem dX6_beginGroup_19 : decode cX6_beginGroup 19 = .ok (.aload_n 0, 1) := by decide +kernel
theorem dX6_beginGroup_20 : decode cX6_beginGroup 20 = .ok (.getfield 21, 3) := by decide +kernel
theorem dX6_beginGroup_23 : decode cX6_beginGroup 23 = .ok (.iload_n 1, 1) := by decide +kernel
theorem dX6_beginGroup_24 : decode cX6_beginGroup 24 = .ok (.invokevirtual 51, 3) := by decide +kernel
theorem dX6_beginGroup_27 : decode cX6_beginGroup 27 = .ok (.ifCond .eq 6, 3) := by decide +kernel
theorem dX6_beginGroup_30 : decode cX6_beginGroup 30 = .ok (.ldc 55, 2) := by decide +kernel
theorem dX6_beginGroup_32 : decode cX6_beginGroup 32 = .ok (.ireturn, 1) := by decide +kernel
theorem dX6_beginGroup_33 : decode cX6_beginGroup 33 = .ok (.aload_n 0, 1) := by decide +kernel
theorem dX6_beginGroup_34 : decode cX6_beginGroup 34 = .ok (.getfield 28, 3) := by decide +kernel
theorem dX6_beginGroup_37 : decode cX6_beginGroup 37 = .ok (.invokevirtual 56, 3) := by decide +kernel
theorem dX6_beginGroup_40 : decode cX6_beginGroup 40 = .ok (.ifCond .eq 6, 3) := by decide +kernel
theorem dX6_beginGroup_43 : decode cX6_beginGroup 43 = .ok (.ldc 60, 2) := by decide +kernel
theorem dX6_beginGroup_45 : decode cX6_beginGroup 45 = .ok (.ireturn, 1) := by decide +kernel
theorem dX6_beginGroup_46 : decode cX6_beginGroup 46 = .ok (.aload_n 0, 1) := by decide +kernel
theorem dX6_beginGroup_47 : decode cX6_beginGroup 47 = .ok (.getfield 28, 3) := by decide +kernel
theorem dX6_beginGroup_50 : decode cX6_beginGroup 50 = .ok (.iconst 0, 1) := by decide +kernel
theorem dX6_beginGroup_51 : decode cX6_beginGroup 51 = .ok (.iload_n 1, 1) := by decide +kernel
theorem dX6_beginGroup_52 : decode cX6_beginGroup 52 = .ok (.ldc 61, 2) := by decide +kernel
theorem dX6_beginGroup_54 : decode cX6_beginGroup 54 = .ok (.iconst 0, 1) := by decide +kernel
theorem dX6_beginGroup_55 : decode cX6_beginGroup 55 = .ok (.iconst 0, 1) := by decide +kernel
theorem dX6_beginGroup_56 : decode cX6_beginGroup 56 = .ok (.iconst 0, 1) := by decide +kernel
theorem dX6_beginGroup_57 : decode cX6_beginGroup 57 = .ok (.invokevirtual 62, 3) := by decide +kernel
theorem dX6_beginGroup_60 : decode cX6_beginGroup 60 = .ok (.istore_n 2, 1) := by decide +kernel
theorem dX6_beginGroup_61 : decode cX6_beginGroup 61 = .ok (.aload_n 0, 1) := by decide +kernel
theorem dX6_beginGroup_62 : decode cX6_beginGroup 62 = .ok (.getfield 21, 3) := by decide +kernel
theorem dX6_beginGroup_65 : decode cX6_beginGroup 65 = .ok (.iload_n 1, 1) := by decide +kernel
theorem dX6_beginGroup_66 : decode cX6_beginGroup 66 = .ok (.iload_n 2, 1) := by decide +kernel
theorem dX6_beginGroup_67 : decode cX6_beginGroup 67 = .ok (.invokevirtual 66, 3) := by decide +kernel
theorem dX6_beginGroup_70 : decode cX6_beginGroup 70 = .ok (.iload_n 2, 1) := by decide +kernel
theorem dX6_beginGroup_71 : decode cX6_beginGroup 71 = .ok (.ireturn, 1) := by decide +kernel
theorem dX6_writePage_0 : decode cX6_writePage 0 = .ok (.iload_n 1, 1) := by decide +kernel
theorem dX6_writePage_1 : decode cX6_writePage 1 = .ok (.ifCond .lt 18, 3) := by decide +kernel
theorem dX6_writePage_4 : decode cX6_writePage 4 = .ok (.iload_n 1, 1) := by decide +kernel
theorem dX6_writePage_5 : decode cX6_writePage 5 = .ok (.iconst 4, 1) := by decide +kernel
theorem dX6_writePage_6 : decode cX6_writePage 6 = .ok (.if_icmp .ge 13, 3) := by decide +kernel
theorem dX6_writePage_9 : decode cX6_writePage 9 = .ok (.iload_n 2, 1) := by decide +kernel
theorem dX6_writePage_10 : decode cX6_writePage 10 = .ok (.ifCond .lt 9, 3) := by decide +kernel
theorem dX6_writePage_13 : decode cX6_writePage 13 = .ok (.iload_n 2, 1) := by decide +kernel
theorem dX6_writePage_14 : decode cX6_writePage 14 = .ok (.bipush 8, 2) := by decide +kernel
theorem dX6_writePage_16 : decode cX6_writePage 16 = .ok (.if_icmp .lt 6, 3) := by decide +kernel
theorem dX6_writePage_19 : decode cX6_writePage 19 = .ok (.ldc 50, 2) := by decide +kernel
theorem dX6_writePage_21 : decode cX6_writePage 21 = .ok (.ireturn, 1) := by decide +kernel
theorem dX6_writePage_22 : decode cX6_writePage 22 = .ok (.iload_n 3, 1) := by decide +kernel
theorem dX6_writePage_23 : decode cX6_writePage 23 = .ok (.ifCond .lt 9, 3) := by decide +kernel
theorem dX6_writePage_26 : decode cX6_writePage 26 = .ok (.iload_n 3, 1) := by decide +kernel
theorem dX6_writePage_27 : decode cX6_writePage 27 = .ok (.bipush 100, 2) := by decide +kernel
theorem dX6_writePage_29 : decode cX6_writePage 29 = .ok (.if_icmp .lt 6, 3) := by decide +kernel
theorem dX6_writePage_32 : decode cX6_writePage 32 = .ok (.ldc 50, 2) := by decide +kernel
theorem dX6_writePage_34 : decode cX6_writePage 34 = .ok (.ireturn, 1) := by decide +kernel
theorem dX6_writePage_35 : decode cX6_writePage 35 = .ok (.aload_n 0, 1) := by decide +kernel
theorem dX6_writePage_36 : decode cX6_writePage 36 = .ok (.getfield 21, 3) := by decide +kernel
theorem dX6_writePage_39 : decode cX6_writePage 39 = .ok (.iload_n 2, 1) := by decide +kernel
theorem dX6_writePage_40 : decode cX6_writePage 40 = .ok (.invokevirtual 70, 3) := by decide +kernel
theorem dX6_writePage_43 : decode cX6_writePage 43 = .ok (.istore 4, 2) := by decide +kernel
theorem dX6_writePage_45 : decode cX6_writePage 45 = .ok (.aload_n 0, 1) := by decide +kernel
theorem dX6_writePage_46 : decode cX6_writePage 46 = .ok (.getfield 42, 3) := by decide +kernel
theorem dX6_writePage_49 : decode cX6_writePage 49 = .ok (.ifCond .ne 25, 3) := by decide +kernel
theorem dX6_writePage_52 : decode cX6_writePage 52 = .ok (.aload_n 0, 1) := by decide +kernel
theorem dX6_writePage_53 : decode cX6_writePage 53 = .ok (.getfield 21, 3) := by decide +kernel
theorem dX6_writePage_56 : decode cX6_writePage 56 = .ok (.iload_n 1, 1) := by decide +kernel
theorem dX6_writePage_57 : decode cX6_writePage 57 = .ok (.invokevirtual 51, 3) := by decide +kernel
theorem dX6_writePage_60 : decode cX6_writePage 60 = .ok (.ifCond .eq 14, 3) := by decide +kernel
theorem dX6_writePage_63 : decode cX6_writePage 63 = .ok (.iload 4, 2) := by decide +kernel
theorem dX6_writePage_65 : decode cX6_writePage 65 = .ok (.ifCond .lt 12, 3) := by decide +kernel
theorem dX6_writePage_68 : decode cX6_writePage 68 = .ok (.iload 4, 2) := by decide +kernel
theorem dX6_writePage_70 : decode cX6_writePage 70 = .ok (.iload_n 1, 1) := by decide +kernel
theorem dX6_writePage_71 : decode cX6_writePage 71 = .ok (.if_icmp .eq 6, 3) := by decide +kernel
theorem dX6_writePage_74 : decode cX6_writePage 74 = .ok (.ldc 55, 2) := by decide +kernel
theorem dX6_writePage_76 : decode cX6_writePage 76 = .ok (.ireturn, 1) := by decide +kernel
theorem dX6_writePage_77 : decode cX6_writePage 77 = .ok (.aload_n 0, 1) := by decide +kernel
theorem dX6_writePage_78 : decode cX6_writePage 78 = .ok (.getfield 28, 3) := by decide +kernel
theorem dX6_writePage_81 : decode cX6_writePage 81 = .ok (.invokevirtual 56, 3) := by decide +kernel
theorem dX6_writePage_84 : decode cX6_writePage 84 = .ok (.ifCond .eq 6, 3) := by decide +kernel
theorem dX6_writePage_87 : decode cX6_writePage 87 = .ok (.ldc 60, 2) := by decide +kernel
theorem dX6_writePage_89 : decode cX6_writePage 89 = .ok (.ireturn, 1) := by decide +kernel
theorem dX6_writePage_90 : decode cX6_writePage 90 = .ok (.aload_n 0, 1) := by decide +kernel
theorem dX6_writePage_91 : decode cX6_writePage 91 = .ok (.getfield 12, 3) := by decide +kernel
theorem dX6_writePage_94 : decode cX6_writePage 94 = .ok (.iload_n 2, 1) := by decide +kernel
theorem dX6_writePage_95 : decode cX6_writePage 95 = .ok (.invokevirtual 74, 3) := by decide +kernel
theorem dX6_writePage_98 : decode cX6_writePage 98 = .ok (.istore 5, 2) := by decide +kernel
theorem dX6_writePage_100 : decode cX6_writePage 100 = .ok (.aload_n 0, 1) := by decide +kernel
theorem dX6_writePage_101 : decode cX6_writePage 101 = .ok (.getfield 28, 3) := by decide +kernel
theorem dX6_writePage_104 : decode cX6_writePage 104 = .ok (.iconst 1, 1) := by decide +kernel
theorem dX6_writePage_105 : decode cX6_writePage 105 = .ok (.iload_n 1, 1) := by decide +kernel
theorem dX6_writePage_106 : decode cX6_writePage 106 = .ok (.iload_n 2, 1) := by decide +kernel
theorem dX6_writePage_107 : decode cX6_writePage 107 = .ok (.iload 5, 2) := by decide +kernel
theorem dX6_writePage_109 : decode cX6_writePage 109 = .ok (.iload_n 3, 1) := by decide +kernel
theorem dX6_writePage_110 : decode cX6_writePage 110 = .ok (.iconst 0, 1) := by decide +kernel
theorem dX6_writePage_111 : decode cX6_writePage 111 = .ok (.invokevirtual 62, 3) := by decide +kernel
theorem dX6_writePage_114 : decode cX6_writePage 114 = .ok (.istore 6, 2) := by decide +kernel
theorem dX6_writePage_116 : decode cX6_writePage 116 = .ok (.aload_n 0, 1) := by decide +kernel
theorem dX6_writePage_117 : decode cX6_writePage 117 = .ok (.getfield 12, 3) := by decide +kernel
theorem dX6_writePage_120 : decode cX6_writePage 120 = .ok (.iload_n 2, 1) := by decide +kernel
theorem dX6_writePage_121 : decode cX6_writePage 121 = .ok (.iload_n 3, 1) := by decide +kernel
theorem dX6_writePage_122 : decode cX6_writePage 122 = .ok (.iload 6, 2) := by decide +kernel
theorem dX6_writePage_124 : decode cX6_writePage 124 = .ok (.invokevirtual 77, 3) := by decide +kernel
theorem dX6_writePage_127 : decode cX6_writePage 127 = .ok (.aload_n 0, 1) := by decide +kernel
theorem dX6_writePage_128 : decode cX6_writePage 128 = .ok (.getfield 21, 3) := by decide +kernel
theorem dX6_writePage_131 : decode cX6_writePage 131 = .ok (.iload_n 1, 1) := by decide +kernel
theorem dX6_writePage_132 : decode cX6_writePage 132 = .ok (.iload_n 2, 1) := by decide +kernel
theorem dX6_writePage_133 : decode cX6_writePage 133 = .ok (.invokevirtual 81, 3) := by decide +kernel
theorem dX6_writePage_136 : decode cX6_writePage 136 = .ok (.iload 5, 2) := by decide +kernel
theorem dX6_writePage_138 : decode cX6_writePage 138 = .ok (.ireturn, 1) := by decide +kernel
theorem dX6_errorOfEnding_0 : decode cX6_errorOfEnding 0 = .ok (.iload_n 1, 1) := by decide +kernel
theorem dX6_errorOfEnding_1 : decode cX6_errorOfEnding 1 = .ok (.ifCond .lt 8, 3) := by decide +kernel
theorem dX6_errorOfEnding_4 : decode cX6_errorOfEnding 4 = .ok (.iload_n 1, 1) := by decide +kernel
theorem dX6_errorOfEnding_5 : decode cX6_errorOfEnding 5 = .ok (.iconst 4, 1) := by decide +kernel
theorem dX6_errorOfEnding_6 : decode cX6_errorOfEnding 6 = .ok (.if_icmp .lt 6, 3) := by decide +kernel
theorem dX6_errorOfEnding_9 : decode cX6_errorOfEnding 9 = .ok (.ldc 50, 2) := by decide +kernel
theorem dX6_errorOfEnding_11 : decode cX6_errorOfEnding 11 = .ok (.ireturn, 1) := by decide +kernel
theorem dX6_errorOfEnding_12 : decode cX6_errorOfEnding 12 = .ok (.aload_n 0, 1) := by decide +kernel
theorem dX6_errorOfEnding_13 : decode cX6_errorOfEnding 13 = .ok (.getfield 42, 3) := by decide +kernel
theorem dX6_errorOfEnding_16 : decode cX6_errorOfEnding 16 = .ok (.ifCond .ne 14, 3) := by decide +kernel
theorem dX6_errorOfEnding_19 : decode cX6_errorOfEnding 19 = .ok (.aload_n 0, 1) := by decide +kernel
theorem dX6_errorOfEnding_20 : decode cX6_errorOfEnding 20 = .ok (.getfield 21, 3) := by decide +kernel
theorem dX6_errorOfEnding_23 : decode cX6_errorOfEnding 23 = .ok (.iload_n 1, 1) := by decide +kernel
theorem dX6_errorOfEnding_24 : decode cX6_errorOfEnding 24 = .ok (.invokevirtual 51, 3) := by decide +kernel
theorem dX6_errorOfEnding_27 : decode cX6_errorOfEnding 27 = .ok (.ifCond .ne 6, 3) := by decide +kernel
theorem dX6_errorOfEnding_30 : decode cX6_errorOfEnding 30 = .ok (.ldc 55, 2) := by decide +kernel
theorem dX6_errorOfEnding_32 : decode cX6_errorOfEnding 32 = .ok (.ireturn, 1) := by decide +kernel
theorem dX6_errorOfEnding_33 : decode cX6_errorOfEnding 33 = .ok (.aload_n 0, 1) := by decide +kernel
theorem dX6_errorOfEnding_34 : decode cX6_errorOfEnding 34 = .ok (.getfield 28, 3) := by decide +kernel
theorem dX6_errorOfEnding_37 : decode cX6_errorOfEnding 37 = .ok (.getfield 84, 3) := by decide +kernel
theorem dX6_errorOfEnding_40 : decode cX6_errorOfEnding 40 = .ok (.iload_n 2, 1) := by decide +kernel
theorem dX6_errorOfEnding_41 : decode cX6_errorOfEnding 41 = .ok (.iadd, 1) := by decide +kernel
theorem dX6_errorOfEnding_42 : decode cX6_errorOfEnding 42 = .ok (.bipush 60, 2) := by decide +kernel
theorem dX6_errorOfEnding_44 : decode cX6_errorOfEnding 44 = .ok (.if_icmp .le 8, 3) := by decide +kernel
theorem dX6_errorOfEnding_47 : decode cX6_errorOfEnding 47 = .ok (.ldc 60, 2) := by decide +kernel
theorem dX6_errorOfEnding_49 : decode cX6_errorOfEnding 49 = .ok (.goto 4, 3) := by decide +kernel
theorem dX6_errorOfEnding_52 : decode cX6_errorOfEnding 52 = .ok (.iconst 0, 1) := by decide +kernel
theorem dX6_errorOfEnding_53 : decode cX6_errorOfEnding 53 = .ok (.ireturn, 1) := by decide +kernel
theorem dX6_settleGroup_0 : decode cX6_settleGroup 0 = .ok (.aload_n 0, 1) := by decide +kernel
theorem dX6_settleGroup_1 : decode cX6_settleGroup 1 = .ok (.iload_n 1, 1) := by decide +kernel
theorem dX6_settleGroup_2 : decode cX6_settleGroup 2 = .ok (.iconst 1, 1) := by decide +kernel
theorem dX6_settleGroup_3 : decode cX6_settleGroup 3 = .ok (.invokevirtual 87, 3) := by decide +kernel
theorem dX6_settleGroup_6 : decode cX6_settleGroup 6 = .ok (.istore_n 2, 1) := by decide +kernel
theorem dX6_settleGroup_7 : decode cX6_settleGroup 7 = .ok (.iload_n 2, 1) := by decide +kernel
theorem dX6_settleGroup_8 : decode cX6_settleGroup 8 = .ok (.ifCond .eq 5, 3) := by decide +kernel
theorem dX6_settleGroup_11 : decode cX6_settleGroup 11 = .ok (.iload_n 2, 1) := by decide +kernel
theorem dX6_settleGroup_12 : decode cX6_settleGroup 12 = .ok (.ireturn, 1) := by decide +kernel
theorem dX6_settleGroup_13 : decode cX6_settleGroup 13 = .ok (.aload_n 0, 1) := by decide +kernel
theorem dX6_settleGroup_14 : decode cX6_settleGroup 14 = .ok (.getfield 28, 3) := by decide +kernel
theorem dX6_settleGroup_17 : decode cX6_settleGroup 17 = .ok (.aload_n 0, 1) := by decide +kernel
theorem dX6_settleGroup_18 : decode cX6_settleGroup 18 = .ok (.getfield 28, 3) := by decide +kernel
theorem dX6_settleGroup_21 : decode cX6_settleGroup 21 = .ok (.iconst 2, 1) := by decide +kernel
theorem dX6_settleGroup_22 : decode cX6_settleGroup 22 = .ok (.iload_n 1, 1) := by decide +kernel
theorem dX6_settleGroup_23 : decode cX6_settleGroup 23 = .ok (.ldc 61, 2) := by decide +kernel
theorem dX6_settleGroup_25 : decode cX6_settleGroup 25 = .ok (.iconst 0, 1) := by decide +kernel
theorem dX6_settleGroup_26 : decode cX6_settleGroup 26 = .ok (.iconst 0, 1) := by decide +kernel
theorem dX6_settleGroup_27 : decode cX6_settleGroup 27 = .ok (.iconst 0, 1) := by decide +kernel
theorem dX6_settleGroup_28 : decode cX6_settleGroup 28 = .ok (.invokevirtual 62, 3) := by decide +kernel
theorem dX6_settleGroup_31 : decode cX6_settleGroup 31 = .ok (.invokevirtual 91, 3) := by decide +kernel
theorem dX6_settleGroup_34 : decode cX6_settleGroup 34 = .ok (.pop, 1) := by decide +kernel
theorem dX6_settleGroup_35 : decode cX6_settleGroup 35 = .ok (.aload_n 0, 1) := by decide +kernel
theorem dX6_settleGroup_36 : decode cX6_settleGroup 36 = .ok (.getfield 21, 3) := by decide +kernel
theorem dX6_settleGroup_39 : decode cX6_settleGroup 39 = .ok (.iload_n 1, 1) := by decide +kernel
theorem dX6_settleGroup_40 : decode cX6_settleGroup 40 = .ok (.invokevirtual 94, 3) := by decide +kernel
theorem dX6_settleGroup_43 : decode cX6_settleGroup 43 = .ok (.aload_n 0, 1) := by decide +kernel
theorem dX6_settleGroup_44 : decode cX6_settleGroup 44 = .ok (.getfield 21, 3) := by decide +kernel
theorem dX6_settleGroup_47 : decode cX6_settleGroup 47 = .ok (.iload_n 1, 1) := by decide +kernel
theorem dX6_settleGroup_48 : decode cX6_settleGroup 48 = .ok (.invokevirtual 98, 3) := by decide +kernel
theorem dX6_settleGroup_51 : decode cX6_settleGroup 51 = .ok (.invokestatic 101, 3) := by decide +kernel
theorem dX6_settleGroup_54 : decode cX6_settleGroup 54 = .ok (.ireturn, 1) := by decide +kernel
theorem dX6_takeGroupBack_0 : decode cX6_takeGroupBack 0 = .ok (.aload_n 0, 1) := by decide +kernel
theorem dX6_takeGroupBack_1 : decode cX6_takeGroupBack 1 = .ok (.getfield 21, 3) := by decide +kernel
theorem dX6_takeGroupBack_4 : decode cX6_takeGroupBack 4 = .ok (.iload_n 1, 1) := by decide +kernel
theorem dX6_takeGroupBack_5 : decode cX6_takeGroupBack 5 = .ok (.invokevirtual 106, 3) := by decide +kernel
theorem dX6_takeGroupBack_8 : decode cX6_takeGroupBack 8 = .ok (.istore_n 2, 1) := by decide +kernel
theorem dX6_takeGroupBack_9 : decode cX6_takeGroupBack 9 = .ok (.aload_n 0, 1) := by decide +kernel
theorem dX6_takeGroupBack_10 : decode cX6_takeGroupBack 10 = .ok (.iload_n 1, 1) := by decide +kernel
theorem dX6_takeGroupBack_11 : decode cX6_takeGroupBack 11 = .ok (.iload_n 2, 1) := by decide +kernel
theorem dX6_takeGroupBack_12 : decode cX6_takeGroupBack 12 = .ok (.iconst 1, 1) := by decide +kernel
theorem dX6_takeGroupBack_13 : decode cX6_takeGroupBack 13 = .ok (.iadd, 1) := by decide +kernel
theorem dX6_takeGroupBack_14 : decode cX6_takeGroupBack 14 = .ok (.invokevirtual 87, 3) := by decide +kernel
theorem dX6_takeGroupBack_17 : decode cX6_takeGroupBack 17 = .ok (.istore_n 3, 1) := by decide +kernel
theorem dX6_takeGroupBack_18 : decode cX6_takeGroupBack 18 = .ok (.iload_n 3, 1) := by decide +kernel
theorem dX6_takeGroupBack_19 : decode cX6_takeGroupBack 19 = .ok (.ifCond .eq 5, 3) := by decide +kernel
theorem dX6_takeGroupBack_22 : decode cX6_takeGroupBack 22 = .ok (.iload_n 3, 1) := by decide +kernel
theorem dX6_takeGroupBack_23 : decode cX6_takeGroupBack 23 = .ok (.ireturn, 1) := by decide +kernel
theorem dX6_takeGroupBack_24 : decode cX6_takeGroupBack 24 = .ok (.aload_n 0, 1) := by decide +kernel
theorem dX6_takeGroupBack_25 : decode cX6_takeGroupBack 25 = .ok (.getfield 21, 3) := by decide +kernel
theorem dX6_takeGroupBack_28 : decode cX6_takeGroupBack 28 = .ok (.iload_n 1, 1) := by decide +kernel
theorem dX6_takeGroupBack_29 : decode cX6_takeGroupBack 29 = .ok (.invokevirtual 109, 3) := by decide +kernel
theorem dX6_takeGroupBack_32 : decode cX6_takeGroupBack 32 = .ok (.istore 4, 2) := by decide +kernel
theorem dX6_takeGroupBack_34 : decode cX6_takeGroupBack 34 = .ok (.aload_n 0, 1) := by decide +kernel
theorem dX6_takeGroupBack_35 : decode cX6_takeGroupBack 35 = .ok (.getfield 28, 3) := by decide +kernel
theorem dX6_takeGroupBack_38 : decode cX6_takeGroupBack 38 = .ok (.invokevirtual 112, 3) := by decide +kernel
theorem dX6_takeGroupBack_41 : decode cX6_takeGroupBack 41 = .ok (.istore 5, 2) := by decide +kernel
theorem dX6_takeGroupBack_43 : decode cX6_takeGroupBack 43 = .ok (.iload 5, 2) := by decide +kernel
theorem dX6_takeGroupBack_45 : decode cX6_takeGroupBack 45 = .ok (.iload 4, 2) := by decide +kernel
theorem dX6_takeGroupBack_47 : decode cX6_takeGroupBack 47 = .ok (.if_icmp .le 67, 3) := by decide +kernel
theorem dX6_takeGroupBack_50 : decode cX6_takeGroupBack 50 = .ok (.aload_n 0, 1) := by decide +kernel
theorem dX6_takeGroupBack_51 : decode cX6_takeGroupBack 51 = .ok (.getfield 28, 3) := by decide +kernel
theorem dX6_takeGroupBack_54 : decode cX6_takeGroupBack 54 = .ok (.aload_n 0, 1) := by decide +kernel
theorem dX6_takeGroupBack_55 : decode cX6_takeGroupBack 55 = .ok (.getfield 28, 3) := by decide +kernel
theorem dX6_takeGroupBack_58 : decode cX6_takeGroupBack 58 = .ok (.getfield 116, 3) := by decide +kernel
theorem dX6_takeGroupBack_61 : decode cX6_takeGroupBack 61 = .ok (.iload 5, 2) := by decide +kernel
theorem dX6_takeGroupBack_63 : decode cX6_takeGroupBack 63 = .ok (.invokevirtual 120, 3) := by decide +kernel
theorem dX6_takeGroupBack_66 : decode cX6_takeGroupBack 66 = .ok (.iload_n 1, 1) := by decide +kernel
theorem dX6_takeGroupBack_67 : decode cX6_takeGroupBack 67 = .ok (.if_icmp .ne 7, 3) := by decide +kernel
theorem dX6_takeGroupBack_70 : decode cX6_takeGroupBack 70 = .ok (.iconst 1, 1) := by decide +kernel
theorem dX6_takeGroupBack_71 : decode cX6_takeGroupBack 71 = .ok (.goto 4, 3) := by decide +kernel
theorem dX6_takeGroupBack_74 : decode cX6_takeGroupBack 74 = .ok (.iconst 0, 1) := by decide +kernel
theorem dX6_takeGroupBack_75 : decode cX6_takeGroupBack 75 = .ok (.istore 6, 2) := by decide +kernel
theorem dX6_takeGroupBack_77 : decode cX6_takeGroupBack 77 = .ok (.iload 6, 2) := by decide +kernel
theorem dX6_takeGroupBack_79 : decode cX6_takeGroupBack 79 = .ok (.ifCond .eq 29, 3) := by decide +kernel
theorem dX6_takeGroupBack_82 : decode cX6_takeGroupBack 82 = .ok (.aload_n 0, 1) := by decide +kernel
theorem dX6_takeGroupBack_83 : decode cX6_takeGroupBack 83 = .ok (.getfield 28, 3) := by decide +kernel
theorem dX6_takeGroupBack_86 : decode cX6_takeGroupBack 86 = .ok (.aload_n 0, 1) := by decide +kernel
theorem dX6_takeGroupBack_87 : decode cX6_takeGroupBack 87 = .ok (.getfield 28, 3) := by decide +kernel
theorem dX6_takeGroupBack_90 : decode cX6_takeGroupBack 90 = .ok (.getfield 124, 3) := by decide +kernel
theorem dX6_takeGroupBack_93 : decode cX6_takeGroupBack 93 = .ok (.iload 5, 2) := by decide +kernel
theorem dX6_takeGroupBack_95 : decode cX6_takeGroupBack 95 = .ok (.invokevirtual 120, 3) := by decide +kernel
theorem dX6_takeGroupBack_98 : decode cX6_takeGroupBack 98 = .ok (.iconst 1, 1) := by decide +kernel
theorem dX6_takeGroupBack_99 : decode cX6_takeGroupBack 99 = .ok (.if_icmp .ne 9, 3) := by decide +kernel
theorem dX6_takeGroupBack_102 : decode cX6_takeGroupBack 102 = .ok (.aload_n 0, 1) := by decide +kernel
theorem dX6_takeGroupBack_103 : decode cX6_takeGroupBack 103 = .ok (.iload 5, 2) := by decide +kernel
theorem dX6_takeGroupBack_105 : decode cX6_takeGroupBack 105 = .ok (.invokevirtual 127, 3) := by decide +kernel
theorem dX6_takeGroupBack_108 : decode cX6_takeGroupBack 108 = .ok (.iinc 5 (-1), 3) := by decide +kernel
theorem dX6_takeGroupBack_111 : decode cX6_takeGroupBack 111 = .ok (.goto (-68), 3) := by decide +kernel
theorem dX6_takeGroupBack_114 : decode cX6_takeGroupBack 114 = .ok (.aload_n 0, 1) := by decide +kernel
theorem dX6_takeGroupBack_115 : decode cX6_takeGroupBack 115 = .ok (.iload_n 1, 1) := by decide +kernel
theorem dX6_takeGroupBack_116 : decode cX6_takeGroupBack 116 = .ok (.invokevirtual 130, 3) := by decide +kernel
theorem dX6_takeGroupBack_119 : decode cX6_takeGroupBack 119 = .ok (.iload_n 2, 1) := by decide +kernel
theorem dX6_takeGroupBack_120 : decode cX6_takeGroupBack 120 = .ok (.ireturn, 1) := by decide +kernel
theorem dX6_takeWriteBack_0 : decode cX6_takeWriteBack 0 = .ok (.aload_n 0, 1) := by decide +kernel
theorem dX6_takeWriteBack_1 : decode cX6_takeWriteBack 1 = .ok (.getfield 28, 3) := by decide +kernel
theorem dX6_takeWriteBack_4 : decode cX6_takeWriteBack 4 = .ok (.aload_n 0, 1) := by decide +kernel
theorem dX6_takeWriteBack_5 : decode cX6_takeWriteBack 5 = .ok (.getfield 28, 3) := by decide +kernel
theorem dX6_takeWriteBack_8 : decode cX6_takeWriteBack 8 = .ok (.getfield 116, 3) := by decide +kernel
theorem dX6_takeWriteBack_11 : decode cX6_takeWriteBack 11 = .ok (.iload_n 1, 1) := by decide +kernel
theorem dX6_takeWriteBack_12 : decode cX6_takeWriteBack 12 = .ok (.invokevirtual 120, 3) := by decide +kernel
theorem dX6_takeWriteBack_15 : decode cX6_takeWriteBack 15 = .ok (.istore_n 2, 1) := by decide +kernel
theorem dX6_takeWriteBack_16 : decode cX6_takeWriteBack 16 = .ok (.aload_n 0, 1) := by decide +kernel
theorem dX6_takeWriteBack_17 : decode cX6_takeWriteBack 17 = .ok (.getfield 28, 3) := by decide +kernel
theorem dX6_takeWriteBack_20 : decode cX6_takeWriteBack 20 = .ok (.aload_n 0, 1) := by decide +kernel
theorem dX6_takeWriteBack_21 : decode cX6_takeWriteBack 21 = .ok (.getfield 28, 3) := by decide +kernel
theorem dX6_takeWriteBack_24 : decode cX6_takeWriteBack 24 = .ok (.getfield 133, 3) := by decide +kernel
theorem dX6_takeWriteBack_27 : decode cX6_takeWriteBack 27 = .ok (.iload_n 1, 1) := by decide +kernel
theorem dX6_takeWriteBack_28 : decode cX6_takeWriteBack 28 = .ok (.invokevirtual 120, 3) := by decide +kernel
theorem dX6_takeWriteBack_31 : decode cX6_takeWriteBack 31 = .ok (.istore_n 3, 1) := by decide +kernel
theorem dX6_takeWriteBack_32 : decode cX6_takeWriteBack 32 = .ok (.aload_n 0, 1) := by decide +kernel
theorem dX6_takeWriteBack_33 : decode cX6_takeWriteBack 33 = .ok (.getfield 28, 3) := by decide +kernel
theorem dX6_takeWriteBack_36 : decode cX6_takeWriteBack 36 = .ok (.aload_n 0, 1) := by decide +kernel
theorem dX6_takeWriteBack_37 : decode cX6_takeWriteBack 37 = .ok (.getfield 28, 3) := by decide +kernel
theorem dX6_takeWriteBack_40 : decode cX6_takeWriteBack 40 = .ok (.getfield 136, 3) := by decide +kernel
theorem dX6_takeWriteBack_43 : decode cX6_takeWriteBack 43 = .ok (.iload_n 1, 1) := by decide +kernel
theorem dX6_takeWriteBack_44 : decode cX6_takeWriteBack 44 = .ok (.invokevirtual 120, 3) := by decide +kernel
theorem dX6_takeWriteBack_47 : decode cX6_takeWriteBack 47 = .ok (.istore 4, 2) := by decide +kernel
theorem dX6_takeWriteBack_49 : decode cX6_takeWriteBack 49 = .ok (.aload_n 0, 1) := by decide +kernel
theorem dX6_takeWriteBack_50 : decode cX6_takeWriteBack 50 = .ok (.getfield 12, 3) := by decide +kernel
theorem dX6_takeWriteBack_53 : decode cX6_takeWriteBack 53 = .ok (.iload_n 3, 1) := by decide +kernel
theorem dX6_takeWriteBack_54 : decode cX6_takeWriteBack 54 = .ok (.invokevirtual 74, 3) := by decide +kernel
theorem dX6_takeWriteBack_57 : decode cX6_takeWriteBack 57 = .ok (.istore 5, 2) := by decide +kernel
theorem dX6_takeWriteBack_59 : decode cX6_takeWriteBack 59 = .ok (.aload_n 0, 1) := by decide +kernel
theorem dX6_takeWriteBack_60 : decode cX6_takeWriteBack 60 = .ok (.getfield 12, 3) := by decide +kernel
theorem dX6_takeWriteBack_63 : decode cX6_takeWriteBack 63 = .ok (.iload_n 3, 1) := by decide +kernel
theorem dX6_takeWriteBack_64 : decode cX6_takeWriteBack 64 = .ok (.iload 4, 2) := by decide +kernel
theorem dX6_takeWriteBack_66 : decode cX6_takeWriteBack 66 = .ok (.aload_n 0, 1) := by decide +kernel
theorem dX6_takeWriteBack_67 : decode cX6_takeWriteBack 67 = .ok (.getfield 28, 3) := by decide +kernel
theorem dX6_takeWriteBack_70 : decode cX6_takeWriteBack 70 = .ok (.iconst 3, 1) := by decide +kernel
theorem dX6_takeWriteBack_71 : decode cX6_takeWriteBack 71 = .ok (.iload_n 2, 1) := by decide +kernel
theorem dX6_takeWriteBack_72 : decode cX6_takeWriteBack 72 = .ok (.iload_n 3, 1) := by decide +kernel
theorem dX6_takeWriteBack_73 : decode cX6_takeWriteBack 73 = .ok (.iload 5, 2) := by decide +kernel
theorem dX6_takeWriteBack_75 : decode cX6_takeWriteBack 75 = .ok (.iload 4, 2) := by decide +kernel
theorem dX6_takeWriteBack_77 : decode cX6_takeWriteBack 77 = .ok (.iload_n 1, 1) := by decide +kernel
theorem dX6_takeWriteBack_78 : decode cX6_takeWriteBack 78 = .ok (.invokevirtual 62, 3) := by decide +kernel
theorem dX6_takeWriteBack_81 : decode cX6_takeWriteBack 81 = .ok (.invokevirtual 77, 3) := by decide +kernel
theorem dX6_takeWriteBack_84 : decode cX6_takeWriteBack 84 = .ok (.return_, 1) := by decide +kernel
theorem dX6_endGroup_0 : decode cX6_endGroup 0 = .ok (.aload_n 0, 1) := by decide +kernel
theorem dX6_endGroup_1 : decode cX6_endGroup 1 = .ok (.getfield 28, 3) := by decide +kernel
theorem dX6_endGroup_4 : decode cX6_endGroup 4 = .ok (.iconst 4, 1) := by decide +kernel
theorem dX6_endGroup_5 : decode cX6_endGroup 5 = .ok (.iload_n 1, 1) := by decide +kernel
theorem dX6_endGroup_6 : decode cX6_endGroup 6 = .ok (.ldc 61, 2) := by decide +kernel
theorem dX6_endGroup_8 : decode cX6_endGroup 8 = .ok (.iconst 0, 1) := by decide +kernel
theorem dX6_endGroup_9 : decode cX6_endGroup 9 = .ok (.iconst 0, 1) := by decide +kernel
theorem dX6_endGroup_10 : decode cX6_endGroup 10 = .ok (.iconst 0, 1) := by decide +kernel
theorem dX6_endGroup_11 : decode cX6_endGroup 11 = .ok (.invokevirtual 62, 3) := by decide +kernel
theorem dX6_endGroup_14 : decode cX6_endGroup 14 = .ok (.pop, 1) := by decide +kernel
theorem dX6_endGroup_15 : decode cX6_endGroup 15 = .ok (.aload_n 0, 1) := by decide +kernel
theorem dX6_endGroup_16 : decode cX6_endGroup 16 = .ok (.getfield 21, 3) := by decide +kernel
theorem dX6_endGroup_19 : decode cX6_endGroup 19 = .ok (.iload_n 1, 1) := by decide +kernel
theorem dX6_endGroup_20 : decode cX6_endGroup 20 = .ok (.invokevirtual 94, 3) := by decide +kernel
theorem dX6_endGroup_23 : decode cX6_endGroup 23 = .ok (.return_, 1) := by decide +kernel
theorem dX6_writePageOut_0 : decode cX6_writePageOut 0 = .ok (.iload_n 1, 1) := by decide +kernel
theorem dX6_writePageOut_1 : decode cX6_writePageOut 1 = .ok (.ifCond .lt 9, 3) := by decide +kernel
theorem dX6_writePageOut_4 : decode cX6_writePageOut 4 = .ok (.iload_n 1, 1) := by decide +kernel
theorem dX6_writePageOut_5 : decode cX6_writePageOut 5 = .ok (.bipush 8, 2) := by decide +kernel
theorem dX6_writePageOut_7 : decode cX6_writePageOut 7 = .ok (.if_icmp .lt 6, 3) := by decide +kernel
theorem dX6_writePageOut_10 : decode cX6_writePageOut 10 = .ok (.ldc 50, 2) := by decide +kernel
theorem dX6_writePageOut_12 : decode cX6_writePageOut 12 = .ok (.ireturn, 1) := by decide +kernel
theorem dX6_writePageOut_13 : decode cX6_writePageOut 13 = .ok (.aload_n 0, 1) := by decide +kernel
theorem dX6_writePageOut_14 : decode cX6_writePageOut 14 = .ok (.getfield 42, 3) := by decide +kernel
theorem dX6_writePageOut_17 : decode cX6_writePageOut 17 = .ok (.ifCond .ne 17, 3) := by decide +kernel
theorem dX6_writePageOut_20 : decode cX6_writePageOut 20 = .ok (.aload_n 0, 1) := by decide +kernel
theorem dX6_writePageOut_21 : decode cX6_writePageOut 21 = .ok (.getfield 12, 3) := by decide +kernel
theorem dX6_writePageOut_24 : decode cX6_writePageOut 24 = .ok (.getfield 139, 3) := by decide +kernel
theorem dX6_writePageOut_27 : decode cX6_writePageOut 27 = .ok (.iload_n 1, 1) := by decide +kernel
theorem dX6_writePageOut_28 : decode cX6_writePageOut 28 = .ok (.ishr, 1) := by decide +kernel
theorem dX6_writePageOut_29 : decode cX6_writePageOut 29 = .ok (.iconst 1, 1) := by decide +kernel
theorem dX6_writePageOut_30 : decode cX6_writePageOut 30 = .ok (.iand, 1) := by decide +kernel
theorem dX6_writePageOut_31 : decode cX6_writePageOut 31 = .ok (.ifCond .ne 6, 3) := by decide +kernel
theorem dX6_writePageOut_34 : decode cX6_writePageOut 34 = .ok (.ldc 55, 2) := by decide +kernel
theorem dX6_writePageOut_36 : decode cX6_writePageOut 36 = .ok (.ireturn, 1) := by decide +kernel
theorem dX6_writePageOut_37 : decode cX6_writePageOut 37 = .ok (.aload_n 0, 1) := by decide +kernel
theorem dX6_writePageOut_38 : decode cX6_writePageOut 38 = .ok (.getfield 28, 3) := by decide +kernel
theorem dX6_writePageOut_41 : decode cX6_writePageOut 41 = .ok (.aload_n 0, 1) := by decide +kernel
theorem dX6_writePageOut_42 : decode cX6_writePageOut 42 = .ok (.getfield 12, 3) := by decide +kernel
theorem dX6_writePageOut_45 : decode cX6_writePageOut 45 = .ok (.iload_n 1, 1) := by decide +kernel
theorem dX6_writePageOut_46 : decode cX6_writePageOut 46 = .ok (.invokevirtual 142, 3) := by decide +kernel
theorem dX6_writePageOut_49 : decode cX6_writePageOut 49 = .ok (.invokevirtual 91, 3) := by decide +kernel
theorem dX6_writePageOut_52 : decode cX6_writePageOut 52 = .ok (.istore_n 2, 1) := by decide +kernel
theorem dX6_writePageOut_53 : decode cX6_writePageOut 53 = .ok (.aload_n 0, 1) := by decide +kernel
theorem dX6_writePageOut_54 : decode cX6_writePageOut 54 = .ok (.getfield 12, 3) := by decide +kernel
theorem dX6_writePageOut_57 : decode cX6_writePageOut 57 = .ok (.iload_n 1, 1) := by decide +kernel
theorem dX6_writePageOut_58 : decode cX6_writePageOut 58 = .ok (.invokevirtual 145, 3) := by decide +kernel
theorem dX6_writePageOut_61 : decode cX6_writePageOut 61 = .ok (.iload_n 2, 1) := by decide +kernel
theorem dX6_writePageOut_62 : decode cX6_writePageOut 62 = .ok (.ireturn, 1) := by decide +kernel
theorem dX6_dropPageOut_0 : decode cX6_dropPageOut 0 = .ok (.iload_n 1, 1) := by decide +kernel
theorem dX6_dropPageOut_1 : decode cX6_dropPageOut 1 = .ok (.ifCond .lt 9, 3) := by decide +kernel
theorem dX6_dropPageOut_4 : decode cX6_dropPageOut 4 = .ok (.iload_n 1, 1) := by decide +kernel
theorem dX6_dropPageOut_5 : decode cX6_dropPageOut 5 = .ok (.bipush 8, 2) := by decide +kernel
theorem dX6_dropPageOut_7 : decode cX6_dropPageOut 7 = .ok (.if_icmp .lt 6, 3) := by decide +kernel
theorem dX6_dropPageOut_10 : decode cX6_dropPageOut 10 = .ok (.ldc 50, 2) := by decide +kernel
theorem dX6_dropPageOut_12 : decode cX6_dropPageOut 12 = .ok (.ireturn, 1) := by decide +kernel
theorem dX6_dropPageOut_13 : decode cX6_dropPageOut 13 = .ok (.aload_n 0, 1) := by decide +kernel
theorem dX6_dropPageOut_14 : decode cX6_dropPageOut 14 = .ok (.getfield 12, 3) := by decide +kernel
theorem dX6_dropPageOut_17 : decode cX6_dropPageOut 17 = .ok (.getfield 148, 3) := by decide +kernel
theorem dX6_dropPageOut_20 : decode cX6_dropPageOut 20 = .ok (.aload_n 0, 1) := by decide +kernel
theorem dX6_dropPageOut_21 : decode cX6_dropPageOut 21 = .ok (.getfield 12, 3) := by decide +kernel
theorem dX6_dropPageOut_24 : decode cX6_dropPageOut 24 = .ok (.getfield 139, 3) := by decide +kernel
theorem dX6_dropPageOut_27 : decode cX6_dropPageOut 27 = .ok (.iconst (-1), 1) := by decide +kernel
theorem dX6_dropPageOut_28 : decode cX6_dropPageOut 28 = .ok (.ixor, 1) := by decide +kernel
theorem dX6_dropPageOut_29 : decode cX6_dropPageOut 29 = .ok (.iand, 1) := by decide +kernel
theorem dX6_dropPageOut_30 : decode cX6_dropPageOut 30 = .ok (.istore_n 2, 1) := by decide +kernel
theorem dX6_dropPageOut_31 : decode cX6_dropPageOut 31 = .ok (.aload_n 0, 1) := by decide +kernel
theorem dX6_dropPageOut_32 : decode cX6_dropPageOut 32 = .ok (.getfield 42, 3) := by decide +kernel
theorem dX6_dropPageOut_35 : decode cX6_dropPageOut 35 = .ok (.ifCond .ne 11, 3) := by decide +kernel
theorem dX6_dropPageOut_38 : decode cX6_dropPageOut 38 = .ok (.iload_n 2, 1) := by decide +kernel
theorem dX6_dropPageOut_39 : decode cX6_dropPageOut 39 = .ok (.iload_n 1, 1) := by decide +kernel
theorem dX6_dropPageOut_40 : decode cX6_dropPageOut 40 = .ok (.ishr, 1) := by decide +kernel
theorem dX6_dropPageOut_41 : decode cX6_dropPageOut 41 = .ok (.iconst 1, 1) := by decide +kernel
theorem dX6_dropPageOut_42 : decode cX6_dropPageOut 42 = .ok (.iand, 1) := by decide +kernel
theorem dX6_dropPageOut_43 : decode cX6_dropPageOut 43 = .ok (.ifCond .ne 6, 3) := by decide +kernel
theorem dX6_dropPageOut_46 : decode cX6_dropPageOut 46 = .ok (.ldc 55, 2) := by decide +kernel
theorem dX6_dropPageOut_48 : decode cX6_dropPageOut 48 = .ok (.ireturn, 1) := by decide +kernel
theorem dX6_dropPageOut_49 : decode cX6_dropPageOut 49 = .ok (.aload_n 0, 1) := by decide +kernel
theorem dX6_dropPageOut_50 : decode cX6_dropPageOut 50 = .ok (.getfield 12, 3) := by decide +kernel
theorem dX6_dropPageOut_53 : decode cX6_dropPageOut 53 = .ok (.dup, 1) := by decide +kernel
theorem dX6_dropPageOut_54 : decode cX6_dropPageOut 54 = .ok (.getfield 148, 3) := by decide +kernel
theorem dX6_dropPageOut_57 : decode cX6_dropPageOut 57 = .ok (.iconst 1, 1) := by decide +kernel
theorem dX6_dropPageOut_58 : decode cX6_dropPageOut 58 = .ok (.iload_n 1, 1) := by decide +kernel
theorem dX6_dropPageOut_59 : decode cX6_dropPageOut 59 = .ok (.ishl, 1) := by decide +kernel
theorem dX6_dropPageOut_60 : decode cX6_dropPageOut 60 = .ok (.iconst (-1), 1) := by decide +kernel
theorem dX6_dropPageOut_61 : decode cX6_dropPageOut 61 = .ok (.ixor, 1) := by decide +kernel
theorem dX6_dropPageOut_62 : decode cX6_dropPageOut 62 = .ok (.iand, 1) := by decide +kernel
theorem dX6_dropPageOut_63 : decode cX6_dropPageOut 63 = .ok (.putfield 148, 3) := by decide +kernel
theorem dX6_dropPageOut_66 : decode cX6_dropPageOut 66 = .ok (.aload_n 0, 1) := by decide +kernel
theorem dX6_dropPageOut_67 : decode cX6_dropPageOut 67 = .ok (.getfield 12, 3) := by decide +kernel
theorem dX6_dropPageOut_70 : decode cX6_dropPageOut 70 = .ok (.getfield 148, 3) := by decide +kernel
theorem dX6_dropPageOut_73 : decode cX6_dropPageOut 73 = .ok (.invokestatic 101, 3) := by decide +kernel
theorem dX6_dropPageOut_76 : decode cX6_dropPageOut 76 = .ok (.ireturn, 1) := by decide +kernel
theorem dX6_makeCheckpoint_0 : decode cX6_makeCheckpoint 0 = .ok (.aload_n 0, 1) := by decide +kernel
theorem dX6_makeCheckpoint_1 : decode cX6_makeCheckpoint 1 = .ok (.getfield 42, 3) := by decide +kernel
theorem dX6_makeCheckpoint_4 : decode cX6_makeCheckpoint 4 = .ok (.ifCond .eq 6, 3) := by decide +kernel
theorem dX6_makeCheckpoint_7 : decode cX6_makeCheckpoint 7 = .ok (.ldc 55, 2) := by decide +kernel
theorem dX6_makeCheckpoint_9 : decode cX6_makeCheckpoint 9 = .ok (.ireturn, 1) := by decide +kernel
theorem dX6_makeCheckpoint_10 : decode cX6_makeCheckpoint 10 = .ok (.aload_n 0, 1) := by decide +kernel
theorem dX6_makeCheckpoint_11 : decode cX6_makeCheckpoint 11 = .ok (.getfield 28, 3) := by decide +kernel
theorem dX6_makeCheckpoint_14 : decode cX6_makeCheckpoint 14 = .ok (.invokevirtual 56, 3) := by decide +kernel
theorem dX6_makeCheckpoint_17 : decode cX6_makeCheckpoint 17 = .ok (.ifCond .eq 6, 3) := by decide +kernel
theorem dX6_makeCheckpoint_20 : decode cX6_makeCheckpoint 20 = .ok (.ldc 60, 2) := by decide +kernel
theorem dX6_makeCheckpoint_22 : decode cX6_makeCheckpoint 22 = .ok (.ireturn, 1) := by decide +kernel
theorem dX6_makeCheckpoint_23 : decode cX6_makeCheckpoint 23 = .ok (.aload_n 0, 1) := by decide +kernel
theorem dX6_makeCheckpoint_24 : decode cX6_makeCheckpoint 24 = .ok (.getfield 28, 3) := by decide +kernel
theorem dX6_makeCheckpoint_27 : decode cX6_makeCheckpoint 27 = .ok (.aload_n 0, 1) := by decide +kernel
theorem dX6_makeCheckpoint_28 : decode cX6_makeCheckpoint 28 = .ok (.getfield 21, 3) := by decide +kernel
theorem dX6_makeCheckpoint_31 : decode cX6_makeCheckpoint 31 = .ok (.aload_n 0, 1) := by decide +kernel
theorem dX6_makeCheckpoint_32 : decode cX6_makeCheckpoint 32 = .ok (.getfield 12, 3) := by decide +kernel
theorem dX6_makeCheckpoint_35 : decode cX6_makeCheckpoint 35 = .ok (.invokevirtual 151, 3) := by decide +kernel
theorem dX6_makeCheckpoint_38 : decode cX6_makeCheckpoint 38 = .ok (.ireturn, 1) := by decide +kernel
theorem dX6_dropOldRecords_0 : decode cX6_dropOldRecords 0 = .ok (.aload_n 0, 1) := by decide +kernel
theorem dX6_dropOldRecords_1 : decode cX6_dropOldRecords 1 = .ok (.getfield 42, 3) := by decide +kernel
theorem dX6_dropOldRecords_4 : decode cX6_dropOldRecords 4 = .ok (.ifCond .ne 13, 3) := by decide +kernel
theorem dX6_dropOldRecords_7 : decode cX6_dropOldRecords 7 = .ok (.aload_n 0, 1) := by decide +kernel
theorem dX6_dropOldRecords_8 : decode cX6_dropOldRecords 8 = .ok (.getfield 28, 3) := by decide +kernel
theorem dX6_dropOldRecords_11 : decode cX6_dropOldRecords 11 = .ok (.getfield 155, 3) := by decide +kernel
theorem dX6_dropOldRecords_14 : decode cX6_dropOldRecords 14 = .ok (.ifCond .ne 6, 3) := by decide +kernel
theorem dX6_dropOldRecords_17 : decode cX6_dropOldRecords 17 = .ok (.ldc 55, 2) := by decide +kernel
theorem dX6_dropOldRecords_19 : decode cX6_dropOldRecords 19 = .ok (.ireturn, 1) := by decide +kernel
theorem dX6_dropOldRecords_20 : decode cX6_dropOldRecords 20 = .ok (.aload_n 0, 1) := by decide +kernel
theorem dX6_dropOldRecords_21 : decode cX6_dropOldRecords 21 = .ok (.getfield 28, 3) := by decide +kernel
theorem dX6_dropOldRecords_24 : decode cX6_dropOldRecords 24 = .ok (.invokevirtual 158, 3) := by decide +kernel
theorem dX6_dropOldRecords_27 : decode cX6_dropOldRecords 27 = .ok (.ireturn, 1) := by decide +kernel
theorem dX6_forceAll_0 : decode cX6_forceAll 0 = .ok (.aload_n 0, 1) := by decide +kernel
theorem dX6_forceAll_1 : decode cX6_forceAll 1 = .ok (.getfield 42, 3) := by decide +kernel
theorem dX6_forceAll_4 : decode cX6_forceAll 4 = .ok (.ifCond .eq 8, 3) := by decide +kernel
theorem dX6_forceAll_7 : decode cX6_forceAll 7 = .ok (.ldc 55, 2) := by decide +kernel
theorem dX6_forceAll_9 : decode cX6_forceAll 9 = .ok (.goto 17, 3) := by decide +kernel
theorem dX6_forceAll_12 : decode cX6_forceAll 12 = .ok (.aload_n 0, 1) := by decide +kernel
theorem dX6_forceAll_13 : decode cX6_forceAll 13 = .ok (.getfield 28, 3) := by decide +kernel
theorem dX6_forceAll_16 : decode cX6_forceAll 16 = .ok (.aload_n 0, 1) := by decide +kernel
theorem dX6_forceAll_17 : decode cX6_forceAll 17 = .ok (.getfield 28, 3) := by decide +kernel
theorem dX6_forceAll_20 : decode cX6_forceAll 20 = .ok (.invokevirtual 112, 3) := by decide +kernel
theorem dX6_forceAll_23 : decode cX6_forceAll 23 = .ok (.invokevirtual 91, 3) := by decide +kernel
theorem dX6_forceAll_26 : decode cX6_forceAll 26 = .ok (.ireturn, 1) := by decide +kernel
theorem dX6_stopStore_0 : decode cX6_stopStore 0 = .ok (.iload_n 1, 1) := by decide +kernel
theorem dX6_stopStore_1 : decode cX6_stopStore 1 = .ok (.ifCond .lt 8, 3) := by decide +kernel
theorem dX6_stopStore_4 : decode cX6_stopStore 4 = .ok (.iload_n 1, 1) := by decide +kernel
theorem dX6_stopStore_5 : decode cX6_stopStore 5 = .ok (.iconst 1, 1) := by decide +kernel
theorem dX6_stopStore_6 : decode cX6_stopStore 6 = .ok (.if_icmp .le 6, 3) := by decide +kernel
theorem dX6_stopStore_9 : decode cX6_stopStore 9 = .ok (.ldc 50, 2) := by decide +kernel
theorem dX6_stopStore_11 : decode cX6_stopStore 11 = .ok (.ireturn, 1) := by decide +kernel
theorem dX6_stopStore_12 : decode cX6_stopStore 12 = .ok (.aload_n 0, 1) := by decide +kernel
theorem dX6_stopStore_13 : decode cX6_stopStore 13 = .ok (.getfield 42, 3) := by decide +kernel
theorem dX6_stopStore_16 : decode cX6_stopStore 16 = .ok (.ifCond .eq 6, 3) := by decide +kernel
theorem dX6_stopStore_19 : decode cX6_stopStore 19 = .ok (.ldc 55, 2) := by decide +kernel
theorem dX6_stopStore_21 : decode cX6_stopStore 21 = .ok (.ireturn, 1) := by decide +kernel
theorem dX6_stopStore_22 : decode cX6_stopStore 22 = .ok (.aload_n 0, 1) := by decide +kernel
theorem dX6_stopStore_23 : decode cX6_stopStore 23 = .ok (.getfield 28, 3) := by decide +kernel
theorem dX6_stopStore_26 : decode cX6_stopStore 26 = .ok (.iload_n 1, 1) := by decide +kernel
theorem dX6_stopStore_27 : decode cX6_stopStore 27 = .ok (.iconst 1, 1) := by decide +kernel
theorem dX6_stopStore_28 : decode cX6_stopStore 28 = .ok (.if_icmp .ne 7, 3) := by decide +kernel
theorem dX6_stopStore_31 : decode cX6_stopStore 31 = .ok (.iconst 1, 1) := by decide +kernel
theorem dX6_stopStore_32 : decode cX6_stopStore 32 = .ok (.goto 4, 3) := by decide +kernel
theorem dX6_stopStore_35 : decode cX6_stopStore 35 = .ok (.iconst 0, 1) := by decide +kernel
theorem dX6_stopStore_36 : decode cX6_stopStore 36 = .ok (.aload_n 0, 1) := by decide +kernel
theorem dX6_stopStore_37 : decode cX6_stopStore 37 = .ok (.getfield 12, 3) := by decide +kernel
theorem dX6_stopStore_40 : decode cX6_stopStore 40 = .ok (.invokevirtual 161, 3) := by decide +kernel
theorem dX6_stopStore_43 : decode cX6_stopStore 43 = .ok (.invokevirtual 164, 3) := by decide +kernel
theorem dX6_stopStore_46 : decode cX6_stopStore 46 = .ok (.istore_n 2, 1) := by decide +kernel
theorem dX6_stopStore_47 : decode cX6_stopStore 47 = .ok (.aload_n 0, 1) := by decide +kernel
theorem dX6_stopStore_48 : decode cX6_stopStore 48 = .ok (.getfield 12, 3) := by decide +kernel
theorem dX6_stopStore_51 : decode cX6_stopStore 51 = .ok (.invokevirtual 168, 3) := by decide +kernel
theorem dX6_stopStore_54 : decode cX6_stopStore 54 = .ok (.aload_n 0, 1) := by decide +kernel
theorem dX6_stopStore_55 : decode cX6_stopStore 55 = .ok (.getfield 21, 3) := by decide +kernel
theorem dX6_stopStore_58 : decode cX6_stopStore 58 = .ok (.iconst 0, 1) := by decide +kernel
theorem dX6_stopStore_59 : decode cX6_stopStore 59 = .ok (.putfield 171, 3) := by decide +kernel
theorem dX6_stopStore_62 : decode cX6_stopStore 62 = .ok (.aload_n 0, 1) := by decide +kernel
theorem dX6_stopStore_63 : decode cX6_stopStore 63 = .ok (.iconst 1, 1) := by decide +kernel
theorem dX6_stopStore_64 : decode cX6_stopStore 64 = .ok (.putfield 42, 3) := by decide +kernel
theorem dX6_stopStore_67 : decode cX6_stopStore 67 = .ok (.iload_n 2, 1) := by decide +kernel
theorem dX6_stopStore_68 : decode cX6_stopStore 68 = .ok (.ireturn, 1) := by decide +kernel
theorem dX7_init_0 : decode cX7_init 0 = .ok (.aload_n 0, 1) := by decide +kernel
theorem dX7_init_1 : decode cX7_init 1 = .ok (.invokespecial 1, 3) := by decide +kernel
theorem dX7_init_4 : decode cX7_init 4 = .ok (.aload_n 0, 1) := by decide +kernel
theorem dX7_init_5 : decode cX7_init 5 = .ok (.new 7, 3) := by decide +kernel
theorem dX7_init_8 : decode cX7_init 8 = .ok (.dup, 1) := by decide +kernel
theorem dX7_init_9 : decode cX7_init 9 = .ok (.invokespecial 9, 3) := by decide +kernel
theorem dX7_init_12 : decode cX7_init 12 = .ok (.putfield 10, 3) := by decide +kernel
theorem dX7_init_15 : decode cX7_init 15 = .ok (.aload_n 0, 1) := by decide +kernel
theorem dX7_init_16 : decode cX7_init 16 = .ok (.new 7, 3) := by decide +kernel
theorem dX7_init_19 : decode cX7_init 19 = .ok (.dup, 1) := by decide +kernel
theorem dX7_init_20 : decode cX7_init 20 = .ok (.invokespecial 9, 3) := by decide +kernel
theorem dX7_init_23 : decode cX7_init 23 = .ok (.putfield 16, 3) := by decide +kernel
theorem dX7_init_26 : decode cX7_init 26 = .ok (.aload_n 0, 1) := by decide +kernel
theorem dX7_init_27 : decode cX7_init 27 = .ok (.new 19, 3) := by decide +kernel
theorem dX7_init_30 : decode cX7_init 30 = .ok (.dup, 1) := by decide +kernel
theorem dX7_init_31 : decode cX7_init 31 = .ok (.invokespecial 21, 3) := by decide +kernel
theorem dX7_init_34 : decode cX7_init 34 = .ok (.putfield 22, 3) := by decide +kernel
theorem dX7_init_37 : decode cX7_init 37 = .ok (.aload_n 0, 1) := by decide +kernel
theorem dX7_init_38 : decode cX7_init 38 = .ok (.new 26, 3) := by decide +kernel
theorem dX7_init_41 : decode cX7_init 41 = .ok (.dup, 1) := by decide +kernel
theorem dX7_init_42 : decode cX7_init 42 = .ok (.invokespecial 28, 3) := by decide +kernel
theorem dX7_init_45 : decode cX7_init 45 = .ok (.putfield 29, 3) := by decide +kernel
theorem dX7_init_48 : decode cX7_init 48 = .ok (.aload_n 0, 1) := by decide +kernel
theorem dX7_init_49 : decode cX7_init 49 = .ok (.new 33, 3) := by decide +kernel
theorem dX7_init_52 : decode cX7_init 52 = .ok (.dup, 1) := by decide +kernel
theorem dX7_init_53 : decode cX7_init 53 = .ok (.invokespecial 35, 3) := by decide +kernel
theorem dX7_init_56 : decode cX7_init 56 = .ok (.putfield 36, 3) := by decide +kernel
theorem dX7_init_59 : decode cX7_init 59 = .ok (.return_, 1) := by decide +kernel
theorem dX7_begin_0 : decode cX7_begin 0 = .ok (.aload_n 0, 1) := by decide +kernel
theorem dX7_begin_1 : decode cX7_begin 1 = .ok (.getfield 29, 3) := by decide +kernel
theorem dX7_begin_4 : decode cX7_begin 4 = .ok (.aload_n 0, 1) := by decide +kernel
theorem dX7_begin_5 : decode cX7_begin 5 = .ok (.getfield 10, 3) := by decide +kernel
theorem dX7_begin_8 : decode cX7_begin 8 = .ok (.invokevirtual 40, 3) := by decide +kernel
theorem dX7_begin_11 : decode cX7_begin 11 = .ok (.aload_n 0, 1) := by decide +kernel
theorem dX7_begin_12 : decode cX7_begin 12 = .ok (.getfield 29, 3) := by decide +kernel
theorem dX7_begin_15 : decode cX7_begin 15 = .ok (.aload_n 0, 1) := by decide +kernel
theorem dX7_begin_16 : decode cX7_begin 16 = .ok (.getfield 10, 3) := by decide +kernel
theorem dX7_begin_19 : decode cX7_begin 19 = .ok (.iload_n 1, 1) := by decide +kernel
theorem dX7_begin_20 : decode cX7_begin 20 = .ok (.invokevirtual 44, 3) := by decide +kernel
theorem dX7_begin_23 : decode cX7_begin 23 = .ok (.invokevirtual 48, 3) := by decide +kernel
theorem dX7_begin_26 : decode cX7_begin 26 = .ok (.ireturn, 1) := by decide +kernel
theorem dX7_write_0 : decode cX7_write 0 = .ok (.aload_n 0, 1) := by decide +kernel
theorem dX7_write_1 : decode cX7_write 1 = .ok (.getfield 29, 3) := by decide +kernel
theorem dX7_write_4 : decode cX7_write 4 = .ok (.aload_n 0, 1) := by decide +kernel
theorem dX7_write_5 : decode cX7_write 5 = .ok (.getfield 10, 3) := by decide +kernel
theorem dX7_write_8 : decode cX7_write 8 = .ok (.invokevirtual 40, 3) := by decide +kernel
theorem dX7_write_11 : decode cX7_write 11 = .ok (.aload_n 0, 1) := by decide +kernel
theorem dX7_write_12 : decode cX7_write 12 = .ok (.getfield 29, 3) := by decide +kernel
theorem dX7_write_15 : decode cX7_write 15 = .ok (.aload_n 0, 1) := by decide +kernel
theorem dX7_write_16 : decode cX7_write 16 = .ok (.getfield 10, 3) := by decide +kernel
theorem dX7_write_19 : decode cX7_write 19 = .ok (.iload_n 1, 1) := by decide +kernel
theorem dX7_write_20 : decode cX7_write 20 = .ok (.iload_n 2, 1) := by decide +kernel
theorem dX7_write_21 : decode cX7_write 21 = .ok (.iload_n 3, 1) := by decide +kernel
theorem dX7_write_22 : decode cX7_write 22 = .ok (.invokevirtual 51, 3) := by decide +kernel
theorem dX7_write_25 : decode cX7_write 25 = .ok (.invokevirtual 48, 3) := by decide +kernel
theorem dX7_write_28 : decode cX7_write 28 = .ok (.ireturn, 1) := by decide +kernel
theorem dX7_settle_0 : decode cX7_settle 0 = .ok (.aload_n 0, 1) := by decide +kernel
theorem dX7_settle_1 : decode cX7_settle 1 = .ok (.getfield 29, 3) := by decide +kernel
theorem dX7_settle_4 : decode cX7_settle 4 = .ok (.aload_n 0, 1) := by decide +kernel
theorem dX7_settle_5 : decode cX7_settle 5 = .ok (.getfield 10, 3) := by decide +kernel
theorem dX7_settle_8 : decode cX7_settle 8 = .ok (.invokevirtual 40, 3) := by decide +kernel
theorem dX7_settle_11 : decode cX7_settle 11 = .ok (.aload_n 0, 1) := by decide +kernel
theorem dX7_settle_12 : decode cX7_settle 12 = .ok (.getfield 29, 3) := by decide +kernel
theorem dX7_settle_15 : decode cX7_settle 15 = .ok (.aload_n 0, 1) := by decide +kernel
theorem dX7_settle_16 : decode cX7_settle 16 = .ok (.getfield 10, 3) := by decide +kernel
theorem dX7_settle_19 : decode cX7_settle 19 = .ok (.iload_n 1, 1) := by decide +kernel
theorem dX7_settle_20 : decode cX7_settle 20 = .ok (.invokevirtual 55, 3) := by decide +kernel
theorem dX7_settle_23 : decode cX7_settle 23 = .ok (.invokevirtual 48, 3) := by decide +kernel
theorem dX7_settle_26 : decode cX7_settle 26 = .ok (.ireturn, 1) := by decide +kernel
theorem dX7_takeBack_0 : decode cX7_takeBack 0 = .ok (.aload_n 0, 1) := by decide +kernel
theorem dX7_takeBack_1 : decode cX7_takeBack 1 = .ok (.getfield 29, 3) := by decide +kernel
theorem dX7_takeBack_4 : decode cX7_takeBack 4 = .ok (.aload_n 0, 1) := by decide +kernel
theorem dX7_takeBack_5 : decode cX7_takeBack 5 = .ok (.getfield 10, 3) := by decide +kernel
theorem dX7_takeBack_8 : decode cX7_takeBack 8 = .ok (.invokevirtual 40, 3) := by decide +kernel
theorem dX7_takeBack_11 : decode cX7_takeBack 11 = .ok (.aload_n 0, 1) := by decide +kernel
theorem dX7_takeBack_12 : decode cX7_takeBack 12 = .ok (.getfield 29, 3) := by decide +kernel
theorem dX7_takeBack_15 : decode cX7_takeBack 15 = .ok (.aload_n 0, 1) := by decide +kernel
theorem dX7_takeBack_16 : decode cX7_takeBack 16 = .ok (.getfield 10, 3) := by decide +kernel
theorem dX7_takeBack_19 : decode cX7_takeBack 19 = .ok (.iload_n 1, 1) := by decide +kernel
theorem dX7_takeBack_20 : decode cX7_takeBack 20 = .ok (.invokevirtual 58, 3) := by decide +kernel
theorem dX7_takeBack_23 : decode cX7_takeBack 23 = .ok (.invokevirtual 48, 3) := by decide +kernel
theorem dX7_takeBack_26 : decode cX7_takeBack 26 = .ok (.ireturn, 1) := by decide +kernel
theorem dX7_writeOut_0 : decode cX7_writeOut 0 = .ok (.aload_n 0, 1) := by decide +kernel
theorem dX7_writeOut_1 : decode cX7_writeOut 1 = .ok (.getfield 29, 3) := by decide +kernel
theorem dX7_writeOut_4 : decode cX7_writeOut 4 = .ok (.aload_n 0, 1) := by decide +kernel
theorem dX7_writeOut_5 : decode cX7_writeOut 5 = .ok (.getfield 10, 3) := by decide +kernel
theorem dX7_writeOut_8 : decode cX7_writeOut 8 = .ok (.invokevirtual 40, 3) := by decide +kernel
theorem dX7_writeOut_11 : decode cX7_writeOut 11 = .ok (.aload_n 0, 1) := by decide +kernel
theorem dX7_writeOut_12 : decode cX7_writeOut 12 = .ok (.getfield 29, 3) := by decide +kernel
theorem dX7_writeOut_15 : decode cX7_writeOut 15 = .ok (.aload_n 0, 1) := by decide +kernel
theorem dX7_writeOut_16 : decode cX7_writeOut 16 = .ok (.getfield 10, 3) := by decide +kernel
theorem dX7_writeOut_19 : decode cX7_writeOut 19 = .ok (.iload_n 1, 1) := by decide +kernel
theorem dX7_writeOut_20 : decode cX7_writeOut 20 = .ok (.invokevirtual 61, 3) := by decide +kernel
theorem dX7_writeOut_23 : decode cX7_writeOut 23 = .ok (.invokevirtual 48, 3) := by decide +kernel
theorem dX7_writeOut_26 : decode cX7_writeOut 26 = .ok (.ireturn, 1) := by decide +kernel
theorem dX7_dropOut_0 : decode cX7_dropOut 0 = .ok (.aload_n 0, 1) := by decide +kernel
theorem dX7_dropOut_1 : decode cX7_dropOut 1 = .ok (.getfield 29, 3) := by decide +kernel
theorem dX7_dropOut_4 : decode cX7_dropOut 4 = .ok (.aload_n 0, 1) := by decide +kernel
theorem dX7_dropOut_5 : decode cX7_dropOut 5 = .ok (.getfield 10, 3) := by decide +kernel
theorem dX7_dropOut_8 : decode cX7_dropOut 8 = .ok (.invokevirtual 40, 3) := by decide +kernel
theorem dX7_dropOut_11 : decode cX7_dropOut 11 = .ok (.aload_n 0, 1) := by decide +kernel
theorem dX7_dropOut_12 : decode cX7_dropOut 12 = .ok (.getfield 29, 3) := by decide +kernel
theorem dX7_dropOut_15 : decode cX7_dropOut 15 = .ok (.aload_n 0, 1) := by decide +kernel
theorem dX7_dropOut_16 : decode cX7_dropOut 16 = .ok (.getfield 10, 3) := by decide +kernel
theorem dX7_dropOut_19 : decode cX7_dropOut 19 = .ok (.iload_n 1, 1) := by decide +kernel
theorem dX7_dropOut_20 : decode cX7_dropOut 20 = .ok (.invokevirtual 64, 3) := by decide +kernel
theorem dX7_dropOut_23 : decode cX7_dropOut 23 = .ok (.invokevirtual 48, 3) := by decide +kernel
theorem dX7_dropOut_26 : decode cX7_dropOut 26 = .ok (.ireturn, 1) := by decide +kernel
theorem dX7_checkpoint_0 : decode cX7_checkpoint 0 = .ok (.aload_n 0, 1) := by decide +kernel
theorem dX7_checkpoint_1 : decode cX7_checkpoint 1 = .ok (.getfield 29, 3) := by decide +kernel
theorem dX7_checkpoint_4 : decode cX7_checkpoint 4 = .ok (.aload_n 0, 1) := by decide +kernel
theorem dX7_checkpoint_5 : decode cX7_checkpoint 5 = .ok (.getfield 10, 3) := by decide +kernel
theorem dX7_checkpoint_8 : decode cX7_checkpoint 8 = .ok (.invokevirtual 40, 3) := by decide +kernel
theorem dX7_checkpoint_11 : decode cX7_checkpoint 11 = .ok (.aload_n 0, 1) := by decide +kernel
theorem dX7_checkpoint_12 : decode cX7_checkpoint 12 = .ok (.getfield 29, 3) := by decide +kernel
theorem dX7_checkpoint_15 : decode cX7_checkpoint 15 = .ok (.aload_n 0, 1) := by decide +kernel
theorem dX7_checkpoint_16 : decode cX7_checkpoint 16 = .ok (.getfield 10, 3) := by decide +kernel
theorem dX7_checkpoint_19 : decode cX7_checkpoint 19 = .ok (.invokevirtual 67, 3) := by decide +kernel
theorem dX7_checkpoint_22 : decode cX7_checkpoint 22 = .ok (.invokevirtual 48, 3) := by decide +kernel
theorem dX7_checkpoint_25 : decode cX7_checkpoint 25 = .ok (.ireturn, 1) := by decide +kernel
theorem dX7_dropRecords_0 : decode cX7_dropRecords 0 = .ok (.aload_n 0, 1) := by decide +kernel
theorem dX7_dropRecords_1 : decode cX7_dropRecords 1 = .ok (.getfield 29, 3) := by decide +kernel
theorem dX7_dropRecords_4 : decode cX7_dropRecords 4 = .ok (.aload_n 0, 1) := by decide +kernel
theorem dX7_dropRecords_5 : decode cX7_dropRecords 5 = .ok (.getfield 10, 3) := by decide +kernel
theorem dX7_dropRecords_8 : decode cX7_dropRecords 8 = .ok (.invokevirtual 40, 3) := by decide +kernel
theorem dX7_dropRecords_11 : decode cX7_dropRecords 11 = .ok (.aload_n 0, 1) := by decide +kernel
theorem dX7_dropRecords_12 : decode cX7_dropRecords 12 = .ok (.getfield 29, 3) := by decide +kernel
theorem dX7_dropRecords_15 : decode cX7_dropRecords 15 = .ok (.aload_n 0, 1) := by decide +kernel
theorem dX7_dropRecords_16 : decode cX7_dropRecords 16 = .ok (.getfield 10, 3) := by decide +kernel
theorem dX7_dropRecords_19 : decode cX7_dropRecords 19 = .ok (.invokevirtual 71, 3) := by decide +kernel
theorem dX7_dropRecords_22 : decode cX7_dropRecords 22 = .ok (.invokevirtual 48, 3) := by decide +kernel
theorem dX7_dropRecords_25 : decode cX7_dropRecords 25 = .ok (.ireturn, 1) := by decide +kernel
theorem dX7_force_0 : decode cX7_force 0 = .ok (.aload_n 0, 1) := by decide +kernel
theorem dX7_force_1 : decode cX7_force 1 = .ok (.getfield 29, 3) := by decide +kernel
theorem dX7_force_4 : decode cX7_force 4 = .ok (.aload_n 0, 1) := by decide +kernel
theorem dX7_force_5 : decode cX7_force 5 = .ok (.getfield 10, 3) := by decide +kernel
theorem dX7_force_8 : decode cX7_force 8 = .ok (.invokevirtual 40, 3) := by decide +kernel
theorem dX7_force_11 : decode cX7_force 11 = .ok (.aload_n 0, 1) := by decide +kernel
theorem dX7_force_12 : decode cX7_force 12 = .ok (.getfield 29, 3) := by decide +kernel
theorem dX7_force_15 : decode cX7_force 15 = .ok (.aload_n 0, 1) := by decide +kernel
theorem dX7_force_16 : decode cX7_force 16 = .ok (.getfield 10, 3) := by decide +kernel
theorem dX7_force_19 : decode cX7_force 19 = .ok (.invokevirtual 74, 3) := by decide +kernel
theorem dX7_force_22 : decode cX7_force 22 = .ok (.invokevirtual 48, 3) := by decide +kernel
theorem dX7_force_25 : decode cX7_force 25 = .ok (.ireturn, 1) := by decide +kernel
theorem dX7_stop_0 : decode cX7_stop 0 = .ok (.aload_n 0, 1) := by decide +kernel
theorem dX7_stop_1 : decode cX7_stop 1 = .ok (.getfield 29, 3) := by decide +kernel
theorem dX7_stop_4 : decode cX7_stop 4 = .ok (.aload_n 0, 1) := by decide +kernel
theorem dX7_stop_5 : decode cX7_stop 5 = .ok (.getfield 10, 3) := by decide +kernel
theorem dX7_stop_8 : decode cX7_stop 8 = .ok (.invokevirtual 40, 3) := by decide +kernel
theorem dX7_stop_11 : decode cX7_stop 11 = .ok (.aload_n 0, 1) := by decide +kernel
theorem dX7_stop_12 : decode cX7_stop 12 = .ok (.getfield 29, 3) := by decide +kernel
theorem dX7_stop_15 : decode cX7_stop 15 = .ok (.aload_n 0, 1) := by decide +kernel
theorem dX7_stop_16 : decode cX7_stop 16 = .ok (.getfield 10, 3) := by decide +kernel
theorem dX7_stop_19 : decode cX7_stop 19 = .ok (.iload_n 1, 1) := by decide +kernel
theorem dX7_stop_20 : decode cX7_stop 20 = .ok (.invokevirtual 77, 3) := by decide +kernel
theorem dX7_stop_23 : decode cX7_stop 23 = .ok (.invokevirtual 48, 3) := by decide +kernel
theorem dX7_stop_26 : decode cX7_stop 26 = .ok (.ireturn, 1) := by decide +kernel
theorem dX7_restart_0 : decode cX7_restart 0 = .ok (.aload_n 0, 1) := by decide +kernel
theorem dX7_restart_1 : decode cX7_restart 1 = .ok (.getfield 29, 3) := by decide +kernel
theorem dX7_restart_4 : decode cX7_restart 4 = .ok (.aload_n 0, 1) := by decide +kernel
theorem dX7_restart_5 : decode cX7_restart 5 = .ok (.getfield 10, 3) := by decide +kernel
theorem dX7_restart_8 : decode cX7_restart 8 = .ok (.invokevirtual 40, 3) := by decide +kernel
theorem dX7_restart_11 : decode cX7_restart 11 = .ok (.aload_n 0, 1) := by decide +kernel
theorem dX7_restart_12 : decode cX7_restart 12 = .ok (.getfield 29, 3) := by decide +kernel
theorem dX7_restart_15 : decode cX7_restart 15 = .ok (.aload_n 0, 1) := by decide +kernel
theorem dX7_restart_16 : decode cX7_restart 16 = .ok (.getfield 22, 3) := by decide +kernel
theorem dX7_restart_19 : decode cX7_restart 19 = .ok (.aload_n 0, 1) := by decide +kernel
theorem dX7_restart_20 : decode cX7_restart 20 = .ok (.getfield 10, 3) := by decide +kernel
theorem dX7_restart_23 : decode cX7_restart 23 = .ok (.invokevirtual 80, 3) := by decide +kernel
theorem dX7_restart_26 : decode cX7_restart 26 = .ok (.invokevirtual 48, 3) := by decide +kernel
theorem dX7_restart_29 : decode cX7_restart 29 = .ok (.ireturn, 1) := by decide +kernel
theorem dX7_pageOf_0 : decode cX7_pageOf 0 = .ok (.iload_n 1, 1) := by decide +kernel
theorem dX7_pageOf_1 : decode cX7_pageOf 1 = .ok (.ifCond .lt 19, 3) := by decide +kernel
theorem dX7_pageOf_4 : decode cX7_pageOf 4 = .ok (.iload_n 1, 1) := by decide +kernel
theorem dX7_pageOf_5 : decode cX7_pageOf 5 = .ok (.bipush 8, 2) := by decide +kernel
theorem dX7_pageOf_7 : decode cX7_pageOf 7 = .ok (.if_icmp .ge 13, 3) := by decide +kernel
theorem dX7_pageOf_10 : decode cX7_pageOf 10 = .ok (.iload_n 2, 1) := by decide +kernel
theorem dX7_pageOf_11 : decode cX7_pageOf 11 = .ok (.ifCond .lt 9, 3) := by decide +kernel
theorem dX7_pageOf_14 : decode cX7_pageOf 14 = .ok (.iload_n 2, 1) := by decide +kernel
theorem dX7_pageOf_15 : decode cX7_pageOf 15 = .ok (.bipush 8, 2) := by decide +kernel
theorem dX7_pageOf_17 : decode cX7_pageOf 17 = .ok (.if_icmp .le 6, 3) := by decide +kernel
theorem dX7_pageOf_20 : decode cX7_pageOf 20 = .ok (.ldc 84, 2) := by decide +kernel
theorem dX7_pageOf_22 : decode cX7_pageOf 22 = .ok (.ireturn, 1) := by decide +kernel
theorem dX7_pageOf_23 : decode cX7_pageOf 23 = .ok (.iload_n 2, 1) := by decide +kernel
theorem dX7_pageOf_24 : decode cX7_pageOf 24 = .ok (.lookupswitch 52 #[(7, 28), (8, 40)], 28) := by decide +kernel
theorem dX7_pageOf_52 : decode cX7_pageOf 52 = .ok (.aload_n 0, 1) := by decide +kernel
theorem dX7_pageOf_53 : decode cX7_pageOf 53 = .ok (.getfield 10, 3) := by decide +kernel
theorem dX7_pageOf_56 : decode cX7_pageOf 56 = .ok (.getfield 85, 3) := by decide +kernel
theorem dX7_pageOf_59 : decode cX7_pageOf 59 = .ok (.iload_n 1, 1) := by decide +kernel
theorem dX7_pageOf_60 : decode cX7_pageOf 60 = .ok (.invokevirtual 89, 3) := by decide +kernel
theorem dX7_pageOf_63 : decode cX7_pageOf 63 = .ok (.ireturn, 1) := by decide +kernel
theorem dX7_pageOf_64 : decode cX7_pageOf 64 = .ok (.aload_n 0, 1) := by decide +kernel
theorem dX7_pageOf_65 : decode cX7_pageOf 65 = .ok (.getfield 10, 3) := by decide +kernel
theorem dX7_pageOf_68 : decode cX7_pageOf 68 = .ok (.getfield 94, 3) := by decide +kernel
theorem dX7_pageOf_71 : decode cX7_pageOf 71 = .ok (.iload_n 1, 1) := by decide +kernel
theorem dX7_pageOf_72 : decode cX7_pageOf 72 = .ok (.invokevirtual 98, 3) := by decide +kernel
theorem dX7_pageOf_75 : decode cX7_pageOf 75 = .ok (.ireturn, 1) := by decide +kernel
theorem dX7_pageOf_76 : decode cX7_pageOf 76 = .ok (.aload_n 0, 1) := by decide +kernel
theorem dX7_pageOf_77 : decode cX7_pageOf 77 = .ok (.getfield 10, 3) := by decide +kernel
theorem dX7_pageOf_80 : decode cX7_pageOf 80 = .ok (.getfield 103, 3) := by decide +kernel
theorem dX7_pageOf_83 : decode cX7_pageOf 83 = .ok (.iload_n 1, 1) := by decide +kernel
theorem dX7_pageOf_84 : decode cX7_pageOf 84 = .ok (.iload_n 2, 1) := by decide +kernel
theorem dX7_pageOf_85 : decode cX7_pageOf 85 = .ok (.invokevirtual 107, 3) := by decide +kernel
theorem dX7_pageOf_88 : decode cX7_pageOf 88 = .ok (.ireturn, 1) := by decide +kernel
theorem dX7_recordOf_0 : decode cX7_recordOf 0 = .ok (.iload_n 1, 1) := by decide +kernel
theorem dX7_recordOf_1 : decode cX7_recordOf 1 = .ok (.iconst 1, 1) := by decide +kernel
theorem dX7_recordOf_2 : decode cX7_recordOf 2 = .ok (.if_icmp .lt 13, 3) := by decide +kernel
theorem dX7_recordOf_5 : decode cX7_recordOf 5 = .ok (.iload_n 2, 1) := by decide +kernel
theorem dX7_recordOf_6 : decode cX7_recordOf 6 = .ok (.ifCond .lt 9, 3) := by decide +kernel
theorem dX7_recordOf_9 : decode cX7_recordOf 9 = .ok (.iload_n 2, 1) := by decide +kernel
theorem dX7_recordOf_10 : decode cX7_recordOf 10 = .ok (.bipush 8, 2) := by decide +kernel
theorem dX7_recordOf_12 : decode cX7_recordOf 12 = .ok (.if_icmp .le 6, 3) := by decide +kernel
theorem dX7_recordOf_15 : decode cX7_recordOf 15 = .ok (.ldc 84, 2) := by decide +kernel
theorem dX7_recordOf_17 : decode cX7_recordOf 17 = .ok (.ireturn, 1) := by decide +kernel
theorem dX7_recordOf_18 : decode cX7_recordOf 18 = .ok (.aload_n 0, 1) := by decide +kernel
theorem dX7_recordOf_19 : decode cX7_recordOf 19 = .ok (.getfield 10, 3) := by decide +kernel
theorem dX7_recordOf_22 : decode cX7_recordOf 22 = .ok (.getfield 94, 3) := by decide +kernel
theorem dX7_recordOf_25 : decode cX7_recordOf 25 = .ok (.iload_n 1, 1) := by decide +kernel
theorem dX7_recordOf_26 : decode cX7_recordOf 26 = .ok (.iload_n 2, 1) := by decide +kernel
theorem dX7_recordOf_27 : decode cX7_recordOf 27 = .ok (.invokevirtual 113, 3) := by decide +kernel
theorem dX7_recordOf_30 : decode cX7_recordOf 30 = .ok (.ireturn, 1) := by decide +kernel
theorem dX7_groupOf_0 : decode cX7_groupOf 0 = .ok (.iload_n 1, 1) := by decide +kernel
theorem dX7_groupOf_1 : decode cX7_groupOf 1 = .ok (.ifCond .lt 17, 3) := by decide +kernel
theorem dX7_groupOf_4 : decode cX7_groupOf 4 = .ok (.iload_n 1, 1) := by decide +kernel
theorem dX7_groupOf_5 : decode cX7_groupOf 5 = .ok (.iconst 4, 1) := by decide +kernel
theorem dX7_groupOf_6 : decode cX7_groupOf 6 = .ok (.if_icmp .ge 12, 3) := by decide +kernel
theorem dX7_groupOf_9 : decode cX7_groupOf 9 = .ok (.iload_n 2, 1) := by decide +kernel
theorem dX7_groupOf_10 : decode cX7_groupOf 10 = .ok (.ifCond .lt 8, 3) := by decide +kernel
theorem dX7_groupOf_13 : decode cX7_groupOf 13 = .ok (.iload_n 2, 1) := by decide +kernel
theorem dX7_groupOf_14 : decode cX7_groupOf 14 = .ok (.iconst 3, 1) := by decide +kernel
theorem dX7_groupOf_15 : decode cX7_groupOf 15 = .ok (.if_icmp .le 6, 3) := by decide +kernel
theorem dX7_groupOf_18 : decode cX7_groupOf 18 = .ok (.ldc 84, 2) := by decide +kernel
theorem dX7_groupOf_20 : decode cX7_groupOf 20 = .ok (.ireturn, 1) := by decide +kernel
theorem dX7_groupOf_21 : decode cX7_groupOf 21 = .ok (.aload_n 0, 1) := by decide +kernel
theorem dX7_groupOf_22 : decode cX7_groupOf 22 = .ok (.getfield 10, 3) := by decide +kernel
theorem dX7_groupOf_25 : decode cX7_groupOf 25 = .ok (.getfield 85, 3) := by decide +kernel
theorem dX7_groupOf_28 : decode cX7_groupOf 28 = .ok (.iload_n 1, 1) := by decide +kernel
theorem dX7_groupOf_29 : decode cX7_groupOf 29 = .ok (.iload_n 2, 1) := by decide +kernel
theorem dX7_groupOf_30 : decode cX7_groupOf 30 = .ok (.invokevirtual 114, 3) := by decide +kernel
theorem dX7_groupOf_33 : decode cX7_groupOf 33 = .ok (.ireturn, 1) := by decide +kernel
theorem dX7_would_0 : decode cX7_would 0 = .ok (.iload_n 2, 1) := by decide +kernel
theorem dX7_would_1 : decode cX7_would 1 = .ok (.bipush 10, 2) := by decide +kernel
theorem dX7_would_3 : decode cX7_would 3 = .ok (.if_icmp .lt 13, 3) := by decide +kernel
theorem dX7_would_6 : decode cX7_would 6 = .ok (.iload_n 2, 1) := by decide +kernel
theorem dX7_would_7 : decode cX7_would 7 = .ok (.bipush 18, 2) := by decide +kernel
theorem dX7_would_9 : decode cX7_would 9 = .ok (.if_icmp .ge 7, 3) := by decide +kernel
theorem dX7_would_12 : decode cX7_would 12 = .ok (.iconst 1, 1) := by decide +kernel
theorem dX7_would_13 : decode cX7_would 13 = .ok (.goto 4, 3) := by decide +kernel
theorem dX7_would_16 : decode cX7_would 16 = .ok (.iconst 0, 1) := by decide +kernel
theorem dX7_would_17 : decode cX7_would 17 = .ok (.istore_n 3, 1) := by decide +kernel
theorem dX7_would_18 : decode cX7_would 18 = .ok (.iload_n 1, 1) := by decide +kernel
theorem dX7_would_19 : decode cX7_would 19 = .ok (.ifCond .lt 21, 3) := by decide +kernel
theorem dX7_would_22 : decode cX7_would 22 = .ok (.iload_n 1, 1) := by decide +kernel
theorem dX7_would_23 : decode cX7_would 23 = .ok (.iconst 1, 1) := by decide +kernel
theorem dX7_would_24 : decode cX7_would 24 = .ok (.if_icmp .gt 16, 3) := by decide +kernel
theorem dX7_would_27 : decode cX7_would 27 = .ok (.iload_n 2, 1) := by decide +kernel
theorem dX7_would_28 : decode cX7_would 28 = .ok (.ifCond .lt 12, 3) := by decide +kernel
theorem dX7_would_31 : decode cX7_would 31 = .ok (.iload_n 2, 1) := by decide +kernel
theorem dX7_would_32 : decode cX7_would 32 = .ok (.iconst 4, 1) := by decide +kernel
theorem dX7_would_33 : decode cX7_would 33 = .ok (.if_icmp .le 10, 3) := by decide +kernel
theorem dX7_would_36 : decode cX7_would 36 = .ok (.iload_n 3, 1) := by decide +kernel
theorem dX7_would_37 : decode cX7_would 37 = .ok (.ifCond .ne 6, 3) := by decide +kernel
theorem dX7_would_40 : decode cX7_would 40 = .ok (.ldc 84, 2) := by decide +kernel
theorem dX7_would_42 : decode cX7_would 42 = .ok (.ireturn, 1) := by decide +kernel
theorem dX7_would_43 : decode cX7_would 43 = .ok (.aload_n 0, 1) := by decide +kernel
theorem dX7_would_44 : decode cX7_would 44 = .ok (.getfield 10, 3) := by decide +kernel
theorem dX7_would_47 : decode cX7_would 47 = .ok (.getfield 115, 3) := by decide +kernel
theorem dX7_would_50 : decode cX7_would 50 = .ok (.ifCond .eq 6, 3) := by decide +kernel
theorem dX7_would_53 : decode cX7_would 53 = .ok (.ldc 119, 2) := by decide +kernel
theorem dX7_would_55 : decode cX7_would 55 = .ok (.ireturn, 1) := by decide +kernel
theorem dX7_would_56 : decode cX7_would 56 = .ok (.aload_n 0, 1) := by decide +kernel
theorem dX7_would_57 : decode cX7_would 57 = .ok (.getfield 16, 3) := by decide +kernel
theorem dX7_would_60 : decode cX7_would 60 = .ok (.aload_n 0, 1) := by decide +kernel
theorem dX7_would_61 : decode cX7_would 61 = .ok (.getfield 10, 3) := by decide +kernel
theorem dX7_would_64 : decode cX7_would 64 = .ok (.invokevirtual 120, 3) := by decide +kernel
theorem dX7_would_67 : decode cX7_would 67 = .ok (.aload_n 0, 1) := by decide +kernel
theorem dX7_would_68 : decode cX7_would 68 = .ok (.getfield 16, 3) := by decide +kernel
theorem dX7_would_71 : decode cX7_would 71 = .ok (.iload_n 1, 1) := by decide +kernel
theorem dX7_would_72 : decode cX7_would 72 = .ok (.invokevirtual 77, 3) := by decide +kernel
theorem dX7_would_75 : decode cX7_would 75 = .ok (.istore 4, 2) := by decide +kernel
theorem dX7_would_77 : decode cX7_would 77 = .ok (.aload_n 0, 1) := by decide +kernel
theorem dX7_would_78 : decode cX7_would 78 = .ok (.getfield 22, 3) := by decide +kernel
theorem dX7_would_81 : decode cX7_would 81 = .ok (.aload_n 0, 1) := by decide +kernel
theorem dX7_would_82 : decode cX7_would 82 = .ok (.getfield 16, 3) := by decide +kernel
theorem dX7_would_85 : decode cX7_would 85 = .ok (.invokevirtual 80, 3) := by decide +kernel
theorem dX7_would_88 : decode cX7_would 88 = .ok (.pop, 1) := by decide +kernel
theorem dX7_would_89 : decode cX7_would 89 = .ok (.iload_n 3, 1) := by decide +kernel
theorem dX7_would_90 : decode cX7_would 90 = .ok (.ifCond .eq 18, 3) := by decide +kernel
theorem dX7_would_93 : decode cX7_would 93 = .ok (.aload_n 0, 1) := by decide +kernel
theorem dX7_would_94 : decode cX7_would 94 = .ok (.getfield 16, 3) := by decide +kernel
theorem dX7_would_97 : decode cX7_would 97 = .ok (.getfield 103, 3) := by decide +kernel
theorem dX7_would_100 : decode cX7_would 100 = .ok (.iload_n 2, 1) := by decide +kernel
theorem dX7_would_101 : decode cX7_would 101 = .ok (.bipush 10, 2) := by decide +kernel
theorem dX7_would_103 : decode cX7_would 103 = .ok (.isub, 1) := by decide +kernel
theorem dX7_would_104 : decode cX7_would 104 = .ok (.invokevirtual 123, 3) := by decide +kernel
theorem dX7_would_107 : decode cX7_would 107 = .ok (.ireturn, 1) := by decide +kernel
theorem dX7_would_108 : decode cX7_would 108 = .ok (.iload_n 2, 1) := by decide +kernel
theorem dX7_would_109 : decode cX7_would 109 = .ok (.ifCond .ne 8, 3) := by decide +kernel
theorem dX7_would_112 : decode cX7_would 112 = .ok (.iload 4, 2) := by decide +kernel
theorem dX7_would_114 : decode cX7_would 114 = .ok (.goto 11, 3) := by decide +kernel
theorem dX7_would_117 : decode cX7_would 117 = .ok (.aload_n 0, 1) := by decide +kernel
theorem dX7_would_118 : decode cX7_would 118 = .ok (.getfield 22, 3) := by decide +kernel
theorem dX7_would_121 : decode cX7_would 121 = .ok (.iload_n 2, 1) := by decide +kernel
theorem dX7_would_122 : decode cX7_would 122 = .ok (.invokevirtual 126, 3) := by decide +kernel
theorem dX7_would_125 : decode cX7_would 125 = .ok (.ireturn, 1) := by decide +kernel
theorem dX7_count_0 : decode cX7_count 0 = .ok (.iload_n 1, 1) := by decide +kernel
theorem dX7_count_1 : decode cX7_count 1 = .ok (.tableswitch 124 4 12 #[51, 62, 73, 84, 124, 124, 100, 108, 116], 51) := by decide +kernel
theorem dX7_count_52 : decode cX7_count 52 = .ok (.aload_n 0, 1) := by decide +kernel
theorem dX7_count_53 : decode cX7_count 53 = .ok (.getfield 10, 3) := by decide +kernel
theorem dX7_count_56 : decode cX7_count 56 = .ok (.getfield 85, 3) := by decide +kernel
theorem dX7_count_59 : decode cX7_count 59 = .ok (.getfield 128, 3) := by decide +kernel
theorem dX7_count_62 : decode cX7_count 62 = .ok (.ireturn, 1) := by decide +kernel
theorem dX7_count_63 : decode cX7_count 63 = .ok (.aload_n 0, 1) := by decide +kernel
theorem dX7_count_64 : decode cX7_count 64 = .ok (.getfield 10, 3) := by decide +kernel
theorem dX7_count_67 : decode cX7_count 67 = .ok (.getfield 103, 3) := by decide +kernel
theorem dX7_count_70 : decode cX7_count 70 = .ok (.getfield 132, 3) := by decide +kernel
theorem dX7_count_73 : decode cX7_count 73 = .ok (.ireturn, 1) := by decide +kernel
theorem dX7_count_74 : decode cX7_count 74 = .ok (.aload_n 0, 1) := by decide +kernel
theorem dX7_count_75 : decode cX7_count 75 = .ok (.getfield 10, 3) := by decide +kernel
theorem dX7_count_78 : decode cX7_count 78 = .ok (.getfield 103, 3) := by decide +kernel
theorem dX7_count_81 : decode cX7_count 81 = .ok (.getfield 135, 3) := by decide +kernel
theorem dX7_count_84 : decode cX7_count 84 = .ok (.ireturn, 1) := by decide +kernel
theorem dX7_count_85 : decode cX7_count 85 = .ok (.aload_n 0, 1) := by decide +kernel
theorem dX7_count_86 : decode cX7_count 86 = .ok (.getfield 10, 3) := by decide +kernel
theorem dX7_count_89 : decode cX7_count 89 = .ok (.getfield 115, 3) := by decide +kernel
theorem dX7_count_92 : decode cX7_count 92 = .ok (.ifCond .eq 7, 3) := by decide +kernel
theorem dX7_count_95 : decode cX7_count 95 = .ok (.iconst 1, 1) := by decide +kernel
theorem dX7_count_96 : decode cX7_count 96 = .ok (.goto 4, 3) := by decide +kernel
theorem dX7_count_99 : decode cX7_count 99 = .ok (.iconst 0, 1) := by decide +kernel
theorem dX7_count_100 : decode cX7_count 100 = .ok (.ireturn, 1) := by decide +kernel
theorem dX7_count_101 : decode cX7_count 101 = .ok (.aload_n 0, 1) := by decide +kernel
theorem dX7_count_102 : decode cX7_count 102 = .ok (.getfield 10, 3) := by decide +kernel
theorem dX7_count_105 : decode cX7_count 105 = .ok (.getfield 138, 3) := by decide +kernel
theorem dX7_count_108 : decode cX7_count 108 = .ok (.ireturn, 1) := by decide +kernel
theorem dX7_count_109 : decode cX7_count 109 = .ok (.aload_n 0, 1) := by decide +kernel
theorem dX7_count_110 : decode cX7_count 110 = .ok (.getfield 29, 3) := by decide +kernel
theorem dX7_count_113 : decode cX7_count 113 = .ok (.getfield 141, 3) := by decide +kernel
theorem dX7_count_116 : decode cX7_count 116 = .ok (.ireturn, 1) := by decide +kernel
theorem dX7_count_117 : decode cX7_count 117 = .ok (.aload_n 0, 1) := by decide +kernel
theorem dX7_count_118 : decode cX7_count 118 = .ok (.getfield 36, 3) := by decide +kernel
theorem dX7_count_121 : decode cX7_count 121 = .ok (.getfield 144, 3) := by decide +kernel
theorem dX7_count_124 : decode cX7_count 124 = .ok (.ireturn, 1) := by decide +kernel
theorem dX7_count_125 : decode cX7_count 125 = .ok (.aload_n 0, 1) := by decide +kernel
theorem dX7_count_126 : decode cX7_count 126 = .ok (.getfield 10, 3) := by decide +kernel
theorem dX7_count_129 : decode cX7_count 129 = .ok (.getfield 94, 3) := by decide +kernel
theorem dX7_count_132 : decode cX7_count 132 = .ok (.iload_n 1, 1) := by decide +kernel
theorem dX7_count_133 : decode cX7_count 133 = .ok (.invokevirtual 147, 3) := by decide +kernel
theorem dX7_count_136 : decode cX7_count 136 = .ok (.ireturn, 1) := by decide +kernel
theorem dX7_undo_0 : decode cX7_undo 0 = .ok (.aload_n 0, 1) := by decide +kernel
theorem dX7_undo_1 : decode cX7_undo 1 = .ok (.getfield 29, 3) := by decide +kernel
theorem dX7_undo_4 : decode cX7_undo 4 = .ok (.aload_n 0, 1) := by decide +kernel
theorem dX7_undo_5 : decode cX7_undo 5 = .ok (.getfield 10, 3) := by decide +kernel
theorem dX7_undo_8 : decode cX7_undo 8 = .ok (.invokevirtual 150, 3) := by decide +kernel
theorem dX7_undo_11 : decode cX7_undo 11 = .ok (.ireturn, 1) := by decide +kernel
theorem dX7_type_0 : decode cX7_type 0 = .ok (.iload_n 1, 1) := by decide +kernel
theorem dX7_type_1 : decode cX7_type 1 = .ok (.bipush 32, 2) := by decide +kernel
theorem dX7_type_3 : decode cX7_type 3 = .ok (.if_icmp .lt 9, 3) := by decide +kernel
theorem dX7_type_6 : decode cX7_type 6 = .ok (.iload_n 1, 1) := by decide +kernel
theorem dX7_type_7 : decode cX7_type 7 = .ok (.bipush 126, 2) := by decide +kernel
theorem dX7_type_9 : decode cX7_type 9 = .ok (.if_icmp .le 6, 3) := by decide +kernel
theorem dX7_type_12 : decode cX7_type 12 = .ok (.ldc 84, 2) := by decide +kernel
theorem dX7_type_14 : decode cX7_type 14 = .ok (.ireturn, 1) := by decide +kernel
theorem dX7_type_15 : decode cX7_type 15 = .ok (.aload_n 0, 1) := by decide +kernel
theorem dX7_type_16 : decode cX7_type 16 = .ok (.getfield 36, 3) := by decide +kernel
theorem dX7_type_19 : decode cX7_type 19 = .ok (.iload_n 1, 1) := by decide +kernel
theorem dX7_type_20 : decode cX7_type 20 = .ok (.i2c, 1) := by decide +kernel
theorem dX7_type_21 : decode cX7_type 21 = .ok (.invokevirtual 153, 3) := by decide +kernel
theorem dX7_type_24 : decode cX7_type 24 = .ok (.ireturn, 1) := by decide +kernel
theorem dX7_clearText_0 : decode cX7_clearText 0 = .ok (.aload_n 0, 1) := by decide +kernel
theorem dX7_clearText_1 : decode cX7_clearText 1 = .ok (.getfield 36, 3) := by decide +kernel
theorem dX7_clearText_4 : decode cX7_clearText 4 = .ok (.invokevirtual 157, 3) := by decide +kernel
theorem dX7_clearText_7 : decode cX7_clearText 7 = .ok (.ireturn, 1) := by decide +kernel
theorem dX7_fault_0 : decode cX7_fault 0 = .ok (.iload_n 1, 1) := by decide +kernel
theorem dX7_fault_1 : decode cX7_fault 1 = .ok (.ifCond .lt 8, 3) := by decide +kernel
theorem dX7_fault_4 : decode cX7_fault 4 = .ok (.iload_n 1, 1) := by decide +kernel
theorem dX7_fault_5 : decode cX7_fault 5 = .ok (.iconst 2, 1) := by decide +kernel
theorem dX7_fault_6 : decode cX7_fault 6 = .ok (.if_icmp .le 6, 3) := by decide +kernel
theorem dX7_fault_9 : decode cX7_fault 9 = .ok (.ldc 84, 2) := by decide +kernel
theorem dX7_fault_11 : decode cX7_fault 11 = .ok (.ireturn, 1) := by decide +kernel
theorem dX7_fault_12 : decode cX7_fault 12 = .ok (.aload_n 0, 1) := by decide +kernel
theorem dX7_fault_13 : decode cX7_fault 13 = .ok (.invokevirtual 160, 3) := by decide +kernel
theorem dX7_fault_16 : decode cX7_fault 16 = .ok (.aload_n 0, 1) := by decide +kernel
theorem dX7_fault_17 : decode cX7_fault 17 = .ok (.getfield 163, 3) := by decide +kernel
theorem dX7_fault_20 : decode cX7_fault 20 = .ok (.ifCond .eq 16, 3) := by decide +kernel
theorem dX7_fault_23 : decode cX7_fault 23 = .ok (.iload_n 1, 1) := by decide +kernel
theorem dX7_fault_24 : decode cX7_fault 24 = .ok (.iconst 2, 1) := by decide +kernel
theorem dX7_fault_25 : decode cX7_fault 25 = .ok (.if_icmp .ne 14, 3) := by decide +kernel
theorem dX7_fault_28 : decode cX7_fault 28 = .ok (.aload_n 0, 1) := by decide +kernel
theorem dX7_fault_29 : decode cX7_fault 29 = .ok (.getfield 163, 3) := by decide +kernel
theorem dX7_fault_32 : decode cX7_fault 32 = .ok (.iconst 1, 1) := by decide +kernel
theorem dX7_fault_33 : decode cX7_fault 33 = .ok (.if_icmp .eq 6, 3) := by decide +kernel
theorem dX7_fault_36 : decode cX7_fault 36 = .ok (.ldc 166, 2) := by decide +kernel
theorem dX7_fault_38 : decode cX7_fault 38 = .ok (.ireturn, 1) := by decide +kernel
theorem dX7_fault_39 : decode cX7_fault 39 = .ok (.iload_n 1, 1) := by decide +kernel
theorem dX7_fault_40 : decode cX7_fault 40 = .ok (.lookupswitch 38 #[(0, 28), (1, 33)], 28) := by decide +kernel
theorem dX7_fault_68 : decode cX7_fault 68 = .ok (.aload_n 0, 1) := by decide +kernel
theorem dX7_fault_69 : decode cX7_fault 69 = .ok (.getfield 167, 3) := by decide +kernel
theorem dX7_fault_72 : decode cX7_fault 72 = .ok (.ireturn, 1) := by decide +kernel
theorem dX7_fault_73 : decode cX7_fault 73 = .ok (.aload_n 0, 1) := by decide +kernel
theorem dX7_fault_74 : decode cX7_fault 74 = .ok (.getfield 163, 3) := by decide +kernel
theorem dX7_fault_77 : decode cX7_fault 77 = .ok (.ireturn, 1) := by decide +kernel
theorem dX7_fault_78 : decode cX7_fault 78 = .ok (.aload_n 0, 1) := by decide +kernel
theorem dX7_fault_79 : decode cX7_fault 79 = .ok (.getfield 36, 3) := by decide +kernel
theorem dX7_fault_82 : decode cX7_fault 82 = .ok (.getfield 170, 3) := by decide +kernel
theorem dX7_fault_85 : decode cX7_fault 85 = .ok (.ireturn, 1) := by decide +kernel
theorem dX7_play_0 : decode cX7_play 0 = .ok (.aload_n 0, 1) := by decide +kernel
theorem dX7_play_1 : decode cX7_play 1 = .ok (.invokevirtual 160, 3) := by decide +kernel
theorem dX7_play_4 : decode cX7_play 4 = .ok (.aload_n 0, 1) := by decide +kernel
theorem dX7_play_5 : decode cX7_play 5 = .ok (.getfield 163, 3) := by decide +kernel
theorem dX7_play_8 : decode cX7_play 8 = .ok (.ifCond .eq 6, 3) := by decide +kernel
theorem dX7_play_11 : decode cX7_play 11 = .ok (.ldc 119, 2) := by decide +kernel
theorem dX7_play_13 : decode cX7_play 13 = .ok (.ireturn, 1) := by decide +kernel
theorem dX7_play_14 : decode cX7_play 14 = .ok (.aload_n 0, 1) := by decide +kernel
theorem dX7_play_15 : decode cX7_play 15 = .ok (.getfield 29, 3) := by decide +kernel
theorem dX7_play_18 : decode cX7_play 18 = .ok (.aload_n 0, 1) := by decide +kernel
theorem dX7_play_19 : decode cX7_play 19 = .ok (.getfield 10, 3) := by decide +kernel
theorem dX7_play_22 : decode cX7_play 22 = .ok (.invokevirtual 40, 3) := by decide +kernel
theorem dX7_play_25 : decode cX7_play 25 = .ok (.aload_n 0, 1) := by decide +kernel
theorem dX7_play_26 : decode cX7_play 26 = .ok (.getfield 10, 3) := by decide +kernel
theorem dX7_play_29 : decode cX7_play 29 = .ok (.aload_n 0, 1) := by decide +kernel
theorem dX7_play_30 : decode cX7_play 30 = .ok (.getfield 16, 3) := by decide +kernel
theorem dX7_play_33 : decode cX7_play 33 = .ok (.invokevirtual 120, 3) := by decide +kernel
theorem dX7_play_36 : decode cX7_play 36 = .ok (.aload_n 0, 1) := by decide +kernel
theorem dX7_play_37 : decode cX7_play 37 = .ok (.getfield 29, 3) := by decide +kernel
theorem dX7_play_40 : decode cX7_play 40 = .ok (.aload_n 0, 1) := by decide +kernel
theorem dX7_play_41 : decode cX7_play 41 = .ok (.getfield 173, 3) := by decide +kernel
theorem dX7_play_44 : decode cX7_play 44 = .ok (.invokevirtual 48, 3) := by decide +kernel
theorem dX7_play_47 : decode cX7_play 47 = .ok (.ireturn, 1) := by decide +kernel
theorem dX7_tryText_0 : decode cX7_tryText 0 = .ok (.aload_n 0, 1) := by decide +kernel
theorem dX7_tryText_1 : decode cX7_tryText 1 = .ok (.getfield 16, 3) := by decide +kernel
theorem dX7_tryText_4 : decode cX7_tryText 4 = .ok (.aload_n 0, 1) := by decide +kernel
theorem dX7_tryText_5 : decode cX7_tryText 5 = .ok (.getfield 10, 3) := by decide +kernel
theorem dX7_tryText_8 : decode cX7_tryText 8 = .ok (.invokevirtual 120, 3) := by decide +kernel
theorem dX7_tryText_11 : decode cX7_tryText 11 = .ok (.aload_n 0, 1) := by decide +kernel
theorem dX7_tryText_12 : decode cX7_tryText 12 = .ok (.iconst 0, 1) := by decide +kernel
theorem dX7_tryText_13 : decode cX7_tryText 13 = .ok (.putfield 163, 3) := by decide +kernel
theorem dX7_tryText_16 : decode cX7_tryText 16 = .ok (.aload_n 0, 1) := by decide +kernel
theorem dX7_tryText_17 : decode cX7_tryText 17 = .ok (.iconst 0, 1) := by decide +kernel
theorem dX7_tryText_18 : decode cX7_tryText 18 = .ok (.putfield 173, 3) := by decide +kernel
theorem dX7_tryText_21 : decode cX7_tryText 21 = .ok (.aload_n 0, 1) := by decide +kernel
theorem dX7_tryText_22 : decode cX7_tryText 22 = .ok (.getfield 36, 3) := by decide +kernel
theorem dX7_tryText_25 : decode cX7_tryText 25 = .ok (.iconst 0, 1) := by decide +kernel
theorem dX7_tryText_26 : decode cX7_tryText 26 = .ok (.putfield 176, 3) := by decide +kernel
theorem dX7_tryText_29 : decode cX7_tryText 29 = .ok (.iconst 0, 1) := by decide +kernel
theorem dX7_tryText_30 : decode cX7_tryText 30 = .ok (.istore_n 1, 1) := by decide +kernel
theorem dX7_tryText_31 : decode cX7_tryText 31 = .ok (.iload_n 1, 1) := by decide +kernel
theorem dX7_tryText_32 : decode cX7_tryText 32 = .ok (.bipush 80, 2) := by decide +kernel
theorem dX7_tryText_34 : decode cX7_tryText 34 = .ok (.if_icmp .ge 80, 3) := by decide +kernel
theorem dX7_tryText_37 : decode cX7_tryText 37 = .ok (.aload_n 0, 1) := by decide +kernel
theorem dX7_tryText_38 : decode cX7_tryText 38 = .ok (.getfield 36, 3) := by decide +kernel
theorem dX7_tryText_41 : decode cX7_tryText 41 = .ok (.getfield 176, 3) := by decide +kernel
theorem dX7_tryText_44 : decode cX7_tryText 44 = .ok (.aload_n 0, 1) := by decide +kernel
theorem dX7_tryText_45 : decode cX7_tryText 45 = .ok (.getfield 36, 3) := by decide +kernel
theorem dX7_tryText_48 : decode cX7_tryText 48 = .ok (.getfield 144, 3) := by decide +kernel
theorem dX7_tryText_51 : decode cX7_tryText 51 = .ok (.if_icmp .ge 63, 3) := by decide +kernel
theorem dX7_tryText_54 : decode cX7_tryText 54 = .ok (.aload_n 0, 1) := by decide +kernel
theorem dX7_tryText_55 : decode cX7_tryText 55 = .ok (.aload_n 0, 1) := by decide +kernel
theorem dX7_tryText_56 : decode cX7_tryText 56 = .ok (.getfield 36, 3) := by decide +kernel
theorem dX7_tryText_59 : decode cX7_tryText 59 = .ok (.getfield 176, 3) := by decide +kernel
theorem dX7_tryText_62 : decode cX7_tryText 62 = .ok (.putfield 167, 3) := by decide +kernel
theorem dX7_tryText_65 : decode cX7_tryText 65 = .ok (.aload_n 0, 1) := by decide +kernel
theorem dX7_tryText_66 : decode cX7_tryText 66 = .ok (.aload_n 0, 1) := by decide +kernel
theorem dX7_tryText_67 : decode cX7_tryText 67 = .ok (.getfield 36, 3) := by decide +kernel
theorem dX7_tryText_70 : decode cX7_tryText 70 = .ok (.invokevirtual 179, 3) := by decide +kernel
theorem dX7_tryText_73 : decode cX7_tryText 73 = .ok (.ifCond .eq 13, 3) := by decide +kernel
theorem dX7_tryText_76 : decode cX7_tryText 76 = .ok (.aload_n 0, 1) := by decide +kernel
theorem dX7_tryText_77 : decode cX7_tryText 77 = .ok (.invokevirtual 183, 3) := by decide +kernel
theorem dX7_tryText_80 : decode cX7_tryText 80 = .ok (.invokestatic 186, 3) := by decide +kernel
theorem dX7_tryText_83 : decode cX7_tryText 83 = .ok (.goto 4, 3) := by decide +kernel
theorem dX7_tryText_86 : decode cX7_tryText 86 = .ok (.iconst 1, 1) := by decide +kernel
theorem dX7_tryText_87 : decode cX7_tryText 87 = .ok (.putfield 163, 3) := by decide +kernel
theorem dX7_tryText_90 : decode cX7_tryText 90 = .ok (.aload_n 0, 1) := by decide +kernel
theorem dX7_tryText_91 : decode cX7_tryText 91 = .ok (.getfield 163, 3) := by decide +kernel
theorem dX7_tryText_94 : decode cX7_tryText 94 = .ok (.ifCond .eq 4, 3) := by decide +kernel
theorem dX7_tryText_97 : decode cX7_tryText 97 = .ok (.return_, 1) := by decide +kernel
theorem dX7_tryText_98 : decode cX7_tryText 98 = .ok (.aload_n 0, 1) := by decide +kernel
theorem dX7_tryText_99 : decode cX7_tryText 99 = .ok (.dup, 1) := by decide +kernel
theorem dX7_tryText_100 : decode cX7_tryText 100 = .ok (.getfield 173, 3) := by decide +kernel
theorem dX7_tryText_103 : decode cX7_tryText 103 = .ok (.iconst 1, 1) := by decide +kernel
theorem dX7_tryText_104 : decode cX7_tryText 104 = .ok (.iadd, 1) := by decide +kernel
theorem dX7_tryText_105 : decode cX7_tryText 105 = .ok (.putfield 173, 3) := by decide +kernel
theorem dX7_tryText_108 : decode cX7_tryText 108 = .ok (.iinc 1 1, 3) := by decide +kernel
theorem dX7_tryText_111 : decode cX7_tryText 111 = .ok (.goto (-80), 3) := by decide +kernel
theorem dX7_tryText_114 : decode cX7_tryText 114 = .ok (.return_, 1) := by decide +kernel
theorem dX7_reasonOf_0 : decode cX7_reasonOf 0 = .ok (.iload_n 0, 1) := by decide +kernel
theorem dX7_reasonOf_1 : decode cX7_reasonOf 1 = .ok (.ldc 84, 2) := by decide +kernel
theorem dX7_reasonOf_3 : decode cX7_reasonOf 3 = .ok (.if_icmp .ne 5, 3) := by decide +kernel
theorem dX7_reasonOf_6 : decode cX7_reasonOf 6 = .ok (.iconst 2, 1) := by decide +kernel
theorem dX7_reasonOf_7 : decode cX7_reasonOf 7 = .ok (.ireturn, 1) := by decide +kernel
theorem dX7_reasonOf_8 : decode cX7_reasonOf 8 = .ok (.iload_n 0, 1) := by decide +kernel
theorem dX7_reasonOf_9 : decode cX7_reasonOf 9 = .ok (.ifCond .ge 7, 3) := by decide +kernel
theorem dX7_reasonOf_12 : decode cX7_reasonOf 12 = .ok (.iconst 3, 1) := by decide +kernel
theorem dX7_reasonOf_13 : decode cX7_reasonOf 13 = .ok (.goto 4, 3) := by decide +kernel
theorem dX7_reasonOf_16 : decode cX7_reasonOf 16 = .ok (.iconst 0, 1) := by decide +kernel
theorem dX7_reasonOf_17 : decode cX7_reasonOf 17 = .ok (.ireturn, 1) := by decide +kernel
theorem dX7_doOrder_0 : decode cX7_doOrder 0 = .ok (.aload_n 0, 1) := by decide +kernel
theorem dX7_doOrder_1 : decode cX7_doOrder 1 = .ok (.getfield 36, 3) := by decide +kernel
theorem dX7_doOrder_4 : decode cX7_doOrder 4 = .ok (.getfield 189, 3) := by decide +kernel
theorem dX7_doOrder_7 : decode cX7_doOrder 7 = .ok (.tableswitch 211 98 120 #[105, 194, 211, 211, 211, 211, 211, 211, 211, 211, 211, 211, 211, 179, 211, 211, 211, 149, 164, 211, 211, 120, 202], 105) := by decide +kernel
theorem dX7_doOrder_112 : decode cX7_doOrder 112 = .ok (.aload_n 0, 1) := by decide +kernel
theorem dX7_doOrder_113 : decode cX7_doOrder 113 = .ok (.getfield 16, 3) := by decide +kernel
theorem dX7_doOrder_116 : decode cX7_doOrder 116 = .ok (.aload_n 0, 1) := by decide +kernel
theorem dX7_doOrder_117 : decode cX7_doOrder 117 = .ok (.getfield 36, 3) := by decide +kernel
theorem dX7_doOrder_120 : decode cX7_doOrder 120 = .ok (.getfield 192, 3) := by decide +kernel
theorem dX7_doOrder_123 : decode cX7_doOrder 123 = .ok (.invokevirtual 44, 3) := by decide +kernel
theorem dX7_doOrder_126 : decode cX7_doOrder 126 = .ok (.ireturn, 1) := by decide +kernel
theorem dX7_doOrder_127 : decode cX7_doOrder 127 = .ok (.aload_n 0, 1) := by decide +kernel
theorem dX7_doOrder_128 : decode cX7_doOrder 128 = .ok (.getfield 16, 3) := by decide +kernel
theorem dX7_doOrder_131 : decode cX7_doOrder 131 = .ok (.aload_n 0, 1) := by decide +kernel
theorem dX7_doOrder_132 : decode cX7_doOrder 132 = .ok (.getfield 36, 3) := by decide +kernel
theorem dX7_doOrder_135 : decode cX7_doOrder 135 = .ok (.getfield 192, 3) := by decide +kernel
theorem dX7_doOrder_138 : decode cX7_doOrder 138 = .ok (.aload_n 0, 1) := by decide +kernel
theorem dX7_doOrder_139 : decode cX7_doOrder 139 = .ok (.getfield 36, 3) := by decide +kernel
theorem dX7_doOrder_142 : decode cX7_doOrder 142 = .ok (.getfield 195, 3) := by decide +kernel
theorem dX7_doOrder_145 : decode cX7_doOrder 145 = .ok (.aload_n 0, 1) := by decide +kernel
theorem dX7_doOrder_146 : decode cX7_doOrder 146 = .ok (.getfield 36, 3) := by decide +kernel
theorem dX7_doOrder_149 : decode cX7_doOrder 149 = .ok (.getfield 198, 3) := by decide +kernel
theorem dX7_doOrder_152 : decode cX7_doOrder 152 = .ok (.invokevirtual 51, 3) := by decide +kernel
theorem dX7_doOrder_155 : decode cX7_doOrder 155 = .ok (.ireturn, 1) := by decide +kernel
theorem dX7_doOrder_156 : decode cX7_doOrder 156 = .ok (.aload_n 0, 1) := by decide +kernel
theorem dX7_doOrder_157 : decode cX7_doOrder 157 = .ok (.getfield 16, 3) := by decide +kernel
theorem dX7_doOrder_160 : decode cX7_doOrder 160 = .ok (.aload_n 0, 1) := by decide +kernel
theorem dX7_doOrder_161 : decode cX7_doOrder 161 = .ok (.getfield 36, 3) := by decide +kernel
theorem dX7_doOrder_164 : decode cX7_doOrder 164 = .ok (.getfield 192, 3) := by decide +kernel
theorem dX7_doOrder_167 : decode cX7_doOrder 167 = .ok (.invokevirtual 55, 3) := by decide +kernel
theorem dX7_doOrder_170 : decode cX7_doOrder 170 = .ok (.ireturn, 1) := by decide +kernel
theorem dX7_doOrder_171 : decode cX7_doOrder 171 = .ok (.aload_n 0, 1) := by decide +kernel
theorem dX7_doOrder_172 : decode cX7_doOrder 172 = .ok (.getfield 16, 3) := by decide +kernel
theorem dX7_doOrder_175 : decode cX7_doOrder 175 = .ok (.aload_n 0, 1) := by decide +kernel
theorem dX7_doOrder_176 : decode cX7_doOrder 176 = .ok (.getfield 36, 3) := by decide +kernel
theorem dX7_doOrder_179 : decode cX7_doOrder 179 = .ok (.getfield 192, 3) := by decide +kernel
theorem dX7_doOrder_182 : decode cX7_doOrder 182 = .ok (.invokevirtual 58, 3) := by decide +kernel
theorem dX7_doOrder_185 : decode cX7_doOrder 185 = .ok (.ireturn, 1) := by decide +kernel
theorem dX7_doOrder_186 : decode cX7_doOrder 186 = .ok (.aload_n 0, 1) := by decide +kernel
theorem dX7_doOrder_187 : decode cX7_doOrder 187 = .ok (.getfield 16, 3) := by decide +kernel
theorem dX7_doOrder_190 : decode cX7_doOrder 190 = .ok (.aload_n 0, 1) := by decide +kernel
theorem dX7_doOrder_191 : decode cX7_doOrder 191 = .ok (.getfield 36, 3) := by decide +kernel
theorem dX7_doOrder_194 : decode cX7_doOrder 194 = .ok (.getfield 192, 3) := by decide +kernel
theorem dX7_doOrder_197 : decode cX7_doOrder 197 = .ok (.invokevirtual 61, 3) := by decide +kernel
theorem dX7_doOrder_200 : decode cX7_doOrder 200 = .ok (.ireturn, 1) := by decide +kernel
theorem dX7_doOrder_201 : decode cX7_doOrder 201 = .ok (.aload_n 0, 1) := by decide +kernel
theorem dX7_doOrder_202 : decode cX7_doOrder 202 = .ok (.getfield 16, 3) := by decide +kernel
