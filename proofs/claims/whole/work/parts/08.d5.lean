theorem dX8_checkpoint_66 : decode cX8_checkpoint 66 = .ok (.iadd, 1) := by decide +kernel
theorem dX8_checkpoint_67 : decode cX8_checkpoint 67 = .ok (.aload_n 0, 1) := by decide +kernel
theorem dX8_checkpoint_68 : decode cX8_checkpoint 68 = .ok (.invokevirtual 118, 3) := by decide +kernel
theorem dX8_checkpoint_71 : decode cX8_checkpoint 71 = .ok (.iastore, 1) := by decide +kernel
theorem dX8_checkpoint_72 : decode cX8_checkpoint 72 = .ok (.aload_n 0, 1) := by decide +kernel
theorem dX8_checkpoint_73 : decode cX8_checkpoint 73 = .ok (.getfield 7, 3) := by decide +kernel
theorem dX8_checkpoint_76 : decode cX8_checkpoint 76 = .ok (.iload_n 2, 1) := by decide +kernel
theorem dX8_checkpoint_77 : decode cX8_checkpoint 77 = .ok (.bipush 7, 2) := by decide +kernel
theorem dX8_checkpoint_79 : decode cX8_checkpoint 79 = .ok (.iadd, 1) := by decide +kernel
theorem dX8_checkpoint_80 : decode cX8_checkpoint 80 = .ok (.aload_n 0, 1) := by decide +kernel
theorem dX8_checkpoint_81 : decode cX8_checkpoint 81 = .ok (.iconst 1, 1) := by decide +kernel
theorem dX8_checkpoint_82 : decode cX8_checkpoint 82 = .ok (.invokevirtual 115, 3) := by decide +kernel
theorem dX8_checkpoint_85 : decode cX8_checkpoint 85 = .ok (.iastore, 1) := by decide +kernel
theorem dX8_checkpoint_86 : decode cX8_checkpoint 86 = .ok (.iconst 0, 1) := by decide +kernel
theorem dX8_checkpoint_87 : decode cX8_checkpoint 87 = .ok (.istore_n 3, 1) := by decide +kernel
theorem dX8_checkpoint_88 : decode cX8_checkpoint 88 = .ok (.iload_n 3, 1) := by decide +kernel
theorem dX8_checkpoint_89 : decode cX8_checkpoint 89 = .ok (.bipush 8, 2) := by decide +kernel
theorem dX8_checkpoint_91 : decode cX8_checkpoint 91 = .ok (.if_icmp .ge 38, 3) := by decide +kernel
theorem dX8_checkpoint_94 : decode cX8_checkpoint 94 = .ok (.aload_n 0, 1) := by decide +kernel
theorem dX8_checkpoint_95 : decode cX8_checkpoint 95 = .ok (.getfield 7, 3) := by decide +kernel
theorem dX8_checkpoint_98 : decode cX8_checkpoint 98 = .ok (.iload_n 2, 1) := by decide +kernel
theorem dX8_checkpoint_99 : decode cX8_checkpoint 99 = .ok (.bipush 8, 2) := by decide +kernel
theorem dX8_checkpoint_101 : decode cX8_checkpoint 101 = .ok (.iadd, 1) := by decide +kernel
theorem dX8_checkpoint_102 : decode cX8_checkpoint 102 = .ok (.iload_n 3, 1) := by decide +kernel
theorem dX8_checkpoint_103 : decode cX8_checkpoint 103 = .ok (.iadd, 1) := by decide +kernel
theorem dX8_checkpoint_104 : decode cX8_checkpoint 104 = .ok (.aload_n 0, 1) := by decide +kernel
theorem dX8_checkpoint_105 : decode cX8_checkpoint 105 = .ok (.iload_n 3, 1) := by decide +kernel
theorem dX8_checkpoint_106 : decode cX8_checkpoint 106 = .ok (.invokevirtual 54, 3) := by decide +kernel
theorem dX8_checkpoint_109 : decode cX8_checkpoint 109 = .ok (.ifCond .eq 12, 3) := by decide +kernel
theorem dX8_checkpoint_112 : decode cX8_checkpoint 112 = .ok (.aload_n 0, 1) := by decide +kernel
theorem dX8_checkpoint_113 : decode cX8_checkpoint 113 = .ok (.iload_n 3, 1) := by decide +kernel
theorem dX8_checkpoint_114 : decode cX8_checkpoint 114 = .ok (.iconst 5, 1) := by decide +kernel
theorem dX8_checkpoint_115 : decode cX8_checkpoint 115 = .ok (.invokevirtual 43, 3) := by decide +kernel
theorem dX8_checkpoint_118 : decode cX8_checkpoint 118 = .ok (.goto 4, 3) := by decide +kernel
theorem dX8_checkpoint_121 : decode cX8_checkpoint 121 = .ok (.iconst 0, 1) := by decide +kernel
theorem dX8_checkpoint_122 : decode cX8_checkpoint 122 = .ok (.iastore, 1) := by decide +kernel
theorem dX8_checkpoint_123 : decode cX8_checkpoint 123 = .ok (.iinc 3 1, 3) := by decide +kernel
theorem dX8_checkpoint_126 : decode cX8_checkpoint 126 = .ok (.goto (-38), 3) := by decide +kernel
theorem dX8_checkpoint_129 : decode cX8_checkpoint 129 = .ok (.aload_n 0, 1) := by decide +kernel
theorem dX8_checkpoint_130 : decode cX8_checkpoint 130 = .ok (.iload_n 1, 1) := by decide +kernel
theorem dX8_checkpoint_131 : decode cX8_checkpoint 131 = .ok (.invokevirtual 96, 3) := by decide +kernel
theorem dX8_checkpoint_134 : decode cX8_checkpoint 134 = .ok (.pop, 1) := by decide +kernel
theorem dX8_checkpoint_135 : decode cX8_checkpoint 135 = .ok (.iload_n 1, 1) := by decide +kernel
theorem dX8_checkpoint_136 : decode cX8_checkpoint 136 = .ok (.ireturn, 1) := by decide +kernel
theorem dX8_latest_0 : decode cX8_latest 0 = .ok (.iconst 0, 1) := by decide +kernel
theorem dX8_latest_1 : decode cX8_latest 1 = .ok (.istore_n 1, 1) := by decide +kernel
theorem dX8_latest_2 : decode cX8_latest 2 = .ok (.aload_n 0, 1) := by decide +kernel
theorem dX8_latest_3 : decode cX8_latest 3 = .ok (.getfield 7, 3) := by decide +kernel
theorem dX8_latest_6 : decode cX8_latest 6 = .ok (.iconst 0, 1) := by decide +kernel
theorem dX8_latest_7 : decode cX8_latest 7 = .ok (.iaload, 1) := by decide +kernel
theorem dX8_latest_8 : decode cX8_latest 8 = .ok (.istore_n 2, 1) := by decide +kernel
theorem dX8_latest_9 : decode cX8_latest 9 = .ok (.iload_n 2, 1) := by decide +kernel
theorem dX8_latest_10 : decode cX8_latest 10 = .ok (.aload_n 0, 1) := by decide +kernel
theorem dX8_latest_11 : decode cX8_latest 11 = .ok (.invokevirtual 50, 3) := by decide +kernel
theorem dX8_latest_14 : decode cX8_latest 14 = .ok (.if_icmp .gt 25, 3) := by decide +kernel
theorem dX8_latest_17 : decode cX8_latest 17 = .ok (.aload_n 0, 1) := by decide +kernel
theorem dX8_latest_18 : decode cX8_latest 18 = .ok (.iload_n 2, 1) := by decide +kernel
theorem dX8_latest_19 : decode cX8_latest 19 = .ok (.iconst 0, 1) := by decide +kernel
theorem dX8_latest_20 : decode cX8_latest 20 = .ok (.invokevirtual 106, 3) := by decide +kernel
theorem dX8_latest_23 : decode cX8_latest 23 = .ok (.iconst 5, 1) := by decide +kernel
theorem dX8_latest_24 : decode cX8_latest 24 = .ok (.if_icmp .ne 7, 3) := by decide +kernel
theorem dX8_latest_27 : decode cX8_latest 27 = .ok (.iload_n 2, 1) := by decide +kernel
theorem dX8_latest_28 : decode cX8_latest 28 = .ok (.goto 4, 3) := by decide +kernel
theorem dX8_latest_31 : decode cX8_latest 31 = .ok (.iload_n 1, 1) := by decide +kernel
theorem dX8_latest_32 : decode cX8_latest 32 = .ok (.istore_n 1, 1) := by decide +kernel
theorem dX8_latest_33 : decode cX8_latest 33 = .ok (.iinc 2 1, 3) := by decide +kernel
theorem dX8_latest_36 : decode cX8_latest 36 = .ok (.goto (-27), 3) := by decide +kernel
theorem dX8_latest_39 : decode cX8_latest 39 = .ok (.iload_n 1, 1) := by decide +kernel
theorem dX8_latest_40 : decode cX8_latest 40 = .ok (.ireturn, 1) := by decide +kernel
theorem dX8_canDrop_0 : decode cX8_canDrop 0 = .ok (.aload_n 0, 1) := by decide +kernel
theorem dX8_canDrop_1 : decode cX8_canDrop 1 = .ok (.invokevirtual 121, 3) := by decide +kernel
theorem dX8_canDrop_4 : decode cX8_canDrop 4 = .ok (.istore_n 1, 1) := by decide +kernel
theorem dX8_canDrop_5 : decode cX8_canDrop 5 = .ok (.iload_n 1, 1) := by decide +kernel
theorem dX8_canDrop_6 : decode cX8_canDrop 6 = .ok (.ifCond .ne 5, 3) := by decide +kernel
theorem dX8_canDrop_9 : decode cX8_canDrop 9 = .ok (.iconst 0, 1) := by decide +kernel
theorem dX8_canDrop_10 : decode cX8_canDrop 10 = .ok (.ireturn, 1) := by decide +kernel
theorem dX8_canDrop_11 : decode cX8_canDrop 11 = .ok (.iload_n 1, 1) := by decide +kernel
theorem dX8_canDrop_12 : decode cX8_canDrop 12 = .ok (.istore_n 2, 1) := by decide +kernel
theorem dX8_canDrop_13 : decode cX8_canDrop 13 = .ok (.iconst 0, 1) := by decide +kernel
theorem dX8_canDrop_14 : decode cX8_canDrop 14 = .ok (.istore_n 3, 1) := by decide +kernel
theorem dX8_canDrop_15 : decode cX8_canDrop 15 = .ok (.iload_n 3, 1) := by decide +kernel
theorem dX8_canDrop_16 : decode cX8_canDrop 16 = .ok (.iconst 4, 1) := by decide +kernel
theorem dX8_canDrop_17 : decode cX8_canDrop 17 = .ok (.if_icmp .ge 90, 3) := by decide +kernel
theorem dX8_canDrop_20 : decode cX8_canDrop 20 = .ok (.iload_n 1, 1) := by decide +kernel
theorem dX8_canDrop_21 : decode cX8_canDrop 21 = .ok (.istore 4, 2) := by decide +kernel
theorem dX8_canDrop_23 : decode cX8_canDrop 23 = .ok (.aload_n 0, 1) := by decide +kernel
theorem dX8_canDrop_24 : decode cX8_canDrop 24 = .ok (.getfield 7, 3) := by decide +kernel
theorem dX8_canDrop_27 : decode cX8_canDrop 27 = .ok (.iconst 0, 1) := by decide +kernel
theorem dX8_canDrop_28 : decode cX8_canDrop 28 = .ok (.iaload, 1) := by decide +kernel
theorem dX8_canDrop_29 : decode cX8_canDrop 29 = .ok (.istore 5, 2) := by decide +kernel
theorem dX8_canDrop_31 : decode cX8_canDrop 31 = .ok (.iload 5, 2) := by decide +kernel
theorem dX8_canDrop_33 : decode cX8_canDrop 33 = .ok (.iload_n 1, 1) := by decide +kernel
theorem dX8_canDrop_34 : decode cX8_canDrop 34 = .ok (.if_icmp .ge 54, 3) := by decide +kernel
theorem dX8_canDrop_37 : decode cX8_canDrop 37 = .ok (.aload_n 0, 1) := by decide +kernel
theorem dX8_canDrop_38 : decode cX8_canDrop 38 = .ok (.iload_n 1, 1) := by decide +kernel
theorem dX8_canDrop_39 : decode cX8_canDrop 39 = .ok (.bipush 6, 2) := by decide +kernel
theorem dX8_canDrop_41 : decode cX8_canDrop 41 = .ok (.invokevirtual 106, 3) := by decide +kernel
theorem dX8_canDrop_44 : decode cX8_canDrop 44 = .ok (.iload_n 3, 1) := by decide +kernel
theorem dX8_canDrop_45 : decode cX8_canDrop 45 = .ok (.ishr, 1) := by decide +kernel
theorem dX8_canDrop_46 : decode cX8_canDrop 46 = .ok (.iconst 1, 1) := by decide +kernel
theorem dX8_canDrop_47 : decode cX8_canDrop 47 = .ok (.iand, 1) := by decide +kernel
theorem dX8_canDrop_48 : decode cX8_canDrop 48 = .ok (.iconst 1, 1) := by decide +kernel
theorem dX8_canDrop_49 : decode cX8_canDrop 49 = .ok (.if_icmp .ne 39, 3) := by decide +kernel
theorem dX8_canDrop_52 : decode cX8_canDrop 52 = .ok (.aload_n 0, 1) := by decide +kernel
theorem dX8_canDrop_53 : decode cX8_canDrop 53 = .ok (.iload 5, 2) := by decide +kernel
theorem dX8_canDrop_55 : decode cX8_canDrop 55 = .ok (.iconst 0, 1) := by decide +kernel
theorem dX8_canDrop_56 : decode cX8_canDrop 56 = .ok (.invokevirtual 106, 3) := by decide +kernel
theorem dX8_canDrop_59 : decode cX8_canDrop 59 = .ok (.ifCond .ne 19, 3) := by decide +kernel
theorem dX8_canDrop_62 : decode cX8_canDrop 62 = .ok (.aload_n 0, 1) := by decide +kernel
theorem dX8_canDrop_63 : decode cX8_canDrop 63 = .ok (.iload 5, 2) := by decide +kernel
theorem dX8_canDrop_65 : decode cX8_canDrop 65 = .ok (.iconst 1, 1) := by decide +kernel
theorem dX8_canDrop_66 : decode cX8_canDrop 66 = .ok (.invokevirtual 106, 3) := by decide +kernel
theorem dX8_canDrop_69 : decode cX8_canDrop 69 = .ok (.iload_n 3, 1) := by decide +kernel
theorem dX8_canDrop_70 : decode cX8_canDrop 70 = .ok (.if_icmp .ne 8, 3) := by decide +kernel
theorem dX8_canDrop_73 : decode cX8_canDrop 73 = .ok (.iload 5, 2) := by decide +kernel
theorem dX8_canDrop_75 : decode cX8_canDrop 75 = .ok (.goto 5, 3) := by decide +kernel
theorem dX8_canDrop_78 : decode cX8_canDrop 78 = .ok (.iload 4, 2) := by decide +kernel
theorem dX8_canDrop_80 : decode cX8_canDrop 80 = .ok (.istore 4, 2) := by decide +kernel
theorem dX8_canDrop_82 : decode cX8_canDrop 82 = .ok (.iinc 5 1, 3) := by decide +kernel
theorem dX8_canDrop_85 : decode cX8_canDrop 85 = .ok (.goto (-54), 3) := by decide +kernel
theorem dX8_canDrop_88 : decode cX8_canDrop 88 = .ok (.iload 4, 2) := by decide +kernel
theorem dX8_canDrop_90 : decode cX8_canDrop 90 = .ok (.iload_n 2, 1) := by decide +kernel
theorem dX8_canDrop_91 : decode cX8_canDrop 91 = .ok (.if_icmp .ge 8, 3) := by decide +kernel
theorem dX8_canDrop_94 : decode cX8_canDrop 94 = .ok (.iload 4, 2) := by decide +kernel
theorem dX8_canDrop_96 : decode cX8_canDrop 96 = .ok (.goto 4, 3) := by decide +kernel
theorem dX8_canDrop_99 : decode cX8_canDrop 99 = .ok (.iload_n 2, 1) := by decide +kernel
theorem dX8_canDrop_100 : decode cX8_canDrop 100 = .ok (.istore_n 2, 1) := by decide +kernel
theorem dX8_canDrop_101 : decode cX8_canDrop 101 = .ok (.iinc 3 1, 3) := by decide +kernel
theorem dX8_canDrop_104 : decode cX8_canDrop 104 = .ok (.goto (-89), 3) := by decide +kernel
theorem dX8_canDrop_107 : decode cX8_canDrop 107 = .ok (.iconst 0, 1) := by decide +kernel
theorem dX8_canDrop_108 : decode cX8_canDrop 108 = .ok (.istore_n 3, 1) := by decide +kernel
theorem dX8_canDrop_109 : decode cX8_canDrop 109 = .ok (.iload_n 3, 1) := by decide +kernel
theorem dX8_canDrop_110 : decode cX8_canDrop 110 = .ok (.bipush 8, 2) := by decide +kernel
theorem dX8_canDrop_112 : decode cX8_canDrop 112 = .ok (.if_icmp .ge 38, 3) := by decide +kernel
theorem dX8_canDrop_115 : decode cX8_canDrop 115 = .ok (.aload_n 0, 1) := by decide +kernel
theorem dX8_canDrop_116 : decode cX8_canDrop 116 = .ok (.iload_n 1, 1) := by decide +kernel
theorem dX8_canDrop_117 : decode cX8_canDrop 117 = .ok (.bipush 8, 2) := by decide +kernel
theorem dX8_canDrop_119 : decode cX8_canDrop 119 = .ok (.iload_n 3, 1) := by decide +kernel
theorem dX8_canDrop_120 : decode cX8_canDrop 120 = .ok (.iadd, 1) := by decide +kernel
theorem dX8_canDrop_121 : decode cX8_canDrop 121 = .ok (.invokevirtual 106, 3) := by decide +kernel
theorem dX8_canDrop_124 : decode cX8_canDrop 124 = .ok (.istore 4, 2) := by decide +kernel
theorem dX8_canDrop_126 : decode cX8_canDrop 126 = .ok (.iload 4, 2) := by decide +kernel
theorem dX8_canDrop_128 : decode cX8_canDrop 128 = .ok (.ifCond .le 14, 3) := by decide +kernel
theorem dX8_canDrop_131 : decode cX8_canDrop 131 = .ok (.iload 4, 2) := by decide +kernel
theorem dX8_canDrop_133 : decode cX8_canDrop 133 = .ok (.iload_n 2, 1) := by decide +kernel
theorem dX8_canDrop_134 : decode cX8_canDrop 134 = .ok (.if_icmp .ge 8, 3) := by decide +kernel
theorem dX8_canDrop_137 : decode cX8_canDrop 137 = .ok (.iload 4, 2) := by decide +kernel
theorem dX8_canDrop_139 : decode cX8_canDrop 139 = .ok (.goto 4, 3) := by decide +kernel
theorem dX8_canDrop_142 : decode cX8_canDrop 142 = .ok (.iload_n 2, 1) := by decide +kernel
theorem dX8_canDrop_143 : decode cX8_canDrop 143 = .ok (.istore_n 2, 1) := by decide +kernel
theorem dX8_canDrop_144 : decode cX8_canDrop 144 = .ok (.iinc 3 1, 3) := by decide +kernel
theorem dX8_canDrop_147 : decode cX8_canDrop 147 = .ok (.goto (-38), 3) := by decide +kernel
theorem dX8_canDrop_150 : decode cX8_canDrop 150 = .ok (.iload_n 2, 1) := by decide +kernel
theorem dX8_canDrop_151 : decode cX8_canDrop 151 = .ok (.aload_n 0, 1) := by decide +kernel
theorem dX8_canDrop_152 : decode cX8_canDrop 152 = .ok (.getfield 7, 3) := by decide +kernel
theorem dX8_canDrop_155 : decode cX8_canDrop 155 = .ok (.iconst 0, 1) := by decide +kernel
theorem dX8_canDrop_156 : decode cX8_canDrop 156 = .ok (.iaload, 1) := by decide +kernel
theorem dX8_canDrop_157 : decode cX8_canDrop 157 = .ok (.if_icmp .le 14, 3) := by decide +kernel
theorem dX8_canDrop_160 : decode cX8_canDrop 160 = .ok (.iload_n 2, 1) := by decide +kernel
theorem dX8_canDrop_161 : decode cX8_canDrop 161 = .ok (.aload_n 0, 1) := by decide +kernel
theorem dX8_canDrop_162 : decode cX8_canDrop 162 = .ok (.getfield 7, 3) := by decide +kernel
theorem dX8_canDrop_165 : decode cX8_canDrop 165 = .ok (.iconst 0, 1) := by decide +kernel
theorem dX8_canDrop_166 : decode cX8_canDrop 166 = .ok (.iaload, 1) := by decide +kernel
theorem dX8_canDrop_167 : decode cX8_canDrop 167 = .ok (.isub, 1) := by decide +kernel
theorem dX8_canDrop_168 : decode cX8_canDrop 168 = .ok (.goto 4, 3) := by decide +kernel
theorem dX8_canDrop_171 : decode cX8_canDrop 171 = .ok (.iconst 0, 1) := by decide +kernel
theorem dX8_canDrop_172 : decode cX8_canDrop 172 = .ok (.ireturn, 1) := by decide +kernel
theorem dX8_dropRecords_0 : decode cX8_dropRecords 0 = .ok (.aload_n 0, 1) := by decide +kernel
theorem dX8_dropRecords_1 : decode cX8_dropRecords 1 = .ok (.invokevirtual 71, 3) := by decide +kernel
theorem dX8_dropRecords_4 : decode cX8_dropRecords 4 = .ok (.ifCond .ne 10, 3) := by decide +kernel
theorem dX8_dropRecords_7 : decode cX8_dropRecords 7 = .ok (.aload_n 0, 1) := by decide +kernel
theorem dX8_dropRecords_8 : decode cX8_dropRecords 8 = .ok (.invokevirtual 121, 3) := by decide +kernel
theorem dX8_dropRecords_11 : decode cX8_dropRecords 11 = .ok (.ifCond .ne 6, 3) := by decide +kernel
theorem dX8_dropRecords_14 : decode cX8_dropRecords 14 = .ok (.ldc 75, 2) := by decide +kernel
theorem dX8_dropRecords_16 : decode cX8_dropRecords 16 = .ok (.ireturn, 1) := by decide +kernel
theorem dX8_dropRecords_17 : decode cX8_dropRecords 17 = .ok (.aload_n 0, 1) := by decide +kernel
theorem dX8_dropRecords_18 : decode cX8_dropRecords 18 = .ok (.invokevirtual 77, 3) := by decide +kernel
theorem dX8_dropRecords_21 : decode cX8_dropRecords 21 = .ok (.aload_n 0, 1) := by decide +kernel
theorem dX8_dropRecords_22 : decode cX8_dropRecords 22 = .ok (.invokevirtual 124, 3) := by decide +kernel
theorem dX8_dropRecords_25 : decode cX8_dropRecords 25 = .ok (.istore_n 1, 1) := by decide +kernel
theorem dX8_dropRecords_26 : decode cX8_dropRecords 26 = .ok (.bipush 69, 2) := by decide +kernel
theorem dX8_dropRecords_28 : decode cX8_dropRecords 28 = .ok (.istore_n 2, 1) := by decide +kernel
theorem dX8_dropRecords_29 : decode cX8_dropRecords 29 = .ok (.iload_n 2, 1) := by decide +kernel
theorem dX8_dropRecords_30 : decode cX8_dropRecords 30 = .ok (.bipush 69, 2) := by decide +kernel
theorem dX8_dropRecords_32 : decode cX8_dropRecords 32 = .ok (.bipush 16, 2) := by decide +kernel
theorem dX8_dropRecords_34 : decode cX8_dropRecords 34 = .ok (.aload_n 0, 1) := by decide +kernel
theorem dX8_dropRecords_35 : decode cX8_dropRecords 35 = .ok (.getfield 7, 3) := by decide +kernel
theorem dX8_dropRecords_38 : decode cX8_dropRecords 38 = .ok (.iconst 1, 1) := by decide +kernel
theorem dX8_dropRecords_39 : decode cX8_dropRecords 39 = .ok (.iaload, 1) := by decide +kernel
theorem dX8_dropRecords_40 : decode cX8_dropRecords 40 = .ok (.iload_n 1, 1) := by decide +kernel
theorem dX8_dropRecords_41 : decode cX8_dropRecords 41 = .ok (.isub, 1) := by decide +kernel
theorem dX8_dropRecords_42 : decode cX8_dropRecords 42 = .ok (.imul, 1) := by decide +kernel
theorem dX8_dropRecords_43 : decode cX8_dropRecords 43 = .ok (.iadd, 1) := by decide +kernel
theorem dX8_dropRecords_44 : decode cX8_dropRecords 44 = .ok (.if_icmp .ge 26, 3) := by decide +kernel
theorem dX8_dropRecords_47 : decode cX8_dropRecords 47 = .ok (.aload_n 0, 1) := by decide +kernel
theorem dX8_dropRecords_48 : decode cX8_dropRecords 48 = .ok (.getfield 7, 3) := by decide +kernel
theorem dX8_dropRecords_51 : decode cX8_dropRecords 51 = .ok (.iload_n 2, 1) := by decide +kernel
theorem dX8_dropRecords_52 : decode cX8_dropRecords 52 = .ok (.aload_n 0, 1) := by decide +kernel
theorem dX8_dropRecords_53 : decode cX8_dropRecords 53 = .ok (.getfield 7, 3) := by decide +kernel
theorem dX8_dropRecords_56 : decode cX8_dropRecords 56 = .ok (.iload_n 2, 1) := by decide +kernel
theorem dX8_dropRecords_57 : decode cX8_dropRecords 57 = .ok (.bipush 16, 2) := by decide +kernel
theorem dX8_dropRecords_59 : decode cX8_dropRecords 59 = .ok (.iload_n 1, 1) := by decide +kernel
theorem dX8_dropRecords_60 : decode cX8_dropRecords 60 = .ok (.imul, 1) := by decide +kernel
theorem dX8_dropRecords_61 : decode cX8_dropRecords 61 = .ok (.iadd, 1) := by decide +kernel
theorem dX8_dropRecords_62 : decode cX8_dropRecords 62 = .ok (.iaload, 1) := by decide +kernel
theorem dX8_dropRecords_63 : decode cX8_dropRecords 63 = .ok (.iastore, 1) := by decide +kernel
theorem dX8_dropRecords_64 : decode cX8_dropRecords 64 = .ok (.iinc 2 1, 3) := by decide +kernel
theorem dX8_dropRecords_67 : decode cX8_dropRecords 67 = .ok (.goto (-38), 3) := by decide +kernel
theorem dX8_dropRecords_70 : decode cX8_dropRecords 70 = .ok (.aload_n 0, 1) := by decide +kernel
theorem dX8_dropRecords_71 : decode cX8_dropRecords 71 = .ok (.getfield 7, 3) := by decide +kernel
theorem dX8_dropRecords_74 : decode cX8_dropRecords 74 = .ok (.iconst 1, 1) := by decide +kernel
theorem dX8_dropRecords_75 : decode cX8_dropRecords 75 = .ok (.dup2, 1) := by decide +kernel
theorem dX8_dropRecords_76 : decode cX8_dropRecords 76 = .ok (.iaload, 1) := by decide +kernel
theorem dX8_dropRecords_77 : decode cX8_dropRecords 77 = .ok (.iload_n 1, 1) := by decide +kernel
theorem dX8_dropRecords_78 : decode cX8_dropRecords 78 = .ok (.isub, 1) := by decide +kernel
theorem dX8_dropRecords_79 : decode cX8_dropRecords 79 = .ok (.iastore, 1) := by decide +kernel
theorem dX8_dropRecords_80 : decode cX8_dropRecords 80 = .ok (.aload_n 0, 1) := by decide +kernel
theorem dX8_dropRecords_81 : decode cX8_dropRecords 81 = .ok (.getfield 7, 3) := by decide +kernel
theorem dX8_dropRecords_84 : decode cX8_dropRecords 84 = .ok (.iconst 0, 1) := by decide +kernel
theorem dX8_dropRecords_85 : decode cX8_dropRecords 85 = .ok (.dup2, 1) := by decide +kernel
theorem dX8_dropRecords_86 : decode cX8_dropRecords 86 = .ok (.iaload, 1) := by decide +kernel
theorem dX8_dropRecords_87 : decode cX8_dropRecords 87 = .ok (.iload_n 1, 1) := by decide +kernel
theorem dX8_dropRecords_88 : decode cX8_dropRecords 88 = .ok (.iadd, 1) := by decide +kernel
theorem dX8_dropRecords_89 : decode cX8_dropRecords 89 = .ok (.iastore, 1) := by decide +kernel
theorem dX8_dropRecords_90 : decode cX8_dropRecords 90 = .ok (.iload_n 1, 1) := by decide +kernel
theorem dX8_dropRecords_91 : decode cX8_dropRecords 91 = .ok (.ireturn, 1) := by decide +kernel
theorem dX8_force_0 : decode cX8_force 0 = .ok (.aload_n 0, 1) := by decide +kernel
theorem dX8_force_1 : decode cX8_force 1 = .ok (.invokevirtual 71, 3) := by decide +kernel
theorem dX8_force_4 : decode cX8_force 4 = .ok (.ifCond .eq 6, 3) := by decide +kernel
theorem dX8_force_7 : decode cX8_force 7 = .ok (.ldc 75, 2) := by decide +kernel
theorem dX8_force_9 : decode cX8_force 9 = .ok (.ireturn, 1) := by decide +kernel
theorem dX8_force_10 : decode cX8_force 10 = .ok (.aload_n 0, 1) := by decide +kernel
theorem dX8_force_11 : decode cX8_force 11 = .ok (.invokevirtual 77, 3) := by decide +kernel
theorem dX8_force_14 : decode cX8_force 14 = .ok (.aload_n 0, 1) := by decide +kernel
theorem dX8_force_15 : decode cX8_force 15 = .ok (.aload_n 0, 1) := by decide +kernel
theorem dX8_force_16 : decode cX8_force 16 = .ok (.invokevirtual 50, 3) := by decide +kernel
theorem dX8_force_19 : decode cX8_force 19 = .ok (.invokevirtual 96, 3) := by decide +kernel
theorem dX8_force_22 : decode cX8_force 22 = .ok (.ireturn, 1) := by decide +kernel
theorem dX8_isTorn_0 : decode cX8_isTorn 0 = .ok (.aload_n 0, 1) := by decide +kernel
theorem dX8_isTorn_1 : decode cX8_isTorn 1 = .ok (.getfield 7, 3) := by decide +kernel
theorem dX8_isTorn_4 : decode cX8_isTorn 4 = .ok (.iconst 2, 1) := by decide +kernel
theorem dX8_isTorn_5 : decode cX8_isTorn 5 = .ok (.iaload, 1) := by decide +kernel
theorem dX8_isTorn_6 : decode cX8_isTorn 6 = .ok (.aload_n 0, 1) := by decide +kernel
theorem dX8_isTorn_7 : decode cX8_isTorn 7 = .ok (.getfield 7, 3) := by decide +kernel
theorem dX8_isTorn_10 : decode cX8_isTorn 10 = .ok (.iconst 0, 1) := by decide +kernel
theorem dX8_isTorn_11 : decode cX8_isTorn 11 = .ok (.iaload, 1) := by decide +kernel
theorem dX8_isTorn_12 : decode cX8_isTorn 12 = .ok (.if_icmp .lt 37, 3) := by decide +kernel
theorem dX8_isTorn_15 : decode cX8_isTorn 15 = .ok (.aload_n 0, 1) := by decide +kernel
theorem dX8_isTorn_16 : decode cX8_isTorn 16 = .ok (.aload_n 0, 1) := by decide +kernel
theorem dX8_isTorn_17 : decode cX8_isTorn 17 = .ok (.getfield 7, 3) := by decide +kernel
theorem dX8_isTorn_20 : decode cX8_isTorn 20 = .ok (.iconst 2, 1) := by decide +kernel
theorem dX8_isTorn_21 : decode cX8_isTorn 21 = .ok (.iaload, 1) := by decide +kernel
theorem dX8_isTorn_22 : decode cX8_isTorn 22 = .ok (.iconst 0, 1) := by decide +kernel
theorem dX8_isTorn_23 : decode cX8_isTorn 23 = .ok (.invokevirtual 106, 3) := by decide +kernel
theorem dX8_isTorn_26 : decode cX8_isTorn 26 = .ok (.iconst 2, 1) := by decide +kernel
theorem dX8_isTorn_27 : decode cX8_isTorn 27 = .ok (.if_icmp .eq 22, 3) := by decide +kernel
theorem dX8_isTorn_30 : decode cX8_isTorn 30 = .ok (.aload_n 0, 1) := by decide +kernel
theorem dX8_isTorn_31 : decode cX8_isTorn 31 = .ok (.aload_n 0, 1) := by decide +kernel
theorem dX8_isTorn_32 : decode cX8_isTorn 32 = .ok (.getfield 7, 3) := by decide +kernel
theorem dX8_isTorn_35 : decode cX8_isTorn 35 = .ok (.iconst 2, 1) := by decide +kernel
theorem dX8_isTorn_36 : decode cX8_isTorn 36 = .ok (.iaload, 1) := by decide +kernel
theorem dX8_isTorn_37 : decode cX8_isTorn 37 = .ok (.iconst 0, 1) := by decide +kernel
theorem dX8_isTorn_38 : decode cX8_isTorn 38 = .ok (.invokevirtual 106, 3) := by decide +kernel
theorem dX8_isTorn_41 : decode cX8_isTorn 41 = .ok (.iconst 5, 1) := by decide +kernel
theorem dX8_isTorn_42 : decode cX8_isTorn 42 = .ok (.if_icmp .eq 7, 3) := by decide +kernel
theorem dX8_isTorn_45 : decode cX8_isTorn 45 = .ok (.iconst 1, 1) := by decide +kernel
theorem dX8_isTorn_46 : decode cX8_isTorn 46 = .ok (.goto 4, 3) := by decide +kernel
theorem dX8_isTorn_49 : decode cX8_isTorn 49 = .ok (.iconst 0, 1) := by decide +kernel
theorem dX8_isTorn_50 : decode cX8_isTorn 50 = .ok (.istore_n 1, 1) := by decide +kernel
theorem dX8_isTorn_51 : decode cX8_isTorn 51 = .ok (.iconst 0, 1) := by decide +kernel
theorem dX8_isTorn_52 : decode cX8_isTorn 52 = .ok (.istore_n 2, 1) := by decide +kernel
theorem dX8_isTorn_53 : decode cX8_isTorn 53 = .ok (.iload_n 2, 1) := by decide +kernel
theorem dX8_isTorn_54 : decode cX8_isTorn 54 = .ok (.bipush 8, 2) := by decide +kernel
theorem dX8_isTorn_56 : decode cX8_isTorn 56 = .ok (.if_icmp .ge 34, 3) := by decide +kernel
theorem dX8_isTorn_59 : decode cX8_isTorn 59 = .ok (.iload_n 1, 1) := by decide +kernel
theorem dX8_isTorn_60 : decode cX8_isTorn 60 = .ok (.ifCond .eq 22, 3) := by decide +kernel
theorem dX8_isTorn_63 : decode cX8_isTorn 63 = .ok (.aload_n 0, 1) := by decide +kernel
theorem dX8_isTorn_64 : decode cX8_isTorn 64 = .ok (.getfield 7, 3) := by decide +kernel
theorem dX8_isTorn_67 : decode cX8_isTorn 67 = .ok (.iconst 2, 1) := by decide +kernel
theorem dX8_isTorn_68 : decode cX8_isTorn 68 = .ok (.iaload, 1) := by decide +kernel
theorem dX8_isTorn_69 : decode cX8_isTorn 69 = .ok (.aload_n 0, 1) := by decide +kernel
theorem dX8_isTorn_70 : decode cX8_isTorn 70 = .ok (.iload_n 2, 1) := by decide +kernel
theorem dX8_isTorn_71 : decode cX8_isTorn 71 = .ok (.iconst 1, 1) := by decide +kernel
theorem dX8_isTorn_72 : decode cX8_isTorn 72 = .ok (.invokevirtual 43, 3) := by decide +kernel
theorem dX8_isTorn_75 : decode cX8_isTorn 75 = .ok (.if_icmp .le 7, 3) := by decide +kernel
theorem dX8_isTorn_78 : decode cX8_isTorn 78 = .ok (.iconst 1, 1) := by decide +kernel
theorem dX8_isTorn_79 : decode cX8_isTorn 79 = .ok (.goto 4, 3) := by decide +kernel
theorem dX8_isTorn_82 : decode cX8_isTorn 82 = .ok (.iconst 0, 1) := by decide +kernel
theorem dX8_isTorn_83 : decode cX8_isTorn 83 = .ok (.istore_n 1, 1) := by decide +kernel
theorem dX8_isTorn_84 : decode cX8_isTorn 84 = .ok (.iinc 2 1, 3) := by decide +kernel
theorem dX8_isTorn_87 : decode cX8_isTorn 87 = .ok (.goto (-34), 3) := by decide +kernel
theorem dX8_isTorn_90 : decode cX8_isTorn 90 = .ok (.iload_n 1, 1) := by decide +kernel
theorem dX8_isTorn_91 : decode cX8_isTorn 91 = .ok (.ireturn, 1) := by decide +kernel
theorem dX8_stops_0 : decode cX8_stops 0 = .ok (.aload_n 0, 1) := by decide +kernel
theorem dX8_stops_1 : decode cX8_stops 1 = .ok (.invokevirtual 50, 3) := by decide +kernel
theorem dX8_stops_4 : decode cX8_stops 4 = .ok (.aload_n 0, 1) := by decide +kernel
theorem dX8_stops_5 : decode cX8_stops 5 = .ok (.getfield 7, 3) := by decide +kernel
theorem dX8_stops_8 : decode cX8_stops 8 = .ok (.iconst 2, 1) := by decide +kernel
theorem dX8_stops_9 : decode cX8_stops 9 = .ok (.iaload, 1) := by decide +kernel
theorem dX8_stops_10 : decode cX8_stops 10 = .ok (.isub, 1) := by decide +kernel
theorem dX8_stops_11 : decode cX8_stops 11 = .ok (.istore_n 2, 1) := by decide +kernel
theorem dX8_stops_12 : decode cX8_stops 12 = .ok (.iload_n 1, 1) := by decide +kernel
theorem dX8_stops_13 : decode cX8_stops 13 = .ok (.iconst 1, 1) := by decide +kernel
theorem dX8_stops_14 : decode cX8_stops 14 = .ok (.if_icmp .ne 23, 3) := by decide +kernel
theorem dX8_stops_17 : decode cX8_stops 17 = .ok (.aload_n 0, 1) := by decide +kernel
theorem dX8_stops_18 : decode cX8_stops 18 = .ok (.invokevirtual 127, 3) := by decide +kernel
theorem dX8_stops_21 : decode cX8_stops 21 = .ok (.ifCond .eq 16, 3) := by decide +kernel
theorem dX8_stops_24 : decode cX8_stops 24 = .ok (.iinc 2 1, 3) := by decide +kernel
theorem dX8_stops_27 : decode cX8_stops 27 = .ok (.aload_n 0, 1) := by decide +kernel
theorem dX8_stops_28 : decode cX8_stops 28 = .ok (.getfield 7, 3) := by decide +kernel
theorem dX8_stops_31 : decode cX8_stops 31 = .ok (.iconst 2, 1) := by decide +kernel
theorem dX8_stops_32 : decode cX8_stops 32 = .ok (.dup2, 1) := by decide +kernel
theorem dX8_stops_33 : decode cX8_stops 33 = .ok (.iaload, 1) := by decide +kernel
theorem dX8_stops_34 : decode cX8_stops 34 = .ok (.iconst 1, 1) := by decide +kernel
theorem dX8_stops_35 : decode cX8_stops 35 = .ok (.isub, 1) := by decide +kernel
theorem dX8_stops_36 : decode cX8_stops 36 = .ok (.iastore, 1) := by decide +kernel
theorem dX8_stops_37 : decode cX8_stops 37 = .ok (.aload_n 0, 1) := by decide +kernel
theorem dX8_stops_38 : decode cX8_stops 38 = .ok (.getfield 7, 3) := by decide +kernel
theorem dX8_stops_41 : decode cX8_stops 41 = .ok (.iconst 1, 1) := by decide +kernel
theorem dX8_stops_42 : decode cX8_stops 42 = .ok (.dup2, 1) := by decide +kernel
theorem dX8_stops_43 : decode cX8_stops 43 = .ok (.iaload, 1) := by decide +kernel
theorem dX8_stops_44 : decode cX8_stops 44 = .ok (.iload_n 2, 1) := by decide +kernel
theorem dX8_stops_45 : decode cX8_stops 45 = .ok (.isub, 1) := by decide +kernel
theorem dX8_stops_46 : decode cX8_stops 46 = .ok (.iastore, 1) := by decide +kernel
theorem dX8_stops_47 : decode cX8_stops 47 = .ok (.iconst 0, 1) := by decide +kernel
theorem dX8_stops_48 : decode cX8_stops 48 = .ok (.istore_n 3, 1) := by decide +kernel
theorem dX8_stops_49 : decode cX8_stops 49 = .ok (.iload_n 3, 1) := by decide +kernel
theorem dX8_stops_50 : decode cX8_stops 50 = .ok (.bipush 8, 2) := by decide +kernel
theorem dX8_stops_52 : decode cX8_stops 52 = .ok (.if_icmp .ge 16, 3) := by decide +kernel
theorem dX8_stops_55 : decode cX8_stops 55 = .ok (.aload_n 0, 1) := by decide +kernel
theorem dX8_stops_56 : decode cX8_stops 56 = .ok (.iload_n 3, 1) := by decide +kernel
theorem dX8_stops_57 : decode cX8_stops 57 = .ok (.iconst 2, 1) := by decide +kernel
theorem dX8_stops_58 : decode cX8_stops 58 = .ok (.iconst 0, 1) := by decide +kernel
theorem dX8_stops_59 : decode cX8_stops 59 = .ok (.invokevirtual 58, 3) := by decide +kernel
theorem dX8_stops_62 : decode cX8_stops 62 = .ok (.iinc 3 1, 3) := by decide +kernel
theorem dX8_stops_65 : decode cX8_stops 65 = .ok (.goto (-16), 3) := by decide +kernel
theorem dX8_stops_68 : decode cX8_stops 68 = .ok (.iconst 0, 1) := by decide +kernel
theorem dX8_stops_69 : decode cX8_stops 69 = .ok (.istore_n 3, 1) := by decide +kernel
theorem dX8_stops_70 : decode cX8_stops 70 = .ok (.iload_n 3, 1) := by decide +kernel
theorem dX8_stops_71 : decode cX8_stops 71 = .ok (.iconst 4, 1) := by decide +kernel
theorem dX8_stops_72 : decode cX8_stops 72 = .ok (.if_icmp .ge 14, 3) := by decide +kernel
theorem dX8_stops_75 : decode cX8_stops 75 = .ok (.aload_n 0, 1) := by decide +kernel
theorem dX8_stops_76 : decode cX8_stops 76 = .ok (.iload_n 3, 1) := by decide +kernel
theorem dX8_stops_77 : decode cX8_stops 77 = .ok (.invokevirtual 102, 3) := by decide +kernel
theorem dX8_stops_80 : decode cX8_stops 80 = .ok (.iinc 3 1, 3) := by decide +kernel
theorem dX8_stops_83 : decode cX8_stops 83 = .ok (.goto (-13), 3) := by decide +kernel
theorem dX8_stops_86 : decode cX8_stops 86 = .ok (.aload_n 0, 1) := by decide +kernel
theorem dX8_stops_87 : decode cX8_stops 87 = .ok (.getfield 7, 3) := by decide +kernel
theorem dX8_stops_90 : decode cX8_stops 90 = .ok (.iconst 1, 1) := by decide +kernel
theorem dX8_stops_91 : decode cX8_stops 91 = .ok (.iaload, 1) := by decide +kernel
theorem dX8_stops_92 : decode cX8_stops 92 = .ok (.ifCond .ne 17, 3) := by decide +kernel
theorem dX8_stops_95 : decode cX8_stops 95 = .ok (.aload_n 0, 1) := by decide +kernel
theorem dX8_stops_96 : decode cX8_stops 96 = .ok (.getfield 7, 3) := by decide +kernel
theorem dX8_stops_99 : decode cX8_stops 99 = .ok (.iconst 0, 1) := by decide +kernel
theorem dX8_stops_100 : decode cX8_stops 100 = .ok (.iconst 1, 1) := by decide +kernel
theorem dX8_stops_101 : decode cX8_stops 101 = .ok (.iastore, 1) := by decide +kernel
theorem dX8_stops_102 : decode cX8_stops 102 = .ok (.aload_n 0, 1) := by decide +kernel
theorem dX8_stops_103 : decode cX8_stops 103 = .ok (.getfield 7, 3) := by decide +kernel
theorem dX8_stops_106 : decode cX8_stops 106 = .ok (.iconst 2, 1) := by decide +kernel
theorem dX8_stops_107 : decode cX8_stops 107 = .ok (.iconst 0, 1) := by decide +kernel
theorem dX8_stops_108 : decode cX8_stops 108 = .ok (.iastore, 1) := by decide +kernel
theorem dX8_stops_109 : decode cX8_stops 109 = .ok (.aload_n 0, 1) := by decide +kernel
theorem dX8_stops_110 : decode cX8_stops 110 = .ok (.getfield 7, 3) := by decide +kernel
theorem dX8_stops_113 : decode cX8_stops 113 = .ok (.iconst 3, 1) := by decide +kernel
theorem dX8_stops_114 : decode cX8_stops 114 = .ok (.iconst 1, 1) := by decide +kernel
theorem dX8_stops_115 : decode cX8_stops 115 = .ok (.iastore, 1) := by decide +kernel
theorem dX8_stops_116 : decode cX8_stops 116 = .ok (.iload_n 2, 1) := by decide +kernel
theorem dX8_stops_117 : decode cX8_stops 117 = .ok (.ireturn, 1) := by decide +kernel
theorem dX8_stop_0 : decode cX8_stop 0 = .ok (.iload_n 1, 1) := by decide +kernel
theorem dX8_stop_1 : decode cX8_stop 1 = .ok (.iconst 0, 1) := by decide +kernel
theorem dX8_stop_2 : decode cX8_stop 2 = .ok (.iconst 1, 1) := by decide +kernel
theorem dX8_stop_3 : decode cX8_stop 3 = .ok (.invokestatic 66, 3) := by decide +kernel
theorem dX8_stop_6 : decode cX8_stop 6 = .ok (.ifCond .ne 6, 3) := by decide +kernel
theorem dX8_stop_9 : decode cX8_stop 9 = .ok (.ldc 70, 2) := by decide +kernel
theorem dX8_stop_11 : decode cX8_stop 11 = .ok (.ireturn, 1) := by decide +kernel
theorem dX8_stop_12 : decode cX8_stop 12 = .ok (.aload_n 0, 1) := by decide +kernel
theorem dX8_stop_13 : decode cX8_stop 13 = .ok (.invokevirtual 71, 3) := by decide +kernel
theorem dX8_stop_16 : decode cX8_stop 16 = .ok (.ifCond .eq 6, 3) := by decide +kernel
theorem dX8_stop_19 : decode cX8_stop 19 = .ok (.ldc 75, 2) := by decide +kernel
theorem dX8_stop_21 : decode cX8_stop 21 = .ok (.ireturn, 1) := by decide +kernel
theorem dX8_stop_22 : decode cX8_stop 22 = .ok (.aload_n 0, 1) := by decide +kernel
theorem dX8_stop_23 : decode cX8_stop 23 = .ok (.invokevirtual 77, 3) := by decide +kernel
theorem dX8_stop_26 : decode cX8_stop 26 = .ok (.aload_n 0, 1) := by decide +kernel
theorem dX8_stop_27 : decode cX8_stop 27 = .ok (.iload_n 1, 1) := by decide +kernel
theorem dX8_stop_28 : decode cX8_stop 28 = .ok (.invokevirtual 130, 3) := by decide +kernel
theorem dX8_stop_31 : decode cX8_stop 31 = .ok (.ireturn, 1) := by decide +kernel
theorem dX8_looks_0 : decode cX8_looks 0 = .ok (.aload_n 0, 1) := by decide +kernel
theorem dX8_looks_1 : decode cX8_looks 1 = .ok (.invokevirtual 121, 3) := by decide +kernel
theorem dX8_looks_4 : decode cX8_looks 4 = .ok (.istore_n 1, 1) := by decide +kernel
theorem dX8_looks_5 : decode cX8_looks 5 = .ok (.aload_n 0, 1) := by decide +kernel
theorem dX8_looks_6 : decode cX8_looks 6 = .ok (.iload_n 1, 1) := by decide +kernel
theorem dX8_looks_7 : decode cX8_looks 7 = .ok (.ifCond .ne 7, 3) := by decide +kernel
theorem dX8_looks_10 : decode cX8_looks 10 = .ok (.iconst 0, 1) := by decide +kernel
theorem dX8_looks_11 : decode cX8_looks 11 = .ok (.goto 10, 3) := by decide +kernel
theorem dX8_looks_14 : decode cX8_looks 14 = .ok (.aload_n 0, 1) := by decide +kernel
theorem dX8_looks_15 : decode cX8_looks 15 = .ok (.iload_n 1, 1) := by decide +kernel
theorem dX8_looks_16 : decode cX8_looks 16 = .ok (.bipush 6, 2) := by decide +kernel
theorem dX8_looks_18 : decode cX8_looks 18 = .ok (.invokevirtual 106, 3) := by decide +kernel
theorem dX8_looks_21 : decode cX8_looks 21 = .ok (.putfield 133, 3) := by decide +kernel
theorem dX8_looks_24 : decode cX8_looks 24 = .ok (.iconst 0, 1) := by decide +kernel
theorem dX8_looks_25 : decode cX8_looks 25 = .ok (.istore_n 2, 1) := by decide +kernel
theorem dX8_looks_26 : decode cX8_looks 26 = .ok (.iload_n 2, 1) := by decide +kernel
theorem dX8_looks_27 : decode cX8_looks 27 = .ok (.bipush 8, 2) := by decide +kernel
theorem dX8_looks_29 : decode cX8_looks 29 = .ok (.if_icmp .ge 32, 3) := by decide +kernel
theorem dX8_looks_32 : decode cX8_looks 32 = .ok (.aload_n 0, 1) := by decide +kernel
theorem dX8_looks_33 : decode cX8_looks 33 = .ok (.getfield 25, 3) := by decide +kernel
theorem dX8_looks_36 : decode cX8_looks 36 = .ok (.iload_n 2, 1) := by decide +kernel
theorem dX8_looks_37 : decode cX8_looks 37 = .ok (.iload_n 1, 1) := by decide +kernel
theorem dX8_looks_38 : decode cX8_looks 38 = .ok (.ifCond .ne 7, 3) := by decide +kernel
theorem dX8_looks_41 : decode cX8_looks 41 = .ok (.iconst 0, 1) := by decide +kernel
theorem dX8_looks_42 : decode cX8_looks 42 = .ok (.goto 12, 3) := by decide +kernel
theorem dX8_looks_45 : decode cX8_looks 45 = .ok (.aload_n 0, 1) := by decide +kernel
theorem dX8_looks_46 : decode cX8_looks 46 = .ok (.iload_n 1, 1) := by decide +kernel
theorem dX8_looks_47 : decode cX8_looks 47 = .ok (.bipush 8, 2) := by decide +kernel
theorem dX8_looks_49 : decode cX8_looks 49 = .ok (.iload_n 2, 1) := by decide +kernel
theorem dX8_looks_50 : decode cX8_looks 50 = .ok (.iadd, 1) := by decide +kernel
theorem dX8_looks_51 : decode cX8_looks 51 = .ok (.invokevirtual 106, 3) := by decide +kernel
theorem dX8_looks_54 : decode cX8_looks 54 = .ok (.iastore, 1) := by decide +kernel
theorem dX8_looks_55 : decode cX8_looks 55 = .ok (.iinc 2 1, 3) := by decide +kernel
theorem dX8_looks_58 : decode cX8_looks 58 = .ok (.goto (-32), 3) := by decide +kernel
theorem dX8_looks_61 : decode cX8_looks 61 = .ok (.iload_n 1, 1) := by decide +kernel
theorem dX8_looks_62 : decode cX8_looks 62 = .ok (.ifCond .ne 12, 3) := by decide +kernel
theorem dX8_looks_65 : decode cX8_looks 65 = .ok (.aload_n 0, 1) := by decide +kernel
theorem dX8_looks_66 : decode cX8_looks 66 = .ok (.getfield 7, 3) := by decide +kernel
theorem dX8_looks_69 : decode cX8_looks 69 = .ok (.iconst 0, 1) := by decide +kernel
theorem dX8_looks_70 : decode cX8_looks 70 = .ok (.iaload, 1) := by decide +kernel
theorem dX8_looks_71 : decode cX8_looks 71 = .ok (.goto 6, 3) := by decide +kernel
theorem dX8_looks_74 : decode cX8_looks 74 = .ok (.iload_n 1, 1) := by decide +kernel
theorem dX8_looks_75 : decode cX8_looks 75 = .ok (.iconst 1, 1) := by decide +kernel
theorem dX8_looks_76 : decode cX8_looks 76 = .ok (.iadd, 1) := by decide +kernel
theorem dX8_looks_77 : decode cX8_looks 77 = .ok (.istore_n 2, 1) := by decide +kernel
theorem dX8_looks_78 : decode cX8_looks 78 = .ok (.iload_n 2, 1) := by decide +kernel
theorem dX8_looks_79 : decode cX8_looks 79 = .ok (.aload_n 0, 1) := by decide +kernel
theorem dX8_looks_80 : decode cX8_looks 80 = .ok (.invokevirtual 50, 3) := by decide +kernel
theorem dX8_looks_83 : decode cX8_looks 83 = .ok (.if_icmp .gt 117, 3) := by decide +kernel
theorem dX8_looks_86 : decode cX8_looks 86 = .ok (.aload_n 0, 1) := by decide +kernel
theorem dX8_looks_87 : decode cX8_looks 87 = .ok (.iload_n 2, 1) := by decide +kernel
theorem dX8_looks_88 : decode cX8_looks 88 = .ok (.iconst 0, 1) := by decide +kernel
theorem dX8_looks_89 : decode cX8_looks 89 = .ok (.invokevirtual 106, 3) := by decide +kernel
theorem dX8_looks_92 : decode cX8_looks 92 = .ok (.istore_n 3, 1) := by decide +kernel
theorem dX8_looks_93 : decode cX8_looks 93 = .ok (.iload_n 3, 1) := by decide +kernel
theorem dX8_looks_94 : decode cX8_looks 94 = .ok (.ifCond .ne 23, 3) := by decide +kernel
theorem dX8_looks_97 : decode cX8_looks 97 = .ok (.aload_n 0, 1) := by decide +kernel
theorem dX8_looks_98 : decode cX8_looks 98 = .ok (.dup, 1) := by decide +kernel
theorem dX8_looks_99 : decode cX8_looks 99 = .ok (.getfield 133, 3) := by decide +kernel
theorem dX8_looks_102 : decode cX8_looks 102 = .ok (.iconst 1, 1) := by decide +kernel
theorem dX8_looks_103 : decode cX8_looks 103 = .ok (.aload_n 0, 1) := by decide +kernel
theorem dX8_looks_104 : decode cX8_looks 104 = .ok (.iload_n 2, 1) := by decide +kernel
theorem dX8_looks_105 : decode cX8_looks 105 = .ok (.iconst 1, 1) := by decide +kernel
theorem dX8_looks_106 : decode cX8_looks 106 = .ok (.invokevirtual 106, 3) := by decide +kernel
theorem dX8_looks_109 : decode cX8_looks 109 = .ok (.ishl, 1) := by decide +kernel
theorem dX8_looks_110 : decode cX8_looks 110 = .ok (.ior, 1) := by decide +kernel
theorem dX8_looks_111 : decode cX8_looks 111 = .ok (.putfield 133, 3) := by decide +kernel
theorem dX8_looks_114 : decode cX8_looks 114 = .ok (.goto 80, 3) := by decide +kernel
theorem dX8_looks_117 : decode cX8_looks 117 = .ok (.iload_n 3, 1) := by decide +kernel
theorem dX8_looks_118 : decode cX8_looks 118 = .ok (.iconst 2, 1) := by decide +kernel
theorem dX8_looks_119 : decode cX8_looks 119 = .ok (.if_icmp .eq 8, 3) := by decide +kernel
theorem dX8_looks_122 : decode cX8_looks 122 = .ok (.iload_n 3, 1) := by decide +kernel
theorem dX8_looks_123 : decode cX8_looks 123 = .ok (.iconst 4, 1) := by decide +kernel
theorem dX8_looks_124 : decode cX8_looks 124 = .ok (.if_icmp .ne 25, 3) := by decide +kernel
theorem dX8_looks_127 : decode cX8_looks 127 = .ok (.aload_n 0, 1) := by decide +kernel
theorem dX8_looks_128 : decode cX8_looks 128 = .ok (.dup, 1) := by decide +kernel
theorem dX8_looks_129 : decode cX8_looks 129 = .ok (.getfield 133, 3) := by decide +kernel
theorem dX8_looks_132 : decode cX8_looks 132 = .ok (.iconst 1, 1) := by decide +kernel
theorem dX8_looks_133 : decode cX8_looks 133 = .ok (.aload_n 0, 1) := by decide +kernel
theorem dX8_looks_134 : decode cX8_looks 134 = .ok (.iload_n 2, 1) := by decide +kernel
theorem dX8_looks_135 : decode cX8_looks 135 = .ok (.iconst 1, 1) := by decide +kernel
theorem dX8_looks_136 : decode cX8_looks 136 = .ok (.invokevirtual 106, 3) := by decide +kernel
theorem dX8_looks_139 : decode cX8_looks 139 = .ok (.ishl, 1) := by decide +kernel
theorem dX8_looks_140 : decode cX8_looks 140 = .ok (.iconst (-1), 1) := by decide +kernel
theorem dX8_looks_141 : decode cX8_looks 141 = .ok (.ixor, 1) := by decide +kernel
theorem dX8_looks_142 : decode cX8_looks 142 = .ok (.iand, 1) := by decide +kernel
theorem dX8_looks_143 : decode cX8_looks 143 = .ok (.putfield 133, 3) := by decide +kernel
theorem dX8_looks_146 : decode cX8_looks 146 = .ok (.goto 48, 3) := by decide +kernel
theorem dX8_looks_149 : decode cX8_looks 149 = .ok (.iload_n 3, 1) := by decide +kernel
theorem dX8_looks_150 : decode cX8_looks 150 = .ok (.iconst 5, 1) := by decide +kernel
theorem dX8_looks_151 : decode cX8_looks 151 = .ok (.if_icmp .eq 43, 3) := by decide +kernel
theorem dX8_looks_154 : decode cX8_looks 154 = .ok (.aload_n 0, 1) := by decide +kernel
theorem dX8_looks_155 : decode cX8_looks 155 = .ok (.getfield 25, 3) := by decide +kernel
theorem dX8_looks_158 : decode cX8_looks 158 = .ok (.aload_n 0, 1) := by decide +kernel
theorem dX8_looks_159 : decode cX8_looks 159 = .ok (.iload_n 2, 1) := by decide +kernel
theorem dX8_looks_160 : decode cX8_looks 160 = .ok (.iconst 2, 1) := by decide +kernel
theorem dX8_looks_161 : decode cX8_looks 161 = .ok (.invokevirtual 106, 3) := by decide +kernel
theorem dX8_looks_164 : decode cX8_looks 164 = .ok (.aload_n 0, 1) := by decide +kernel
theorem dX8_looks_165 : decode cX8_looks 165 = .ok (.getfield 25, 3) := by decide +kernel
theorem dX8_looks_168 : decode cX8_looks 168 = .ok (.aload_n 0, 1) := by decide +kernel
theorem dX8_looks_169 : decode cX8_looks 169 = .ok (.iload_n 2, 1) := by decide +kernel
theorem dX8_looks_170 : decode cX8_looks 170 = .ok (.iconst 2, 1) := by decide +kernel
theorem dX8_looks_171 : decode cX8_looks 171 = .ok (.invokevirtual 106, 3) := by decide +kernel
theorem dX8_looks_174 : decode cX8_looks 174 = .ok (.iaload, 1) := by decide +kernel
theorem dX8_looks_175 : decode cX8_looks 175 = .ok (.ifCond .ne 7, 3) := by decide +kernel
theorem dX8_looks_178 : decode cX8_looks 178 = .ok (.iload_n 2, 1) := by decide +kernel
theorem dX8_looks_179 : decode cX8_looks 179 = .ok (.goto 14, 3) := by decide +kernel
theorem dX8_looks_182 : decode cX8_looks 182 = .ok (.aload_n 0, 1) := by decide +kernel
theorem dX8_looks_183 : decode cX8_looks 183 = .ok (.getfield 25, 3) := by decide +kernel
theorem dX8_looks_186 : decode cX8_looks 186 = .ok (.aload_n 0, 1) := by decide +kernel
theorem dX8_looks_187 : decode cX8_looks 187 = .ok (.iload_n 2, 1) := by decide +kernel
theorem dX8_looks_188 : decode cX8_looks 188 = .ok (.iconst 2, 1) := by decide +kernel
theorem dX8_looks_189 : decode cX8_looks 189 = .ok (.invokevirtual 106, 3) := by decide +kernel
theorem dX8_looks_192 : decode cX8_looks 192 = .ok (.iaload, 1) := by decide +kernel
theorem dX8_looks_193 : decode cX8_looks 193 = .ok (.iastore, 1) := by decide +kernel
theorem dX8_looks_194 : decode cX8_looks 194 = .ok (.iinc 2 1, 3) := by decide +kernel
theorem dX8_looks_197 : decode cX8_looks 197 = .ok (.goto (-119), 3) := by decide +kernel
theorem dX8_looks_200 : decode cX8_looks 200 = .ok (.return_, 1) := by decide +kernel
theorem dX8_restarts_0 : decode cX8_restarts 0 = .ok (.aload_n 0, 1) := by decide +kernel
theorem dX8_restarts_1 : decode cX8_restarts 1 = .ok (.invokevirtual 136, 3) := by decide +kernel
theorem dX8_restarts_4 : decode cX8_restarts 4 = .ok (.iconst 0, 1) := by decide +kernel
theorem dX8_restarts_5 : decode cX8_restarts 5 = .ok (.istore_n 1, 1) := by decide +kernel
theorem dX8_restarts_6 : decode cX8_restarts 6 = .ok (.aload_n 0, 1) := by decide +kernel
theorem dX8_restarts_7 : decode cX8_restarts 7 = .ok (.getfield 7, 3) := by decide +kernel
theorem dX8_restarts_10 : decode cX8_restarts 10 = .ok (.iconst 0, 1) := by decide +kernel
theorem dX8_restarts_11 : decode cX8_restarts 11 = .ok (.iaload, 1) := by decide +kernel
theorem dX8_restarts_12 : decode cX8_restarts 12 = .ok (.istore_n 2, 1) := by decide +kernel
theorem dX8_restarts_13 : decode cX8_restarts 13 = .ok (.iload_n 2, 1) := by decide +kernel
theorem dX8_restarts_14 : decode cX8_restarts 14 = .ok (.aload_n 0, 1) := by decide +kernel
theorem dX8_restarts_15 : decode cX8_restarts 15 = .ok (.invokevirtual 50, 3) := by decide +kernel
theorem dX8_restarts_18 : decode cX8_restarts 18 = .ok (.if_icmp .gt 102, 3) := by decide +kernel
theorem dX8_restarts_21 : decode cX8_restarts 21 = .ok (.aload_n 0, 1) := by decide +kernel
theorem dX8_restarts_22 : decode cX8_restarts 22 = .ok (.iload_n 2, 1) := by decide +kernel
theorem dX8_restarts_23 : decode cX8_restarts 23 = .ok (.iconst 0, 1) := by decide +kernel
theorem dX8_restarts_24 : decode cX8_restarts 24 = .ok (.invokevirtual 106, 3) := by decide +kernel
theorem dX8_restarts_27 : decode cX8_restarts 27 = .ok (.iconst 1, 1) := by decide +kernel
theorem dX8_restarts_28 : decode cX8_restarts 28 = .ok (.if_icmp .eq 13, 3) := by decide +kernel
theorem dX8_restarts_31 : decode cX8_restarts 31 = .ok (.aload_n 0, 1) := by decide +kernel
theorem dX8_restarts_32 : decode cX8_restarts 32 = .ok (.iload_n 2, 1) := by decide +kernel
theorem dX8_restarts_33 : decode cX8_restarts 33 = .ok (.iconst 0, 1) := by decide +kernel
theorem dX8_restarts_34 : decode cX8_restarts 34 = .ok (.invokevirtual 106, 3) := by decide +kernel
theorem dX8_restarts_37 : decode cX8_restarts 37 = .ok (.iconst 3, 1) := by decide +kernel
theorem dX8_restarts_38 : decode cX8_restarts 38 = .ok (.if_icmp .ne 7, 3) := by decide +kernel
theorem dX8_restarts_41 : decode cX8_restarts 41 = .ok (.iconst 1, 1) := by decide +kernel
theorem dX8_restarts_42 : decode cX8_restarts 42 = .ok (.goto 4, 3) := by decide +kernel
theorem dX8_restarts_45 : decode cX8_restarts 45 = .ok (.iconst 0, 1) := by decide +kernel
theorem dX8_restarts_46 : decode cX8_restarts 46 = .ok (.istore_n 3, 1) := by decide +kernel
theorem dX8_restarts_47 : decode cX8_restarts 47 = .ok (.iload_n 3, 1) := by decide +kernel
theorem dX8_restarts_48 : decode cX8_restarts 48 = .ok (.ifCond .eq 12, 3) := by decide +kernel
theorem dX8_restarts_51 : decode cX8_restarts 51 = .ok (.aload_n 0, 1) := by decide +kernel
theorem dX8_restarts_52 : decode cX8_restarts 52 = .ok (.iload_n 2, 1) := by decide +kernel
theorem dX8_restarts_53 : decode cX8_restarts 53 = .ok (.iconst 2, 1) := by decide +kernel
theorem dX8_restarts_54 : decode cX8_restarts 54 = .ok (.invokevirtual 106, 3) := by decide +kernel
theorem dX8_restarts_57 : decode cX8_restarts 57 = .ok (.goto 4, 3) := by decide +kernel
theorem dX8_restarts_60 : decode cX8_restarts 60 = .ok (.iconst 0, 1) := by decide +kernel
theorem dX8_restarts_61 : decode cX8_restarts 61 = .ok (.istore 4, 2) := by decide +kernel
theorem dX8_restarts_63 : decode cX8_restarts 63 = .ok (.iload_n 3, 1) := by decide +kernel
theorem dX8_restarts_64 : decode cX8_restarts 64 = .ok (.ifCond .eq 50, 3) := by decide +kernel
theorem dX8_restarts_67 : decode cX8_restarts 67 = .ok (.aload_n 0, 1) := by decide +kernel
theorem dX8_restarts_68 : decode cX8_restarts 68 = .ok (.getfield 25, 3) := by decide +kernel
theorem dX8_restarts_71 : decode cX8_restarts 71 = .ok (.iload 4, 2) := by decide +kernel
theorem dX8_restarts_73 : decode cX8_restarts 73 = .ok (.iaload, 1) := by decide +kernel
theorem dX8_restarts_74 : decode cX8_restarts 74 = .ok (.ifCond .le 40, 3) := by decide +kernel
theorem dX8_restarts_77 : decode cX8_restarts 77 = .ok (.aload_n 0, 1) := by decide +kernel
theorem dX8_restarts_78 : decode cX8_restarts 78 = .ok (.getfield 25, 3) := by decide +kernel
theorem dX8_restarts_81 : decode cX8_restarts 81 = .ok (.iload 4, 2) := by decide +kernel
theorem dX8_restarts_83 : decode cX8_restarts 83 = .ok (.iaload, 1) := by decide +kernel
theorem dX8_restarts_84 : decode cX8_restarts 84 = .ok (.iload_n 2, 1) := by decide +kernel
theorem dX8_restarts_85 : decode cX8_restarts 85 = .ok (.if_icmp .gt 29, 3) := by decide +kernel
theorem dX8_restarts_88 : decode cX8_restarts 88 = .ok (.aload_n 0, 1) := by decide +kernel
theorem dX8_restarts_89 : decode cX8_restarts 89 = .ok (.iload 4, 2) := by decide +kernel
theorem dX8_restarts_91 : decode cX8_restarts 91 = .ok (.invokevirtual 46, 3) := by decide +kernel
theorem dX8_restarts_94 : decode cX8_restarts 94 = .ok (.iload_n 2, 1) := by decide +kernel
theorem dX8_restarts_95 : decode cX8_restarts 95 = .ok (.if_icmp .ge 19, 3) := by decide +kernel
theorem dX8_restarts_98 : decode cX8_restarts 98 = .ok (.aload_n 0, 1) := by decide +kernel
theorem dX8_restarts_99 : decode cX8_restarts 99 = .ok (.iload 4, 2) := by decide +kernel
theorem dX8_restarts_101 : decode cX8_restarts 101 = .ok (.aload_n 0, 1) := by decide +kernel
theorem dX8_restarts_102 : decode cX8_restarts 102 = .ok (.iload_n 2, 1) := by decide +kernel
theorem dX8_restarts_103 : decode cX8_restarts 103 = .ok (.iconst 4, 1) := by decide +kernel
theorem dX8_restarts_104 : decode cX8_restarts 104 = .ok (.invokevirtual 106, 3) := by decide +kernel
theorem dX8_restarts_107 : decode cX8_restarts 107 = .ok (.iload_n 2, 1) := by decide +kernel
theorem dX8_restarts_108 : decode cX8_restarts 108 = .ok (.invokevirtual 93, 3) := by decide +kernel
theorem dX8_restarts_111 : decode cX8_restarts 111 = .ok (.iinc 1 1, 3) := by decide +kernel
theorem dX8_restarts_114 : decode cX8_restarts 114 = .ok (.iinc 2 1, 3) := by decide +kernel
theorem dX8_restarts_117 : decode cX8_restarts 117 = .ok (.goto (-104), 3) := by decide +kernel
theorem dX8_restarts_120 : decode cX8_restarts 120 = .ok (.aload_n 0, 1) := by decide +kernel
theorem dX8_restarts_121 : decode cX8_restarts 121 = .ok (.getfield 7, 3) := by decide +kernel
theorem dX8_restarts_124 : decode cX8_restarts 124 = .ok (.iconst 4, 1) := by decide +kernel
theorem dX8_restarts_125 : decode cX8_restarts 125 = .ok (.dup2, 1) := by decide +kernel
theorem dX8_restarts_126 : decode cX8_restarts 126 = .ok (.iaload, 1) := by decide +kernel
theorem dX8_restarts_127 : decode cX8_restarts 127 = .ok (.iload_n 1, 1) := by decide +kernel
theorem dX8_restarts_128 : decode cX8_restarts 128 = .ok (.iadd, 1) := by decide +kernel
theorem dX8_restarts_129 : decode cX8_restarts 129 = .ok (.iastore, 1) := by decide +kernel
theorem dX8_restarts_130 : decode cX8_restarts 130 = .ok (.aload_n 0, 1) := by decide +kernel
theorem dX8_restarts_131 : decode cX8_restarts 131 = .ok (.aload_n 0, 1) := by decide +kernel
theorem dX8_restarts_132 : decode cX8_restarts 132 = .ok (.aload_n 0, 1) := by decide +kernel
theorem dX8_restarts_133 : decode cX8_restarts 133 = .ok (.getfield 133, 3) := by decide +kernel
theorem dX8_restarts_136 : decode cX8_restarts 136 = .ok (.invokevirtual 112, 3) := by decide +kernel
theorem dX8_restarts_139 : decode cX8_restarts 139 = .ok (.putfield 139, 3) := by decide +kernel
theorem dX8_restarts_142 : decode cX8_restarts 142 = .ok (.aload_n 0, 1) := by decide +kernel
theorem dX8_restarts_143 : decode cX8_restarts 143 = .ok (.aload_n 0, 1) := by decide +kernel
theorem dX8_restarts_144 : decode cX8_restarts 144 = .ok (.invokevirtual 50, 3) := by decide +kernel
theorem dX8_restarts_147 : decode cX8_restarts 147 = .ok (.invokevirtual 96, 3) := by decide +kernel
theorem dX8_restarts_150 : decode cX8_restarts 150 = .ok (.pop, 1) := by decide +kernel
theorem dX8_restarts_151 : decode cX8_restarts 151 = .ok (.aload_n 0, 1) := by decide +kernel
theorem dX8_restarts_152 : decode cX8_restarts 152 = .ok (.getfield 7, 3) := by decide +kernel
theorem dX8_restarts_155 : decode cX8_restarts 155 = .ok (.iconst 3, 1) := by decide +kernel
theorem dX8_restarts_156 : decode cX8_restarts 156 = .ok (.iconst 0, 1) := by decide +kernel
theorem dX8_restarts_157 : decode cX8_restarts 157 = .ok (.iastore, 1) := by decide +kernel
theorem dX8_restarts_158 : decode cX8_restarts 158 = .ok (.iload_n 1, 1) := by decide +kernel
theorem dX8_restarts_159 : decode cX8_restarts 159 = .ok (.ireturn, 1) := by decide +kernel
theorem dX8_restart_0 : decode cX8_restart 0 = .ok (.aload_n 0, 1) := by decide +kernel
theorem dX8_restart_1 : decode cX8_restart 1 = .ok (.invokevirtual 71, 3) := by decide +kernel
theorem dX8_restart_4 : decode cX8_restart 4 = .ok (.ifCond .ne 6, 3) := by decide +kernel
theorem dX8_restart_7 : decode cX8_restart 7 = .ok (.ldc 75, 2) := by decide +kernel
theorem dX8_restart_9 : decode cX8_restart 9 = .ok (.ireturn, 1) := by decide +kernel
theorem dX8_restart_10 : decode cX8_restart 10 = .ok (.aload_n 0, 1) := by decide +kernel
theorem dX8_restart_11 : decode cX8_restart 11 = .ok (.invokevirtual 77, 3) := by decide +kernel
theorem dX8_restart_14 : decode cX8_restart 14 = .ok (.aload_n 0, 1) := by decide +kernel
theorem dX8_restart_15 : decode cX8_restart 15 = .ok (.invokevirtual 142, 3) := by decide +kernel
theorem dX8_restart_18 : decode cX8_restart 18 = .ok (.ireturn, 1) := by decide +kernel
theorem dX8_nextKind_0 : decode cX8_nextKind 0 = .ok (.iload_n 1, 1) := by decide +kernel
theorem dX8_nextKind_1 : decode cX8_nextKind 1 = .ok (.iconst 1, 1) := by decide +kernel
theorem dX8_nextKind_2 : decode cX8_nextKind 2 = .ok (.iadd, 1) := by decide +kernel
theorem dX8_nextKind_3 : decode cX8_nextKind 3 = .ok (.istore_n 3, 1) := by decide +kernel
theorem dX8_nextKind_4 : decode cX8_nextKind 4 = .ok (.iload_n 3, 1) := by decide +kernel
theorem dX8_nextKind_5 : decode cX8_nextKind 5 = .ok (.aload_n 0, 1) := by decide +kernel
theorem dX8_nextKind_6 : decode cX8_nextKind 6 = .ok (.invokevirtual 50, 3) := by decide +kernel
theorem dX8_nextKind_9 : decode cX8_nextKind 9 = .ok (.if_icmp .gt 47, 3) := by decide +kernel
theorem dX8_nextKind_12 : decode cX8_nextKind 12 = .ok (.aload_n 0, 1) := by decide +kernel
theorem dX8_nextKind_13 : decode cX8_nextKind 13 = .ok (.iload_n 3, 1) := by decide +kernel
theorem dX8_nextKind_14 : decode cX8_nextKind 14 = .ok (.iconst 0, 1) := by decide +kernel
theorem dX8_nextKind_15 : decode cX8_nextKind 15 = .ok (.invokevirtual 106, 3) := by decide +kernel
theorem dX8_nextKind_18 : decode cX8_nextKind 18 = .ok (.istore 4, 2) := by decide +kernel
theorem dX8_nextKind_20 : decode cX8_nextKind 20 = .ok (.aload_n 0, 1) := by decide +kernel
theorem dX8_nextKind_21 : decode cX8_nextKind 21 = .ok (.iload_n 3, 1) := by decide +kernel
theorem dX8_nextKind_22 : decode cX8_nextKind 22 = .ok (.iconst 1, 1) := by decide +kernel
theorem dX8_nextKind_23 : decode cX8_nextKind 23 = .ok (.invokevirtual 106, 3) := by decide +kernel
theorem dX8_nextKind_26 : decode cX8_nextKind 26 = .ok (.iload_n 2, 1) := by decide +kernel
theorem dX8_nextKind_27 : decode cX8_nextKind 27 = .ok (.if_icmp .ne 23, 3) := by decide +kernel
theorem dX8_nextKind_30 : decode cX8_nextKind 30 = .ok (.iload 4, 2) := by decide +kernel
theorem dX8_nextKind_32 : decode cX8_nextKind 32 = .ok (.ifCond .eq 15, 3) := by decide +kernel
theorem dX8_nextKind_35 : decode cX8_nextKind 35 = .ok (.iload 4, 2) := by decide +kernel
theorem dX8_nextKind_37 : decode cX8_nextKind 37 = .ok (.iconst 2, 1) := by decide +kernel
theorem dX8_nextKind_38 : decode cX8_nextKind 38 = .ok (.if_icmp .eq 9, 3) := by decide +kernel
theorem dX8_nextKind_41 : decode cX8_nextKind 41 = .ok (.iload 4, 2) := by decide +kernel
theorem dX8_nextKind_43 : decode cX8_nextKind 43 = .ok (.iconst 4, 1) := by decide +kernel
theorem dX8_nextKind_44 : decode cX8_nextKind 44 = .ok (.if_icmp .ne 6, 3) := by decide +kernel
theorem dX8_nextKind_47 : decode cX8_nextKind 47 = .ok (.iload 4, 2) := by decide +kernel
theorem dX8_nextKind_49 : decode cX8_nextKind 49 = .ok (.ireturn, 1) := by decide +kernel
theorem dX8_nextKind_50 : decode cX8_nextKind 50 = .ok (.iinc 3 1, 3) := by decide +kernel
theorem dX8_nextKind_53 : decode cX8_nextKind 53 = .ok (.goto (-49), 3) := by decide +kernel
theorem dX8_nextKind_56 : decode cX8_nextKind 56 = .ok (.ldc 62, 2) := by decide +kernel
theorem dX8_nextKind_58 : decode cX8_nextKind 58 = .ok (.ireturn, 1) := by decide +kernel
theorem dX8_settledValue_0 : decode cX8_settledValue 0 = .ok (.ldc 62, 2) := by decide +kernel
theorem dX8_settledValue_2 : decode cX8_settledValue 2 = .ok (.istore_n 2, 1) := by decide +kernel
theorem dX8_settledValue_3 : decode cX8_settledValue 3 = .ok (.aload_n 0, 1) := by decide +kernel
theorem dX8_settledValue_4 : decode cX8_settledValue 4 = .ok (.getfield 7, 3) := by decide +kernel
theorem dX8_settledValue_7 : decode cX8_settledValue 7 = .ok (.iconst 0, 1) := by decide +kernel
theorem dX8_settledValue_8 : decode cX8_settledValue 8 = .ok (.iaload, 1) := by decide +kernel
theorem dX8_settledValue_9 : decode cX8_settledValue 9 = .ok (.istore_n 3, 1) := by decide +kernel
theorem dX8_settledValue_10 : decode cX8_settledValue 10 = .ok (.iload_n 3, 1) := by decide +kernel
theorem dX8_settledValue_11 : decode cX8_settledValue 11 = .ok (.aload_n 0, 1) := by decide +kernel
theorem dX8_settledValue_12 : decode cX8_settledValue 12 = .ok (.invokevirtual 50, 3) := by decide +kernel
theorem dX8_settledValue_15 : decode cX8_settledValue 15 = .ok (.if_icmp .gt 55, 3) := by decide +kernel
theorem dX8_settledValue_18 : decode cX8_settledValue 18 = .ok (.aload_n 0, 1) := by decide +kernel
theorem dX8_settledValue_19 : decode cX8_settledValue 19 = .ok (.iload_n 3, 1) := by decide +kernel
theorem dX8_settledValue_20 : decode cX8_settledValue 20 = .ok (.iconst 0, 1) := by decide +kernel
theorem dX8_settledValue_21 : decode cX8_settledValue 21 = .ok (.invokevirtual 106, 3) := by decide +kernel
theorem dX8_settledValue_24 : decode cX8_settledValue 24 = .ok (.iconst 1, 1) := by decide +kernel
theorem dX8_settledValue_25 : decode cX8_settledValue 25 = .ok (.if_icmp .ne 37, 3) := by decide +kernel
theorem dX8_settledValue_28 : decode cX8_settledValue 28 = .ok (.aload_n 0, 1) := by decide +kernel
theorem dX8_settledValue_29 : decode cX8_settledValue 29 = .ok (.iload_n 3, 1) := by decide +kernel
theorem dX8_settledValue_30 : decode cX8_settledValue 30 = .ok (.iconst 2, 1) := by decide +kernel
theorem dX8_settledValue_31 : decode cX8_settledValue 31 = .ok (.invokevirtual 106, 3) := by decide +kernel
theorem dX8_settledValue_34 : decode cX8_settledValue 34 = .ok (.iload_n 1, 1) := by decide +kernel
theorem dX8_settledValue_35 : decode cX8_settledValue 35 = .ok (.if_icmp .ne 27, 3) := by decide +kernel
theorem dX8_settledValue_38 : decode cX8_settledValue 38 = .ok (.aload_n 0, 1) := by decide +kernel
theorem dX8_settledValue_39 : decode cX8_settledValue 39 = .ok (.iload_n 3, 1) := by decide +kernel
theorem dX8_settledValue_40 : decode cX8_settledValue 40 = .ok (.aload_n 0, 1) := by decide +kernel
theorem dX8_settledValue_41 : decode cX8_settledValue 41 = .ok (.iload_n 3, 1) := by decide +kernel
theorem dX8_settledValue_42 : decode cX8_settledValue 42 = .ok (.iconst 1, 1) := by decide +kernel
theorem dX8_settledValue_43 : decode cX8_settledValue 43 = .ok (.invokevirtual 106, 3) := by decide +kernel
theorem dX8_settledValue_46 : decode cX8_settledValue 46 = .ok (.invokevirtual 145, 3) := by decide +kernel
theorem dX8_settledValue_49 : decode cX8_settledValue 49 = .ok (.iconst 2, 1) := by decide +kernel
theorem dX8_settledValue_50 : decode cX8_settledValue 50 = .ok (.if_icmp .ne 12, 3) := by decide +kernel
theorem dX8_settledValue_53 : decode cX8_settledValue 53 = .ok (.aload_n 0, 1) := by decide +kernel
theorem dX8_settledValue_54 : decode cX8_settledValue 54 = .ok (.iload_n 3, 1) := by decide +kernel
theorem dX8_settledValue_55 : decode cX8_settledValue 55 = .ok (.iconst 4, 1) := by decide +kernel
theorem dX8_settledValue_56 : decode cX8_settledValue 56 = .ok (.invokevirtual 106, 3) := by decide +kernel
theorem dX8_settledValue_59 : decode cX8_settledValue 59 = .ok (.goto 4, 3) := by decide +kernel
theorem dX8_settledValue_62 : decode cX8_settledValue 62 = .ok (.iload_n 2, 1) := by decide +kernel
theorem dX8_settledValue_63 : decode cX8_settledValue 63 = .ok (.istore_n 2, 1) := by decide +kernel
theorem dX8_settledValue_64 : decode cX8_settledValue 64 = .ok (.iinc 3 1, 3) := by decide +kernel
theorem dX8_settledValue_67 : decode cX8_settledValue 67 = .ok (.goto (-57), 3) := by decide +kernel
theorem dX8_settledValue_70 : decode cX8_settledValue 70 = .ok (.iload_n 2, 1) := by decide +kernel
theorem dX8_settledValue_71 : decode cX8_settledValue 71 = .ok (.ireturn, 1) := by decide +kernel
theorem dX8_pageOf_0 : decode cX8_pageOf 0 = .ok (.iload_n 1, 1) := by decide +kernel
theorem dX8_pageOf_1 : decode cX8_pageOf 1 = .ok (.iconst 0, 1) := by decide +kernel
theorem dX8_pageOf_2 : decode cX8_pageOf 2 = .ok (.bipush 7, 2) := by decide +kernel
theorem dX8_pageOf_4 : decode cX8_pageOf 4 = .ok (.invokestatic 66, 3) := by decide +kernel
theorem dX8_pageOf_7 : decode cX8_pageOf 7 = .ok (.ifCond .eq 13, 3) := by decide +kernel
theorem dX8_pageOf_10 : decode cX8_pageOf 10 = .ok (.iload_n 2, 1) := by decide +kernel
theorem dX8_pageOf_11 : decode cX8_pageOf 11 = .ok (.iconst 0, 1) := by decide +kernel
theorem dX8_pageOf_12 : decode cX8_pageOf 12 = .ok (.bipush 8, 2) := by decide +kernel
theorem dX8_pageOf_14 : decode cX8_pageOf 14 = .ok (.invokestatic 66, 3) := by decide +kernel
theorem dX8_pageOf_17 : decode cX8_pageOf 17 = .ok (.ifCond .ne 6, 3) := by decide +kernel
theorem dX8_pageOf_20 : decode cX8_pageOf 20 = .ok (.ldc 70, 2) := by decide +kernel
theorem dX8_pageOf_22 : decode cX8_pageOf 22 = .ok (.ireturn, 1) := by decide +kernel
theorem dX8_pageOf_23 : decode cX8_pageOf 23 = .ok (.iload_n 2, 1) := by decide +kernel
theorem dX8_pageOf_24 : decode cX8_pageOf 24 = .ok (.tableswitch 116 0 7 #[48, 54, 60, 60, 69, 76, 90, 110], 48) := by decide +kernel
theorem dX8_pageOf_72 : decode cX8_pageOf 72 = .ok (.aload_n 0, 1) := by decide +kernel
theorem dX8_pageOf_73 : decode cX8_pageOf 73 = .ok (.iload_n 1, 1) := by decide +kernel
theorem dX8_pageOf_74 : decode cX8_pageOf 74 = .ok (.invokevirtual 90, 3) := by decide +kernel
theorem dX8_pageOf_77 : decode cX8_pageOf 77 = .ok (.ireturn, 1) := by decide +kernel
theorem dX8_pageOf_78 : decode cX8_pageOf 78 = .ok (.aload_n 0, 1) := by decide +kernel
theorem dX8_pageOf_79 : decode cX8_pageOf 79 = .ok (.iload_n 1, 1) := by decide +kernel
theorem dX8_pageOf_80 : decode cX8_pageOf 80 = .ok (.invokevirtual 46, 3) := by decide +kernel
theorem dX8_pageOf_83 : decode cX8_pageOf 83 = .ok (.ireturn, 1) := by decide +kernel
theorem dX8_pageOf_84 : decode cX8_pageOf 84 = .ok (.aload_n 0, 1) := by decide +kernel
theorem dX8_pageOf_85 : decode cX8_pageOf 85 = .ok (.iload_n 1, 1) := by decide +kernel
theorem dX8_pageOf_86 : decode cX8_pageOf 86 = .ok (.iload_n 2, 1) := by decide +kernel
theorem dX8_pageOf_87 : decode cX8_pageOf 87 = .ok (.iconst 2, 1) := by decide +kernel
theorem dX8_pageOf_88 : decode cX8_pageOf 88 = .ok (.isub, 1) := by decide +kernel
theorem dX8_pageOf_89 : decode cX8_pageOf 89 = .ok (.invokevirtual 43, 3) := by decide +kernel
theorem dX8_pageOf_92 : decode cX8_pageOf 92 = .ok (.ireturn, 1) := by decide +kernel
theorem dX8_pageOf_93 : decode cX8_pageOf 93 = .ok (.aload_n 0, 1) := by decide +kernel
theorem dX8_pageOf_94 : decode cX8_pageOf 94 = .ok (.iload_n 1, 1) := by decide +kernel
theorem dX8_pageOf_95 : decode cX8_pageOf 95 = .ok (.iconst 2, 1) := by decide +kernel
theorem dX8_pageOf_96 : decode cX8_pageOf 96 = .ok (.invokevirtual 43, 3) := by decide +kernel
theorem dX8_pageOf_99 : decode cX8_pageOf 99 = .ok (.ireturn, 1) := by decide +kernel
theorem dX8_pageOf_100 : decode cX8_pageOf 100 = .ok (.aload_n 0, 1) := by decide +kernel
theorem dX8_pageOf_101 : decode cX8_pageOf 101 = .ok (.iload_n 1, 1) := by decide +kernel
theorem dX8_pageOf_102 : decode cX8_pageOf 102 = .ok (.invokevirtual 54, 3) := by decide +kernel
theorem dX8_pageOf_105 : decode cX8_pageOf 105 = .ok (.ifCond .eq 7, 3) := by decide +kernel
theorem dX8_pageOf_108 : decode cX8_pageOf 108 = .ok (.iconst 1, 1) := by decide +kernel
theorem dX8_pageOf_109 : decode cX8_pageOf 109 = .ok (.goto 4, 3) := by decide +kernel
theorem dX8_pageOf_112 : decode cX8_pageOf 112 = .ok (.iconst 0, 1) := by decide +kernel
theorem dX8_pageOf_113 : decode cX8_pageOf 113 = .ok (.ireturn, 1) := by decide +kernel
theorem dX8_pageOf_114 : decode cX8_pageOf 114 = .ok (.aload_n 0, 1) := by decide +kernel
theorem dX8_pageOf_115 : decode cX8_pageOf 115 = .ok (.iload_n 1, 1) := by decide +kernel
theorem dX8_pageOf_116 : decode cX8_pageOf 116 = .ok (.invokevirtual 54, 3) := by decide +kernel
theorem dX8_pageOf_119 : decode cX8_pageOf 119 = .ok (.ifCond .eq 12, 3) := by decide +kernel
theorem dX8_pageOf_122 : decode cX8_pageOf 122 = .ok (.aload_n 0, 1) := by decide +kernel
theorem dX8_pageOf_123 : decode cX8_pageOf 123 = .ok (.iload_n 1, 1) := by decide +kernel
theorem dX8_pageOf_124 : decode cX8_pageOf 124 = .ok (.iconst 5, 1) := by decide +kernel
theorem dX8_pageOf_125 : decode cX8_pageOf 125 = .ok (.invokevirtual 43, 3) := by decide +kernel
theorem dX8_pageOf_128 : decode cX8_pageOf 128 = .ok (.goto 5, 3) := by decide +kernel
theorem dX8_pageOf_131 : decode cX8_pageOf 131 = .ok (.ldc 62, 2) := by decide +kernel
theorem dX8_pageOf_133 : decode cX8_pageOf 133 = .ok (.ireturn, 1) := by decide +kernel
theorem dX8_pageOf_134 : decode cX8_pageOf 134 = .ok (.aload_n 0, 1) := by decide +kernel
theorem dX8_pageOf_135 : decode cX8_pageOf 135 = .ok (.iload_n 1, 1) := by decide +kernel
theorem dX8_pageOf_136 : decode cX8_pageOf 136 = .ok (.invokevirtual 87, 3) := by decide +kernel
theorem dX8_pageOf_139 : decode cX8_pageOf 139 = .ok (.ireturn, 1) := by decide +kernel
theorem dX8_pageOf_140 : decode cX8_pageOf 140 = .ok (.aload_n 0, 1) := by decide +kernel
theorem dX8_pageOf_141 : decode cX8_pageOf 141 = .ok (.iload_n 1, 1) := by decide +kernel
theorem dX8_pageOf_142 : decode cX8_pageOf 142 = .ok (.invokevirtual 148, 3) := by decide +kernel
theorem dX8_pageOf_145 : decode cX8_pageOf 145 = .ok (.ireturn, 1) := by decide +kernel
theorem dX8_recordOf_0 : decode cX8_recordOf 0 = .ok (.iload_n 1, 1) := by decide +kernel
theorem dX8_recordOf_1 : decode cX8_recordOf 1 = .ok (.iconst 1, 1) := by decide +kernel
theorem dX8_recordOf_2 : decode cX8_recordOf 2 = .ok (.if_icmp .lt 13, 3) := by decide +kernel
theorem dX8_recordOf_5 : decode cX8_recordOf 5 = .ok (.iload_n 2, 1) := by decide +kernel
theorem dX8_recordOf_6 : decode cX8_recordOf 6 = .ok (.iconst 0, 1) := by decide +kernel
theorem dX8_recordOf_7 : decode cX8_recordOf 7 = .ok (.bipush 8, 2) := by decide +kernel
theorem dX8_recordOf_9 : decode cX8_recordOf 9 = .ok (.invokestatic 66, 3) := by decide +kernel
theorem dX8_recordOf_12 : decode cX8_recordOf 12 = .ok (.ifCond .ne 6, 3) := by decide +kernel
theorem dX8_recordOf_15 : decode cX8_recordOf 15 = .ok (.ldc 70, 2) := by decide +kernel
theorem dX8_recordOf_17 : decode cX8_recordOf 17 = .ok (.ireturn, 1) := by decide +kernel
theorem dX8_recordOf_18 : decode cX8_recordOf 18 = .ok (.aload_n 0, 1) := by decide +kernel
theorem dX8_recordOf_19 : decode cX8_recordOf 19 = .ok (.iload_n 1, 1) := by decide +kernel
theorem dX8_recordOf_20 : decode cX8_recordOf 20 = .ok (.invokevirtual 151, 3) := by decide +kernel
theorem dX8_recordOf_23 : decode cX8_recordOf 23 = .ok (.ifCond .ne 6, 3) := by decide +kernel
theorem dX8_recordOf_26 : decode cX8_recordOf 26 = .ok (.ldc 62, 2) := by decide +kernel
theorem dX8_recordOf_28 : decode cX8_recordOf 28 = .ok (.ireturn, 1) := by decide +kernel
theorem dX8_recordOf_29 : decode cX8_recordOf 29 = .ok (.aload_n 0, 1) := by decide +kernel
theorem dX8_recordOf_30 : decode cX8_recordOf 30 = .ok (.iload_n 1, 1) := by decide +kernel
theorem dX8_recordOf_31 : decode cX8_recordOf 31 = .ok (.iconst 0, 1) := by decide +kernel
theorem dX8_recordOf_32 : decode cX8_recordOf 32 = .ok (.invokevirtual 106, 3) := by decide +kernel
theorem dX8_recordOf_35 : decode cX8_recordOf 35 = .ok (.istore_n 3, 1) := by decide +kernel
theorem dX8_recordOf_36 : decode cX8_recordOf 36 = .ok (.iload_n 2, 1) := by decide +kernel
theorem dX8_recordOf_37 : decode cX8_recordOf 37 = .ok (.tableswitch 77 5 8 #[31, 47, 47, 70], 31) := by decide +kernel
theorem dX8_recordOf_68 : decode cX8_recordOf 68 = .ok (.iload_n 1, 1) := by decide +kernel
theorem dX8_recordOf_69 : decode cX8_recordOf 69 = .ok (.aload_n 0, 1) := by decide +kernel
theorem dX8_recordOf_70 : decode cX8_recordOf 70 = .ok (.getfield 7, 3) := by decide +kernel
theorem dX8_recordOf_73 : decode cX8_recordOf 73 = .ok (.iconst 2, 1) := by decide +kernel
theorem dX8_recordOf_74 : decode cX8_recordOf 74 = .ok (.iaload, 1) := by decide +kernel
theorem dX8_recordOf_75 : decode cX8_recordOf 75 = .ok (.if_icmp .gt 7, 3) := by decide +kernel
theorem dX8_recordOf_78 : decode cX8_recordOf 78 = .ok (.iconst 1, 1) := by decide +kernel
theorem dX8_recordOf_79 : decode cX8_recordOf 79 = .ok (.goto 4, 3) := by decide +kernel
theorem dX8_recordOf_82 : decode cX8_recordOf 82 = .ok (.iconst 0, 1) := by decide +kernel
theorem dX8_recordOf_83 : decode cX8_recordOf 83 = .ok (.ireturn, 1) := by decide +kernel
theorem dX8_recordOf_84 : decode cX8_recordOf 84 = .ok (.iload_n 3, 1) := by decide +kernel
theorem dX8_recordOf_85 : decode cX8_recordOf 85 = .ok (.iconst 5, 1) := by decide +kernel
theorem dX8_recordOf_86 : decode cX8_recordOf 86 = .ok (.if_icmp .ne 18, 3) := by decide +kernel
theorem dX8_recordOf_89 : decode cX8_recordOf 89 = .ok (.aload_n 0, 1) := by decide +kernel
theorem dX8_recordOf_90 : decode cX8_recordOf 90 = .ok (.iload_n 1, 1) := by decide +kernel
theorem dX8_recordOf_91 : decode cX8_recordOf 91 = .ok (.bipush 6, 2) := by decide +kernel
theorem dX8_recordOf_93 : decode cX8_recordOf 93 = .ok (.iload_n 2, 1) := by decide +kernel
theorem dX8_recordOf_94 : decode cX8_recordOf 94 = .ok (.iadd, 1) := by decide +kernel
theorem dX8_recordOf_95 : decode cX8_recordOf 95 = .ok (.bipush 6, 2) := by decide +kernel
theorem dX8_recordOf_97 : decode cX8_recordOf 97 = .ok (.isub, 1) := by decide +kernel
theorem dX8_recordOf_98 : decode cX8_recordOf 98 = .ok (.invokevirtual 106, 3) := by decide +kernel
theorem dX8_recordOf_101 : decode cX8_recordOf 101 = .ok (.goto 5, 3) := by decide +kernel
theorem dX8_recordOf_104 : decode cX8_recordOf 104 = .ok (.ldc 62, 2) := by decide +kernel
theorem dX8_recordOf_106 : decode cX8_recordOf 106 = .ok (.ireturn, 1) := by decide +kernel
theorem dX8_recordOf_107 : decode cX8_recordOf 107 = .ok (.aload_n 0, 1) := by decide +kernel
theorem dX8_recordOf_108 : decode cX8_recordOf 108 = .ok (.iload_n 1, 1) := by decide +kernel
theorem dX8_recordOf_109 : decode cX8_recordOf 109 = .ok (.iconst 5, 1) := by decide +kernel
theorem dX8_recordOf_110 : decode cX8_recordOf 110 = .ok (.invokevirtual 106, 3) := by decide +kernel
theorem dX8_recordOf_113 : decode cX8_recordOf 113 = .ok (.ireturn, 1) := by decide +kernel
theorem dX8_recordOf_114 : decode cX8_recordOf 114 = .ok (.aload_n 0, 1) := by decide +kernel
theorem dX8_recordOf_115 : decode cX8_recordOf 115 = .ok (.iload_n 1, 1) := by decide +kernel
theorem dX8_recordOf_116 : decode cX8_recordOf 116 = .ok (.iload_n 2, 1) := by decide +kernel
theorem dX8_recordOf_117 : decode cX8_recordOf 117 = .ok (.invokevirtual 106, 3) := by decide +kernel
theorem dX8_recordOf_120 : decode cX8_recordOf 120 = .ok (.ireturn, 1) := by decide +kernel
theorem dX8_groupOf_0 : decode cX8_groupOf 0 = .ok (.iload_n 1, 1) := by decide +kernel
theorem dX8_groupOf_1 : decode cX8_groupOf 1 = .ok (.iconst 0, 1) := by decide +kernel
theorem dX8_groupOf_2 : decode cX8_groupOf 2 = .ok (.iconst 3, 1) := by decide +kernel
theorem dX8_groupOf_3 : decode cX8_groupOf 3 = .ok (.invokestatic 66, 3) := by decide +kernel
theorem dX8_groupOf_6 : decode cX8_groupOf 6 = .ok (.ifCond .eq 12, 3) := by decide +kernel
theorem dX8_groupOf_9 : decode cX8_groupOf 9 = .ok (.iload_n 2, 1) := by decide +kernel
theorem dX8_groupOf_10 : decode cX8_groupOf 10 = .ok (.iconst 0, 1) := by decide +kernel
theorem dX8_groupOf_11 : decode cX8_groupOf 11 = .ok (.iconst 3, 1) := by decide +kernel
theorem dX8_groupOf_12 : decode cX8_groupOf 12 = .ok (.invokestatic 66, 3) := by decide +kernel
theorem dX8_groupOf_15 : decode cX8_groupOf 15 = .ok (.ifCond .ne 6, 3) := by decide +kernel
theorem dX8_groupOf_18 : decode cX8_groupOf 18 = .ok (.ldc 70, 2) := by decide +kernel
theorem dX8_groupOf_20 : decode cX8_groupOf 20 = .ok (.ireturn, 1) := by decide +kernel
theorem dX8_groupOf_21 : decode cX8_groupOf 21 = .ok (.iload_n 2, 1) := by decide +kernel
theorem dX8_groupOf_22 : decode cX8_groupOf 22 = .ok (.ifCond .le 16, 3) := by decide +kernel
theorem dX8_groupOf_25 : decode cX8_groupOf 25 = .ok (.aload_n 0, 1) := by decide +kernel
theorem dX8_groupOf_26 : decode cX8_groupOf 26 = .ok (.iload_n 1, 1) := by decide +kernel
theorem dX8_groupOf_27 : decode cX8_groupOf 27 = .ok (.invokevirtual 63, 3) := by decide +kernel
theorem dX8_groupOf_30 : decode cX8_groupOf 30 = .ok (.ifCond .ne 8, 3) := by decide +kernel
theorem dX8_groupOf_33 : decode cX8_groupOf 33 = .ok (.ldc 62, 2) := by decide +kernel
theorem dX8_groupOf_35 : decode cX8_groupOf 35 = .ok (.goto 9, 3) := by decide +kernel
theorem dX8_groupOf_38 : decode cX8_groupOf 38 = .ok (.aload_n 0, 1) := by decide +kernel
theorem dX8_groupOf_39 : decode cX8_groupOf 39 = .ok (.iload_n 1, 1) := by decide +kernel
theorem dX8_groupOf_40 : decode cX8_groupOf 40 = .ok (.iload_n 2, 1) := by decide +kernel
theorem dX8_groupOf_41 : decode cX8_groupOf 41 = .ok (.invokevirtual 39, 3) := by decide +kernel
theorem dX8_groupOf_44 : decode cX8_groupOf 44 = .ok (.ireturn, 1) := by decide +kernel
theorem dX8_would_0 : decode cX8_would 0 = .ok (.iload_n 1, 1) := by decide +kernel
theorem dX8_would_1 : decode cX8_would 1 = .ok (.iconst 0, 1) := by decide +kernel
theorem dX8_would_2 : decode cX8_would 2 = .ok (.iconst 1, 1) := by decide +kernel
theorem dX8_would_3 : decode cX8_would 3 = .ok (.invokestatic 66, 3) := by decide +kernel
theorem dX8_would_6 : decode cX8_would 6 = .ok (.ifCond .eq 23, 3) := by decide +kernel
theorem dX8_would_9 : decode cX8_would 9 = .ok (.iload_n 2, 1) := by decide +kernel
theorem dX8_would_10 : decode cX8_would 10 = .ok (.iconst 0, 1) := by decide +kernel
theorem dX8_would_11 : decode cX8_would 11 = .ok (.iconst 4, 1) := by decide +kernel
theorem dX8_would_12 : decode cX8_would 12 = .ok (.invokestatic 66, 3) := by decide +kernel
theorem dX8_would_15 : decode cX8_would 15 = .ok (.ifCond .ne 17, 3) := by decide +kernel
theorem dX8_would_18 : decode cX8_would 18 = .ok (.iload_n 2, 1) := by decide +kernel
theorem dX8_would_19 : decode cX8_would 19 = .ok (.bipush 10, 2) := by decide +kernel
theorem dX8_would_21 : decode cX8_would 21 = .ok (.bipush 17, 2) := by decide +kernel
theorem dX8_would_23 : decode cX8_would 23 = .ok (.invokestatic 66, 3) := by decide +kernel
theorem dX8_would_26 : decode cX8_would 26 = .ok (.ifCond .ne 6, 3) := by decide +kernel
theorem dX8_would_29 : decode cX8_would 29 = .ok (.ldc 70, 2) := by decide +kernel
theorem dX8_would_31 : decode cX8_would 31 = .ok (.ireturn, 1) := by decide +kernel
theorem dX8_would_32 : decode cX8_would 32 = .ok (.aload_n 0, 1) := by decide +kernel
theorem dX8_would_33 : decode cX8_would 33 = .ok (.invokevirtual 71, 3) := by decide +kernel
theorem dX8_would_36 : decode cX8_would 36 = .ok (.ifCond .eq 6, 3) := by decide +kernel
theorem dX8_would_39 : decode cX8_would 39 = .ok (.ldc 75, 2) := by decide +kernel
theorem dX8_would_41 : decode cX8_would 41 = .ok (.ireturn, 1) := by decide +kernel
theorem dX8_would_42 : decode cX8_would 42 = .ok (.aload_n 0, 1) := by decide +kernel
theorem dX8_would_43 : decode cX8_would 43 = .ok (.getfield 7, 3) := by decide +kernel
theorem dX8_would_46 : decode cX8_would 46 = .ok (.aload_n 0, 1) := by decide +kernel
theorem dX8_would_47 : decode cX8_would 47 = .ok (.getfield 19, 3) := by decide +kernel
theorem dX8_would_50 : decode cX8_would 50 = .ok (.invokestatic 154, 3) := by decide +kernel
theorem dX8_would_53 : decode cX8_would 53 = .ok (.aload_n 0, 1) := by decide +kernel
theorem dX8_would_54 : decode cX8_would 54 = .ok (.iload_n 1, 1) := by decide +kernel
theorem dX8_would_55 : decode cX8_would 55 = .ok (.invokevirtual 130, 3) := by decide +kernel
theorem dX8_would_58 : decode cX8_would 58 = .ok (.istore_n 3, 1) := by decide +kernel
theorem dX8_would_59 : decode cX8_would 59 = .ok (.aload_n 0, 1) := by decide +kernel
theorem dX8_would_60 : decode cX8_would 60 = .ok (.invokevirtual 121, 3) := by decide +kernel
theorem dX8_would_63 : decode cX8_would 63 = .ok (.istore 4, 2) := by decide +kernel
theorem dX8_would_65 : decode cX8_would 65 = .ok (.aload_n 0, 1) := by decide +kernel
theorem dX8_would_66 : decode cX8_would 66 = .ok (.getfield 7, 3) := by decide +kernel
theorem dX8_would_69 : decode cX8_would 69 = .ok (.iconst 1, 1) := by decide +kernel
theorem dX8_would_70 : decode cX8_would 70 = .ok (.iaload, 1) := by decide +kernel
theorem dX8_would_71 : decode cX8_would 71 = .ok (.ifCond .ne 8, 3) := by decide +kernel
theorem dX8_would_74 : decode cX8_would 74 = .ok (.ldc 62, 2) := by decide +kernel
theorem dX8_would_76 : decode cX8_would 76 = .ok (.goto 19, 3) := by decide +kernel
theorem dX8_would_79 : decode cX8_would 79 = .ok (.iload 4, 2) := by decide +kernel
theorem dX8_would_81 : decode cX8_would 81 = .ok (.ifCond .ne 12, 3) := by decide +kernel
theorem dX8_would_84 : decode cX8_would 84 = .ok (.aload_n 0, 1) := by decide +kernel
theorem dX8_would_85 : decode cX8_would 85 = .ok (.getfield 7, 3) := by decide +kernel
theorem dX8_would_88 : decode cX8_would 88 = .ok (.iconst 0, 1) := by decide +kernel
theorem dX8_would_89 : decode cX8_would 89 = .ok (.iaload, 1) := by decide +kernel
theorem dX8_would_90 : decode cX8_would 90 = .ok (.goto 5, 3) := by decide +kernel
theorem dX8_would_93 : decode cX8_would 93 = .ok (.iload 4, 2) := by decide +kernel
theorem dX8_would_95 : decode cX8_would 95 = .ok (.istore 5, 2) := by decide +kernel
theorem dX8_would_97 : decode cX8_would 97 = .ok (.aload_n 0, 1) := by decide +kernel
theorem dX8_would_98 : decode cX8_would 98 = .ok (.invokevirtual 142, 3) := by decide +kernel
theorem dX8_would_101 : decode cX8_would 101 = .ok (.istore 6, 2) := by decide +kernel
theorem dX8_would_103 : decode cX8_would 103 = .ok (.iload_n 2, 1) := by decide +kernel
theorem dX8_would_104 : decode cX8_would 104 = .ok (.iconst 4, 1) := by decide +kernel
theorem dX8_would_105 : decode cX8_would 105 = .ok (.if_icmp .le 14, 3) := by decide +kernel
theorem dX8_would_108 : decode cX8_would 108 = .ok (.aload_n 0, 1) := by decide +kernel
theorem dX8_would_109 : decode cX8_would 109 = .ok (.iload_n 2, 1) := by decide +kernel
theorem dX8_would_110 : decode cX8_would 110 = .ok (.bipush 10, 2) := by decide +kernel
theorem dX8_would_112 : decode cX8_would 112 = .ok (.isub, 1) := by decide +kernel
theorem dX8_would_113 : decode cX8_would 113 = .ok (.invokevirtual 90, 3) := by decide +kernel
theorem dX8_would_116 : decode cX8_would 116 = .ok (.goto 4, 3) := by decide +kernel
theorem dX8_would_119 : decode cX8_would 119 = .ok (.iconst 0, 1) := by decide +kernel
theorem dX8_would_120 : decode cX8_would 120 = .ok (.istore 7, 2) := by decide +kernel
theorem dX8_would_122 : decode cX8_would 122 = .ok (.aload_n 0, 1) := by decide +kernel
theorem dX8_would_123 : decode cX8_would 123 = .ok (.getfield 19, 3) := by decide +kernel
theorem dX8_would_126 : decode cX8_would 126 = .ok (.aload_n 0, 1) := by decide +kernel
theorem dX8_would_127 : decode cX8_would 127 = .ok (.getfield 7, 3) := by decide +kernel
theorem dX8_would_130 : decode cX8_would 130 = .ok (.invokestatic 154, 3) := by decide +kernel
theorem dX8_would_133 : decode cX8_would 133 = .ok (.iload_n 2, 1) := by decide +kernel
theorem dX8_would_134 : decode cX8_would 134 = .ok (.ifCond .ne 7, 3) := by decide +kernel
theorem dX8_would_137 : decode cX8_would 137 = .ok (.iload_n 3, 1) := by decide +kernel
theorem dX8_would_138 : decode cX8_would 138 = .ok (.goto 49, 3) := by decide +kernel
theorem dX8_would_141 : decode cX8_would 141 = .ok (.iload_n 2, 1) := by decide +kernel
theorem dX8_would_142 : decode cX8_would 142 = .ok (.iconst 1, 1) := by decide +kernel
theorem dX8_would_143 : decode cX8_would 143 = .ok (.if_icmp .ne 8, 3) := by decide +kernel
theorem dX8_would_146 : decode cX8_would 146 = .ok (.iload 6, 2) := by decide +kernel
theorem dX8_would_148 : decode cX8_would 148 = .ok (.goto 39, 3) := by decide +kernel
theorem dX8_would_151 : decode cX8_would 151 = .ok (.iload_n 2, 1) := by decide +kernel
theorem dX8_would_152 : decode cX8_would 152 = .ok (.iconst 2, 1) := by decide +kernel
theorem dX8_would_153 : decode cX8_would 153 = .ok (.if_icmp .ne 10, 3) := by decide +kernel
theorem dX8_would_156 : decode cX8_would 156 = .ok (.aload_n 0, 1) := by decide +kernel
theorem dX8_would_157 : decode cX8_would 157 = .ok (.getfield 139, 3) := by decide +kernel
theorem dX8_would_160 : decode cX8_would 160 = .ok (.goto 27, 3) := by decide +kernel
theorem dX8_would_163 : decode cX8_would 163 = .ok (.iload_n 2, 1) := by decide +kernel
theorem dX8_would_164 : decode cX8_would 164 = .ok (.iconst 3, 1) := by decide +kernel
theorem dX8_would_165 : decode cX8_would 165 = .ok (.if_icmp .ne 10, 3) := by decide +kernel
theorem dX8_would_168 : decode cX8_would 168 = .ok (.aload_n 0, 1) := by decide +kernel
theorem dX8_would_169 : decode cX8_would 169 = .ok (.getfield 133, 3) := by decide +kernel
theorem dX8_would_172 : decode cX8_would 172 = .ok (.goto 15, 3) := by decide +kernel
theorem dX8_would_175 : decode cX8_would 175 = .ok (.iload_n 2, 1) := by decide +kernel
theorem dX8_would_176 : decode cX8_would 176 = .ok (.iconst 4, 1) := by decide +kernel
theorem dX8_would_177 : decode cX8_would 177 = .ok (.if_icmp .ne 8, 3) := by decide +kernel
theorem dX8_would_180 : decode cX8_would 180 = .ok (.iload 5, 2) := by decide +kernel
theorem dX8_would_182 : decode cX8_would 182 = .ok (.goto 5, 3) := by decide +kernel
theorem dX8_would_185 : decode cX8_would 185 = .ok (.iload 7, 2) := by decide +kernel
theorem dX8_would_187 : decode cX8_would 187 = .ok (.ireturn, 1) := by decide +kernel
theorem dX8_count_0 : decode cX8_count 0 = .ok (.iload_n 1, 1) := by decide +kernel
theorem dX8_count_1 : decode cX8_count 1 = .ok (.tableswitch 194 0 12 #[67, 74, 94, 112, 147, 152, 152, 160, 167, 172, 177, 184, 189], 67) := by decide +kernel
theorem dX8_count_68 : decode cX8_count 68 = .ok (.aload_n 0, 1) := by decide +kernel
theorem dX8_count_69 : decode cX8_count 69 = .ok (.getfield 7, 3) := by decide +kernel
theorem dX8_count_72 : decode cX8_count 72 = .ok (.iconst 1, 1) := by decide +kernel
theorem dX8_count_73 : decode cX8_count 73 = .ok (.iaload, 1) := by decide +kernel
theorem dX8_count_74 : decode cX8_count 74 = .ok (.ireturn, 1) := by decide +kernel
theorem dX8_count_75 : decode cX8_count 75 = .ok (.aload_n 0, 1) := by decide +kernel
theorem dX8_count_76 : decode cX8_count 76 = .ok (.getfield 7, 3) := by decide +kernel
theorem dX8_count_79 : decode cX8_count 79 = .ok (.iconst 1, 1) := by decide +kernel
theorem dX8_count_80 : decode cX8_count 80 = .ok (.iaload, 1) := by decide +kernel
theorem dX8_count_81 : decode cX8_count 81 = .ok (.ifCond .ne 7, 3) := by decide +kernel
theorem dX8_count_84 : decode cX8_count 84 = .ok (.iconst 0, 1) := by decide +kernel
theorem dX8_count_85 : decode cX8_count 85 = .ok (.goto 9, 3) := by decide +kernel
theorem dX8_count_88 : decode cX8_count 88 = .ok (.aload_n 0, 1) := by decide +kernel
theorem dX8_count_89 : decode cX8_count 89 = .ok (.getfield 7, 3) := by decide +kernel
theorem dX8_count_92 : decode cX8_count 92 = .ok (.iconst 0, 1) := by decide +kernel
theorem dX8_count_93 : decode cX8_count 93 = .ok (.iaload, 1) := by decide +kernel
theorem dX8_count_94 : decode cX8_count 94 = .ok (.ireturn, 1) := by decide +kernel
theorem dX8_count_95 : decode cX8_count 95 = .ok (.aload_n 0, 1) := by decide +kernel
theorem dX8_count_96 : decode cX8_count 96 = .ok (.getfield 7, 3) := by decide +kernel
theorem dX8_count_99 : decode cX8_count 99 = .ok (.iconst 1, 1) := by decide +kernel
theorem dX8_count_100 : decode cX8_count 100 = .ok (.iaload, 1) := by decide +kernel
theorem dX8_count_101 : decode cX8_count 101 = .ok (.ifCond .ne 7, 3) := by decide +kernel
theorem dX8_count_104 : decode cX8_count 104 = .ok (.iconst 0, 1) := by decide +kernel
theorem dX8_count_105 : decode cX8_count 105 = .ok (.goto 7, 3) := by decide +kernel
theorem dX8_count_108 : decode cX8_count 108 = .ok (.aload_n 0, 1) := by decide +kernel
theorem dX8_count_109 : decode cX8_count 109 = .ok (.invokevirtual 50, 3) := by decide +kernel
theorem dX8_count_112 : decode cX8_count 112 = .ok (.ireturn, 1) := by decide +kernel
theorem dX8_count_113 : decode cX8_count 113 = .ok (.aload_n 0, 1) := by decide +kernel
theorem dX8_count_114 : decode cX8_count 114 = .ok (.getfield 7, 3) := by decide +kernel
theorem dX8_count_117 : decode cX8_count 117 = .ok (.iconst 2, 1) := by decide +kernel
theorem dX8_count_118 : decode cX8_count 118 = .ok (.iaload, 1) := by decide +kernel
theorem dX8_count_119 : decode cX8_count 119 = .ok (.aload_n 0, 1) := by decide +kernel
theorem dX8_count_120 : decode cX8_count 120 = .ok (.getfield 7, 3) := by decide +kernel
theorem dX8_count_123 : decode cX8_count 123 = .ok (.iconst 0, 1) := by decide +kernel
theorem dX8_count_124 : decode cX8_count 124 = .ok (.iaload, 1) := by decide +kernel
theorem dX8_count_125 : decode cX8_count 125 = .ok (.if_icmp .lt 21, 3) := by decide +kernel
theorem dX8_count_128 : decode cX8_count 128 = .ok (.aload_n 0, 1) := by decide +kernel
theorem dX8_count_129 : decode cX8_count 129 = .ok (.getfield 7, 3) := by decide +kernel
theorem dX8_count_132 : decode cX8_count 132 = .ok (.iconst 2, 1) := by decide +kernel
theorem dX8_count_133 : decode cX8_count 133 = .ok (.iaload, 1) := by decide +kernel
theorem dX8_count_134 : decode cX8_count 134 = .ok (.aload_n 0, 1) := by decide +kernel
theorem dX8_count_135 : decode cX8_count 135 = .ok (.getfield 7, 3) := by decide +kernel
theorem dX8_count_138 : decode cX8_count 138 = .ok (.iconst 0, 1) := by decide +kernel
theorem dX8_count_139 : decode cX8_count 139 = .ok (.iaload, 1) := by decide +kernel
theorem dX8_count_140 : decode cX8_count 140 = .ok (.isub, 1) := by decide +kernel
theorem dX8_count_141 : decode cX8_count 141 = .ok (.iconst 1, 1) := by decide +kernel
theorem dX8_count_142 : decode cX8_count 142 = .ok (.iadd, 1) := by decide +kernel
theorem dX8_count_143 : decode cX8_count 143 = .ok (.goto 4, 3) := by decide +kernel
theorem dX8_count_146 : decode cX8_count 146 = .ok (.iconst 0, 1) := by decide +kernel
theorem dX8_count_147 : decode cX8_count 147 = .ok (.ireturn, 1) := by decide +kernel
theorem dX8_count_148 : decode cX8_count 148 = .ok (.aload_n 0, 1) := by decide +kernel
theorem dX8_count_149 : decode cX8_count 149 = .ok (.invokevirtual 118, 3) := by decide +kernel
theorem dX8_count_152 : decode cX8_count 152 = .ok (.ireturn, 1) := by decide +kernel
theorem dX8_count_153 : decode cX8_count 153 = .ok (.aload_n 0, 1) := by decide +kernel
theorem dX8_count_154 : decode cX8_count 154 = .ok (.iload_n 1, 1) := by decide +kernel
theorem dX8_count_155 : decode cX8_count 155 = .ok (.iconst 5, 1) := by decide +kernel
theorem dX8_count_156 : decode cX8_count 156 = .ok (.isub, 1) := by decide +kernel
theorem dX8_count_157 : decode cX8_count 157 = .ok (.invokevirtual 115, 3) := by decide +kernel
theorem dX8_count_160 : decode cX8_count 160 = .ok (.ireturn, 1) := by decide +kernel
theorem dX8_count_161 : decode cX8_count 161 = .ok (.aload_n 0, 1) := by decide +kernel
theorem dX8_count_162 : decode cX8_count 162 = .ok (.getfield 7, 3) := by decide +kernel
theorem dX8_count_165 : decode cX8_count 165 = .ok (.iconst 3, 1) := by decide +kernel
theorem dX8_count_166 : decode cX8_count 166 = .ok (.iaload, 1) := by decide +kernel
theorem dX8_count_167 : decode cX8_count 167 = .ok (.ireturn, 1) := by decide +kernel
theorem dX8_count_168 : decode cX8_count 168 = .ok (.aload_n 0, 1) := by decide +kernel
theorem dX8_count_169 : decode cX8_count 169 = .ok (.invokevirtual 121, 3) := by decide +kernel
theorem dX8_count_172 : decode cX8_count 172 = .ok (.ireturn, 1) := by decide +kernel
theorem dX8_count_173 : decode cX8_count 173 = .ok (.aload_n 0, 1) := by decide +kernel
theorem dX8_count_174 : decode cX8_count 174 = .ok (.invokevirtual 124, 3) := by decide +kernel
theorem dX8_count_177 : decode cX8_count 177 = .ok (.ireturn, 1) := by decide +kernel
theorem dX8_count_178 : decode cX8_count 178 = .ok (.aload_n 0, 1) := by decide +kernel
theorem dX8_count_179 : decode cX8_count 179 = .ok (.getfield 7, 3) := by decide +kernel
theorem dX8_count_182 : decode cX8_count 182 = .ok (.iconst 4, 1) := by decide +kernel
theorem dX8_count_183 : decode cX8_count 183 = .ok (.iaload, 1) := by decide +kernel
theorem dX8_count_184 : decode cX8_count 184 = .ok (.ireturn, 1) := by decide +kernel
