theorem dL_back_15 : decode cL_back 15 = .ok (.iconst 0, 1) := by decide +kernel
theorem dL_back_16 : decode cL_back 16 = .ok (.iaload, 1) := by decide +kernel
theorem dL_back_17 : decode cL_back 17 = .ok (.if_icmp .lt 203, 3) := by decide +kernel
theorem dL_back_20 : decode cL_back 20 = .ok (.aload_n 2, 1) := by decide +kernel
theorem dL_back_21 : decode cL_back 21 = .ok (.aload_n 0, 1) := by decide +kernel
theorem dL_back_22 : decode cL_back 22 = .ok (.iload 6, 2) := by decide +kernel
theorem dL_back_24 : decode cL_back 24 = .ok (.iconst 0, 1) := by decide +kernel
theorem dL_back_25 : decode cL_back 25 = .ok (.invokestatic 19, 3) := by decide +kernel
theorem dL_back_28 : decode cL_back 28 = .ok (.istore 7, 2) := by decide +kernel
theorem dL_back_30 : decode cL_back 30 = .ok (.aload_n 2, 1) := by decide +kernel
theorem dL_back_31 : decode cL_back 31 = .ok (.aload_n 0, 1) := by decide +kernel
theorem dL_back_32 : decode cL_back 32 = .ok (.iload 6, 2) := by decide +kernel
theorem dL_back_34 : decode cL_back 34 = .ok (.iconst 1, 1) := by decide +kernel
theorem dL_back_35 : decode cL_back 35 = .ok (.invokestatic 19, 3) := by decide +kernel
theorem dL_back_38 : decode cL_back 38 = .ok (.istore 8, 2) := by decide +kernel
theorem dL_back_40 : decode cL_back 40 = .ok (.iload 7, 2) := by decide +kernel
theorem dL_back_42 : decode cL_back 42 = .ok (.ifCond .ne 36, 3) := by decide +kernel
theorem dL_back_45 : decode cL_back 45 = .ok (.iload 5, 2) := by decide +kernel
theorem dL_back_47 : decode cL_back 47 = .ok (.iload 8, 2) := by decide +kernel
theorem dL_back_49 : decode cL_back 49 = .ok (.ishr, 1) := by decide +kernel
theorem dL_back_50 : decode cL_back 50 = .ok (.iconst 1, 1) := by decide +kernel
theorem dL_back_51 : decode cL_back 51 = .ok (.iand, 1) := by decide +kernel
theorem dL_back_52 : decode cL_back 52 = .ok (.iconst 1, 1) := by decide +kernel
theorem dL_back_53 : decode cL_back 53 = .ok (.if_icmp .ne 25, 3) := by decide +kernel
theorem dL_back_56 : decode cL_back 56 = .ok (.aload_n 2, 1) := by decide +kernel
theorem dL_back_57 : decode cL_back 57 = .ok (.aload_n 0, 1) := by decide +kernel
theorem dL_back_58 : decode cL_back 58 = .ok (.iconst 4, 1) := by decide +kernel
theorem dL_back_59 : decode cL_back 59 = .ok (.iload 8, 2) := by decide +kernel
theorem dL_back_61 : decode cL_back 61 = .ok (.iconst 0, 1) := by decide +kernel
theorem dL_back_62 : decode cL_back 62 = .ok (.iconst 0, 1) := by decide +kernel
theorem dL_back_63 : decode cL_back 63 = .ok (.iconst 0, 1) := by decide +kernel
theorem dL_back_64 : decode cL_back 64 = .ok (.iconst 0, 1) := by decide +kernel
theorem dL_back_65 : decode cL_back 65 = .ok (.invokestatic 23, 3) := by decide +kernel
theorem dL_back_68 : decode cL_back 68 = .ok (.pop, 1) := by decide +kernel
theorem dL_back_69 : decode cL_back 69 = .ok (.iload 5, 2) := by decide +kernel
theorem dL_back_71 : decode cL_back 71 = .ok (.iconst 1, 1) := by decide +kernel
theorem dL_back_72 : decode cL_back 72 = .ok (.iload 8, 2) := by decide +kernel
theorem dL_back_74 : decode cL_back 74 = .ok (.ishl, 1) := by decide +kernel
theorem dL_back_75 : decode cL_back 75 = .ok (.isub, 1) := by decide +kernel
theorem dL_back_76 : decode cL_back 76 = .ok (.istore 5, 2) := by decide +kernel
theorem dL_back_78 : decode cL_back 78 = .ok (.iconst 0, 1) := by decide +kernel
theorem dL_back_79 : decode cL_back 79 = .ok (.istore 9, 2) := by decide +kernel
theorem dL_back_81 : decode cL_back 81 = .ok (.iload 6, 2) := by decide +kernel
theorem dL_back_83 : decode cL_back 83 = .ok (.iconst 1, 1) := by decide +kernel
theorem dL_back_84 : decode cL_back 84 = .ok (.iadd, 1) := by decide +kernel
theorem dL_back_85 : decode cL_back 85 = .ok (.istore 10, 2) := by decide +kernel
theorem dL_back_87 : decode cL_back 87 = .ok (.iload 10, 2) := by decide +kernel
theorem dL_back_89 : decode cL_back 89 = .ok (.aload_n 0, 1) := by decide +kernel
theorem dL_back_90 : decode cL_back 90 = .ok (.invokestatic 9, 3) := by decide +kernel
theorem dL_back_93 : decode cL_back 93 = .ok (.if_icmp .gt 46, 3) := by decide +kernel
theorem dL_back_96 : decode cL_back 96 = .ok (.iload 9, 2) := by decide +kernel
theorem dL_back_98 : decode cL_back 98 = .ok (.ifCond .ne 28, 3) := by decide +kernel
theorem dL_back_101 : decode cL_back 101 = .ok (.aload_n 2, 1) := by decide +kernel
theorem dL_back_102 : decode cL_back 102 = .ok (.aload_n 0, 1) := by decide +kernel
theorem dL_back_103 : decode cL_back 103 = .ok (.iload 10, 2) := by decide +kernel
theorem dL_back_105 : decode cL_back 105 = .ok (.iconst 0, 1) := by decide +kernel
theorem dL_back_106 : decode cL_back 106 = .ok (.invokestatic 19, 3) := by decide +kernel
theorem dL_back_109 : decode cL_back 109 = .ok (.iconst 3, 1) := by decide +kernel
theorem dL_back_110 : decode cL_back 110 = .ok (.if_icmp .ne 20, 3) := by decide +kernel
theorem dL_back_113 : decode cL_back 113 = .ok (.aload_n 2, 1) := by decide +kernel
theorem dL_back_114 : decode cL_back 114 = .ok (.aload_n 0, 1) := by decide +kernel
theorem dL_back_115 : decode cL_back 115 = .ok (.iload 10, 2) := by decide +kernel
theorem dL_back_117 : decode cL_back 117 = .ok (.iconst 5, 1) := by decide +kernel
theorem dL_back_118 : decode cL_back 118 = .ok (.invokestatic 19, 3) := by decide +kernel
theorem dL_back_121 : decode cL_back 121 = .ok (.iload 6, 2) := by decide +kernel
theorem dL_back_123 : decode cL_back 123 = .ok (.if_icmp .ne 7, 3) := by decide +kernel
theorem dL_back_126 : decode cL_back 126 = .ok (.iconst 1, 1) := by decide +kernel
theorem dL_back_127 : decode cL_back 127 = .ok (.goto 4, 3) := by decide +kernel
theorem dL_back_130 : decode cL_back 130 = .ok (.iconst 0, 1) := by decide +kernel
theorem dL_back_131 : decode cL_back 131 = .ok (.istore 9, 2) := by decide +kernel
theorem dL_back_133 : decode cL_back 133 = .ok (.iinc 10 1, 3) := by decide +kernel
theorem dL_back_136 : decode cL_back 136 = .ok (.goto (-49), 3) := by decide +kernel
theorem dL_back_139 : decode cL_back 139 = .ok (.iload 7, 2) := by decide +kernel
theorem dL_back_141 : decode cL_back 141 = .ok (.iconst 1, 1) := by decide +kernel
theorem dL_back_142 : decode cL_back 142 = .ok (.if_icmp .ne 72, 3) := by decide +kernel
theorem dL_back_145 : decode cL_back 145 = .ok (.iload 5, 2) := by decide +kernel
theorem dL_back_147 : decode cL_back 147 = .ok (.iload 8, 2) := by decide +kernel
theorem dL_back_149 : decode cL_back 149 = .ok (.ishr, 1) := by decide +kernel
theorem dL_back_150 : decode cL_back 150 = .ok (.iconst 1, 1) := by decide +kernel
theorem dL_back_151 : decode cL_back 151 = .ok (.iand, 1) := by decide +kernel
theorem dL_back_152 : decode cL_back 152 = .ok (.iconst 1, 1) := by decide +kernel
theorem dL_back_153 : decode cL_back 153 = .ok (.if_icmp .ne 61, 3) := by decide +kernel
theorem dL_back_156 : decode cL_back 156 = .ok (.iload 9, 2) := by decide +kernel
theorem dL_back_158 : decode cL_back 158 = .ok (.ifCond .ne 56, 3) := by decide +kernel
theorem dL_back_161 : decode cL_back 161 = .ok (.aload_n 2, 1) := by decide +kernel
theorem dL_back_162 : decode cL_back 162 = .ok (.aload_n 0, 1) := by decide +kernel
theorem dL_back_163 : decode cL_back 163 = .ok (.iload 6, 2) := by decide +kernel
theorem dL_back_165 : decode cL_back 165 = .ok (.iconst 2, 1) := by decide +kernel
theorem dL_back_166 : decode cL_back 166 = .ok (.invokestatic 19, 3) := by decide +kernel
theorem dL_back_169 : decode cL_back 169 = .ok (.istore 10, 2) := by decide +kernel
theorem dL_back_171 : decode cL_back 171 = .ok (.aload_n 1, 1) := by decide +kernel
theorem dL_back_172 : decode cL_back 172 = .ok (.iload 10, 2) := by decide +kernel
theorem dL_back_174 : decode cL_back 174 = .ok (.aload_n 2, 1) := by decide +kernel
theorem dL_back_175 : decode cL_back 175 = .ok (.aload_n 0, 1) := by decide +kernel
theorem dL_back_176 : decode cL_back 176 = .ok (.iload 6, 2) := by decide +kernel
theorem dL_back_178 : decode cL_back 178 = .ok (.iconst 3, 1) := by decide +kernel
theorem dL_back_179 : decode cL_back 179 = .ok (.invokestatic 19, 3) := by decide +kernel
theorem dL_back_182 : decode cL_back 182 = .ok (.aload_n 2, 1) := by decide +kernel
theorem dL_back_183 : decode cL_back 183 = .ok (.aload_n 0, 1) := by decide +kernel
theorem dL_back_184 : decode cL_back 184 = .ok (.iconst 3, 1) := by decide +kernel
theorem dL_back_185 : decode cL_back 185 = .ok (.iload 8, 2) := by decide +kernel
theorem dL_back_187 : decode cL_back 187 = .ok (.iload 10, 2) := by decide +kernel
theorem dL_back_189 : decode cL_back 189 = .ok (.aload_n 1, 1) := by decide +kernel
theorem dL_back_190 : decode cL_back 190 = .ok (.iload 10, 2) := by decide +kernel
theorem dL_back_192 : decode cL_back 192 = .ok (.invokestatic 27, 3) := by decide +kernel
theorem dL_back_195 : decode cL_back 195 = .ok (.aload_n 2, 1) := by decide +kernel
theorem dL_back_196 : decode cL_back 196 = .ok (.aload_n 0, 1) := by decide +kernel
theorem dL_back_197 : decode cL_back 197 = .ok (.iload 6, 2) := by decide +kernel
theorem dL_back_199 : decode cL_back 199 = .ok (.iconst 3, 1) := by decide +kernel
theorem dL_back_200 : decode cL_back 200 = .ok (.invokestatic 19, 3) := by decide +kernel
theorem dL_back_203 : decode cL_back 203 = .ok (.iload 6, 2) := by decide +kernel
theorem dL_back_205 : decode cL_back 205 = .ok (.invokestatic 23, 3) := by decide +kernel
theorem dL_back_208 : decode cL_back 208 = .ok (.invokestatic 30, 3) := by decide +kernel
theorem dL_back_211 : decode cL_back 211 = .ok (.iinc 4 1, 3) := by decide +kernel
theorem dL_back_214 : decode cL_back 214 = .ok (.iinc 6 (-1), 3) := by decide +kernel
theorem dL_back_217 : decode cL_back 217 = .ok (.goto (-205), 3) := by decide +kernel
theorem dL_back_220 : decode cL_back 220 = .ok (.iload 4, 2) := by decide +kernel
theorem dL_back_222 : decode cL_back 222 = .ok (.ireturn, 1) := by decide +kernel
theorem dL_latest_0 : decode cL_latest 0 = .ok (.iconst 0, 1) := by decide +kernel
theorem dL_latest_1 : decode cL_latest 1 = .ok (.istore_n 2, 1) := by decide +kernel
theorem dL_latest_2 : decode cL_latest 2 = .ok (.aload_n 0, 1) := by decide +kernel
theorem dL_latest_3 : decode cL_latest 3 = .ok (.iconst 0, 1) := by decide +kernel
theorem dL_latest_4 : decode cL_latest 4 = .ok (.iaload, 1) := by decide +kernel
theorem dL_latest_5 : decode cL_latest 5 = .ok (.istore_n 3, 1) := by decide +kernel
theorem dL_latest_6 : decode cL_latest 6 = .ok (.iload_n 3, 1) := by decide +kernel
theorem dL_latest_7 : decode cL_latest 7 = .ok (.aload_n 0, 1) := by decide +kernel
theorem dL_latest_8 : decode cL_latest 8 = .ok (.invokestatic 9, 3) := by decide +kernel
theorem dL_latest_11 : decode cL_latest 11 = .ok (.if_icmp .gt 26, 3) := by decide +kernel
theorem dL_latest_14 : decode cL_latest 14 = .ok (.aload_n 1, 1) := by decide +kernel
theorem dL_latest_15 : decode cL_latest 15 = .ok (.aload_n 0, 1) := by decide +kernel
theorem dL_latest_16 : decode cL_latest 16 = .ok (.iload_n 3, 1) := by decide +kernel
theorem dL_latest_17 : decode cL_latest 17 = .ok (.iconst 0, 1) := by decide +kernel
theorem dL_latest_18 : decode cL_latest 18 = .ok (.invokestatic 19, 3) := by decide +kernel
theorem dL_latest_21 : decode cL_latest 21 = .ok (.iconst 5, 1) := by decide +kernel
theorem dL_latest_22 : decode cL_latest 22 = .ok (.if_icmp .ne 7, 3) := by decide +kernel
theorem dL_latest_25 : decode cL_latest 25 = .ok (.iload_n 3, 1) := by decide +kernel
theorem dL_latest_26 : decode cL_latest 26 = .ok (.goto 4, 3) := by decide +kernel
theorem dL_latest_29 : decode cL_latest 29 = .ok (.iload_n 2, 1) := by decide +kernel
theorem dL_latest_30 : decode cL_latest 30 = .ok (.istore_n 2, 1) := by decide +kernel
theorem dL_latest_31 : decode cL_latest 31 = .ok (.iinc 3 1, 3) := by decide +kernel
theorem dL_latest_34 : decode cL_latest 34 = .ok (.goto (-28), 3) := by decide +kernel
theorem dL_latest_37 : decode cL_latest 37 = .ok (.iload_n 2, 1) := by decide +kernel
theorem dL_latest_38 : decode cL_latest 38 = .ok (.ireturn, 1) := by decide +kernel
theorem dL_drop_0 : decode cL_drop 0 = .ok (.aload_n 0, 1) := by decide +kernel
theorem dL_drop_1 : decode cL_drop 1 = .ok (.aload_n 1, 1) := by decide +kernel
theorem dL_drop_2 : decode cL_drop 2 = .ok (.invokestatic 34, 3) := by decide +kernel
theorem dL_drop_5 : decode cL_drop 5 = .ok (.istore_n 3, 1) := by decide +kernel
theorem dL_drop_6 : decode cL_drop 6 = .ok (.iload_n 3, 1) := by decide +kernel
theorem dL_drop_7 : decode cL_drop 7 = .ok (.ifCond .ne 5, 3) := by decide +kernel
theorem dL_drop_10 : decode cL_drop 10 = .ok (.iconst 0, 1) := by decide +kernel
theorem dL_drop_11 : decode cL_drop 11 = .ok (.ireturn, 1) := by decide +kernel
theorem dL_drop_12 : decode cL_drop 12 = .ok (.iload_n 3, 1) := by decide +kernel
theorem dL_drop_13 : decode cL_drop 13 = .ok (.istore 4, 2) := by decide +kernel
theorem dL_drop_15 : decode cL_drop 15 = .ok (.iconst 0, 1) := by decide +kernel
theorem dL_drop_16 : decode cL_drop 16 = .ok (.istore 5, 2) := by decide +kernel
theorem dL_drop_18 : decode cL_drop 18 = .ok (.iload 5, 2) := by decide +kernel
theorem dL_drop_20 : decode cL_drop 20 = .ok (.bipush 8, 2) := by decide +kernel
theorem dL_drop_22 : decode cL_drop 22 = .ok (.if_icmp .ge 36, 3) := by decide +kernel
theorem dL_drop_25 : decode cL_drop 25 = .ok (.aload_n 2, 1) := by decide +kernel
theorem dL_drop_26 : decode cL_drop 26 = .ok (.iload 5, 2) := by decide +kernel
theorem dL_drop_28 : decode cL_drop 28 = .ok (.iaload, 1) := by decide +kernel
theorem dL_drop_29 : decode cL_drop 29 = .ok (.ifCond .le 19, 3) := by decide +kernel
theorem dL_drop_32 : decode cL_drop 32 = .ok (.aload_n 2, 1) := by decide +kernel
theorem dL_drop_33 : decode cL_drop 33 = .ok (.iload 5, 2) := by decide +kernel
theorem dL_drop_35 : decode cL_drop 35 = .ok (.iaload, 1) := by decide +kernel
theorem dL_drop_36 : decode cL_drop 36 = .ok (.iload 4, 2) := by decide +kernel
theorem dL_drop_38 : decode cL_drop 38 = .ok (.if_icmp .ge 10, 3) := by decide +kernel
theorem dL_drop_41 : decode cL_drop 41 = .ok (.aload_n 2, 1) := by decide +kernel
theorem dL_drop_42 : decode cL_drop 42 = .ok (.iload 5, 2) := by decide +kernel
theorem dL_drop_44 : decode cL_drop 44 = .ok (.iaload, 1) := by decide +kernel
theorem dL_drop_45 : decode cL_drop 45 = .ok (.goto 5, 3) := by decide +kernel
theorem dL_drop_48 : decode cL_drop 48 = .ok (.iload 4, 2) := by decide +kernel
theorem dL_drop_50 : decode cL_drop 50 = .ok (.istore 4, 2) := by decide +kernel
theorem dL_drop_52 : decode cL_drop 52 = .ok (.iinc 5 1, 3) := by decide +kernel
theorem dL_drop_55 : decode cL_drop 55 = .ok (.goto (-37), 3) := by decide +kernel
theorem dL_drop_58 : decode cL_drop 58 = .ok (.aload_n 1, 1) := by decide +kernel
theorem dL_drop_59 : decode cL_drop 59 = .ok (.aload_n 0, 1) := by decide +kernel
theorem dL_drop_60 : decode cL_drop 60 = .ok (.iload_n 3, 1) := by decide +kernel
theorem dL_drop_61 : decode cL_drop 61 = .ok (.bipush 6, 2) := by decide +kernel
theorem dL_drop_63 : decode cL_drop 63 = .ok (.invokestatic 19, 3) := by decide +kernel
theorem dL_drop_66 : decode cL_drop 66 = .ok (.istore 5, 2) := by decide +kernel
theorem dL_drop_68 : decode cL_drop 68 = .ok (.iload_n 3, 1) := by decide +kernel
theorem dL_drop_69 : decode cL_drop 69 = .ok (.iconst 1, 1) := by decide +kernel
theorem dL_drop_70 : decode cL_drop 70 = .ok (.isub, 1) := by decide +kernel
theorem dL_drop_71 : decode cL_drop 71 = .ok (.istore 6, 2) := by decide +kernel
theorem dL_drop_73 : decode cL_drop 73 = .ok (.iload 6, 2) := by decide +kernel
theorem dL_drop_75 : decode cL_drop 75 = .ok (.aload_n 0, 1) := by decide +kernel
theorem dL_drop_76 : decode cL_drop 76 = .ok (.iconst 0, 1) := by decide +kernel
theorem dL_drop_77 : decode cL_drop 77 = .ok (.iaload, 1) := by decide +kernel
theorem dL_drop_78 : decode cL_drop 78 = .ok (.if_icmp .lt 66, 3) := by decide +kernel
theorem dL_drop_81 : decode cL_drop 81 = .ok (.aload_n 1, 1) := by decide +kernel
theorem dL_drop_82 : decode cL_drop 82 = .ok (.aload_n 0, 1) := by decide +kernel
theorem dL_drop_83 : decode cL_drop 83 = .ok (.iload 6, 2) := by decide +kernel
theorem dL_drop_85 : decode cL_drop 85 = .ok (.iconst 1, 1) := by decide +kernel
theorem dL_drop_86 : decode cL_drop 86 = .ok (.invokestatic 19, 3) := by decide +kernel
theorem dL_drop_89 : decode cL_drop 89 = .ok (.istore 7, 2) := by decide +kernel
theorem dL_drop_91 : decode cL_drop 91 = .ok (.aload_n 1, 1) := by decide +kernel
theorem dL_drop_92 : decode cL_drop 92 = .ok (.aload_n 0, 1) := by decide +kernel
theorem dL_drop_93 : decode cL_drop 93 = .ok (.iload 6, 2) := by decide +kernel
theorem dL_drop_95 : decode cL_drop 95 = .ok (.iconst 0, 1) := by decide +kernel
theorem dL_drop_96 : decode cL_drop 96 = .ok (.invokestatic 19, 3) := by decide +kernel
theorem dL_drop_99 : decode cL_drop 99 = .ok (.ifCond .ne 39, 3) := by decide +kernel
theorem dL_drop_102 : decode cL_drop 102 = .ok (.iload 5, 2) := by decide +kernel
theorem dL_drop_104 : decode cL_drop 104 = .ok (.iload 7, 2) := by decide +kernel
theorem dL_drop_106 : decode cL_drop 106 = .ok (.ishr, 1) := by decide +kernel
theorem dL_drop_107 : decode cL_drop 107 = .ok (.iconst 1, 1) := by decide +kernel
theorem dL_drop_108 : decode cL_drop 108 = .ok (.iand, 1) := by decide +kernel
theorem dL_drop_109 : decode cL_drop 109 = .ok (.iconst 1, 1) := by decide +kernel
theorem dL_drop_110 : decode cL_drop 110 = .ok (.if_icmp .ne 28, 3) := by decide +kernel
theorem dL_drop_113 : decode cL_drop 113 = .ok (.iload 5, 2) := by decide +kernel
theorem dL_drop_115 : decode cL_drop 115 = .ok (.iconst 1, 1) := by decide +kernel
theorem dL_drop_116 : decode cL_drop 116 = .ok (.iload 7, 2) := by decide +kernel
theorem dL_drop_118 : decode cL_drop 118 = .ok (.ishl, 1) := by decide +kernel
theorem dL_drop_119 : decode cL_drop 119 = .ok (.isub, 1) := by decide +kernel
theorem dL_drop_120 : decode cL_drop 120 = .ok (.istore 5, 2) := by decide +kernel
theorem dL_drop_122 : decode cL_drop 122 = .ok (.iload 6, 2) := by decide +kernel
theorem dL_drop_124 : decode cL_drop 124 = .ok (.iload 4, 2) := by decide +kernel
theorem dL_drop_126 : decode cL_drop 126 = .ok (.if_icmp .ge 8, 3) := by decide +kernel
theorem dL_drop_129 : decode cL_drop 129 = .ok (.iload 6, 2) := by decide +kernel
theorem dL_drop_131 : decode cL_drop 131 = .ok (.goto 5, 3) := by decide +kernel
theorem dL_drop_134 : decode cL_drop 134 = .ok (.iload 4, 2) := by decide +kernel
theorem dL_drop_136 : decode cL_drop 136 = .ok (.istore 4, 2) := by decide +kernel
theorem dL_drop_138 : decode cL_drop 138 = .ok (.iinc 6 (-1), 3) := by decide +kernel
theorem dL_drop_141 : decode cL_drop 141 = .ok (.goto (-68), 3) := by decide +kernel
theorem dL_drop_144 : decode cL_drop 144 = .ok (.iload 4, 2) := by decide +kernel
theorem dL_drop_146 : decode cL_drop 146 = .ok (.aload_n 0, 1) := by decide +kernel
theorem dL_drop_147 : decode cL_drop 147 = .ok (.iconst 0, 1) := by decide +kernel
theorem dL_drop_148 : decode cL_drop 148 = .ok (.iaload, 1) := by decide +kernel
theorem dL_drop_149 : decode cL_drop 149 = .ok (.isub, 1) := by decide +kernel
theorem dL_drop_150 : decode cL_drop 150 = .ok (.ireturn, 1) := by decide +kernel
theorem dL_stop_0 : decode cL_stop 0 = .ok (.aload_n 0, 1) := by decide +kernel
theorem dL_stop_1 : decode cL_stop 1 = .ok (.invokestatic 9, 3) := by decide +kernel
theorem dL_stop_4 : decode cL_stop 4 = .ok (.aload_n 0, 1) := by decide +kernel
theorem dL_stop_5 : decode cL_stop 5 = .ok (.iconst 2, 1) := by decide +kernel
theorem dL_stop_6 : decode cL_stop 6 = .ok (.iaload, 1) := by decide +kernel
theorem dL_stop_7 : decode cL_stop 7 = .ok (.isub, 1) := by decide +kernel
theorem dL_stop_8 : decode cL_stop 8 = .ok (.istore 5, 2) := by decide +kernel
theorem dL_stop_10 : decode cL_stop 10 = .ok (.iload 4, 2) := by decide +kernel
theorem dL_stop_12 : decode cL_stop 12 = .ok (.iconst 1, 1) := by decide +kernel
theorem dL_stop_13 : decode cL_stop 13 = .ok (.if_icmp .ne 16, 3) := by decide +kernel
theorem dL_stop_16 : decode cL_stop 16 = .ok (.aload_n 0, 1) := by decide +kernel
theorem dL_stop_17 : decode cL_stop 17 = .ok (.iconst 2, 1) := by decide +kernel
theorem dL_stop_18 : decode cL_stop 18 = .ok (.iaload, 1) := by decide +kernel
theorem dL_stop_19 : decode cL_stop 19 = .ok (.aload_n 0, 1) := by decide +kernel
theorem dL_stop_20 : decode cL_stop 20 = .ok (.iconst 0, 1) := by decide +kernel
theorem dL_stop_21 : decode cL_stop 21 = .ok (.iaload, 1) := by decide +kernel
theorem dL_stop_22 : decode cL_stop 22 = .ok (.if_icmp .lt 7, 3) := by decide +kernel
theorem dL_stop_25 : decode cL_stop 25 = .ok (.iconst 1, 1) := by decide +kernel
theorem dL_stop_26 : decode cL_stop 26 = .ok (.goto 4, 3) := by decide +kernel
theorem dL_stop_29 : decode cL_stop 29 = .ok (.iconst 0, 1) := by decide +kernel
theorem dL_stop_30 : decode cL_stop 30 = .ok (.istore 6, 2) := by decide +kernel
theorem dL_stop_32 : decode cL_stop 32 = .ok (.iload 6, 2) := by decide +kernel
theorem dL_stop_34 : decode cL_stop 34 = .ok (.ifCond .eq 76, 3) := by decide +kernel
theorem dL_stop_37 : decode cL_stop 37 = .ok (.aload_n 3, 1) := by decide +kernel
theorem dL_stop_38 : decode cL_stop 38 = .ok (.aload_n 0, 1) := by decide +kernel
theorem dL_stop_39 : decode cL_stop 39 = .ok (.aload_n 0, 1) := by decide +kernel
theorem dL_stop_40 : decode cL_stop 40 = .ok (.iconst 2, 1) := by decide +kernel
theorem dL_stop_41 : decode cL_stop 41 = .ok (.iaload, 1) := by decide +kernel
theorem dL_stop_42 : decode cL_stop 42 = .ok (.iconst 0, 1) := by decide +kernel
theorem dL_stop_43 : decode cL_stop 43 = .ok (.invokestatic 19, 3) := by decide +kernel
theorem dL_stop_46 : decode cL_stop 46 = .ok (.istore 7, 2) := by decide +kernel
theorem dL_stop_48 : decode cL_stop 48 = .ok (.iload 7, 2) := by decide +kernel
theorem dL_stop_50 : decode cL_stop 50 = .ok (.iconst 2, 1) := by decide +kernel
theorem dL_stop_51 : decode cL_stop 51 = .ok (.if_icmp .eq 13, 3) := by decide +kernel
theorem dL_stop_54 : decode cL_stop 54 = .ok (.iload 7, 2) := by decide +kernel
theorem dL_stop_56 : decode cL_stop 56 = .ok (.iconst 5, 1) := by decide +kernel
theorem dL_stop_57 : decode cL_stop 57 = .ok (.if_icmp .eq 7, 3) := by decide +kernel
theorem dL_stop_60 : decode cL_stop 60 = .ok (.iconst 1, 1) := by decide +kernel
theorem dL_stop_61 : decode cL_stop 61 = .ok (.goto 4, 3) := by decide +kernel
theorem dL_stop_64 : decode cL_stop 64 = .ok (.iconst 0, 1) := by decide +kernel
theorem dL_stop_65 : decode cL_stop 65 = .ok (.istore 6, 2) := by decide +kernel
theorem dL_stop_67 : decode cL_stop 67 = .ok (.iconst 0, 1) := by decide +kernel
theorem dL_stop_68 : decode cL_stop 68 = .ok (.istore 8, 2) := by decide +kernel
theorem dL_stop_70 : decode cL_stop 70 = .ok (.iload 8, 2) := by decide +kernel
theorem dL_stop_72 : decode cL_stop 72 = .ok (.bipush 8, 2) := by decide +kernel
theorem dL_stop_74 : decode cL_stop 74 = .ok (.if_icmp .ge 36, 3) := by decide +kernel
theorem dL_stop_77 : decode cL_stop 77 = .ok (.iload 6, 2) := by decide +kernel
theorem dL_stop_79 : decode cL_stop 79 = .ok (.ifCond .eq 22, 3) := by decide +kernel
theorem dL_stop_82 : decode cL_stop 82 = .ok (.aload_n 0, 1) := by decide +kernel
theorem dL_stop_83 : decode cL_stop 83 = .ok (.iconst 2, 1) := by decide +kernel
theorem dL_stop_84 : decode cL_stop 84 = .ok (.iaload, 1) := by decide +kernel
theorem dL_stop_85 : decode cL_stop 85 = .ok (.aload_n 2, 1) := by decide +kernel
theorem dL_stop_86 : decode cL_stop 86 = .ok (.bipush 6, 2) := by decide +kernel
theorem dL_stop_88 : decode cL_stop 88 = .ok (.iload 8, 2) := by decide +kernel
theorem dL_stop_90 : decode cL_stop 90 = .ok (.imul, 1) := by decide +kernel
theorem dL_stop_91 : decode cL_stop 91 = .ok (.iconst 1, 1) := by decide +kernel
theorem dL_stop_92 : decode cL_stop 92 = .ok (.iadd, 1) := by decide +kernel
theorem dL_stop_93 : decode cL_stop 93 = .ok (.iaload, 1) := by decide +kernel
theorem dL_stop_94 : decode cL_stop 94 = .ok (.if_icmp .le 7, 3) := by decide +kernel
theorem dL_stop_97 : decode cL_stop 97 = .ok (.iconst 1, 1) := by decide +kernel
theorem dL_stop_98 : decode cL_stop 98 = .ok (.goto 4, 3) := by decide +kernel
theorem dL_stop_101 : decode cL_stop 101 = .ok (.iconst 0, 1) := by decide +kernel
theorem dL_stop_102 : decode cL_stop 102 = .ok (.istore 6, 2) := by decide +kernel
theorem dL_stop_104 : decode cL_stop 104 = .ok (.iinc 8 1, 3) := by decide +kernel
theorem dL_stop_107 : decode cL_stop 107 = .ok (.goto (-37), 3) := by decide +kernel
theorem dL_stop_110 : decode cL_stop 110 = .ok (.iload 5, 2) := by decide +kernel
theorem dL_stop_112 : decode cL_stop 112 = .ok (.iload 6, 2) := by decide +kernel
theorem dL_stop_114 : decode cL_stop 114 = .ok (.ifCond .eq 7, 3) := by decide +kernel
theorem dL_stop_117 : decode cL_stop 117 = .ok (.iconst 1, 1) := by decide +kernel
theorem dL_stop_118 : decode cL_stop 118 = .ok (.goto 4, 3) := by decide +kernel
theorem dL_stop_121 : decode cL_stop 121 = .ok (.iconst 0, 1) := by decide +kernel
theorem dL_stop_122 : decode cL_stop 122 = .ok (.iadd, 1) := by decide +kernel
theorem dL_stop_123 : decode cL_stop 123 = .ok (.istore 5, 2) := by decide +kernel
theorem dL_stop_125 : decode cL_stop 125 = .ok (.aload_n 0, 1) := by decide +kernel
theorem dL_stop_126 : decode cL_stop 126 = .ok (.iconst 2, 1) := by decide +kernel
theorem dL_stop_127 : decode cL_stop 127 = .ok (.dup2, 1) := by decide +kernel
theorem dL_stop_128 : decode cL_stop 128 = .ok (.iaload, 1) := by decide +kernel
theorem dL_stop_129 : decode cL_stop 129 = .ok (.iload 6, 2) := by decide +kernel
theorem dL_stop_131 : decode cL_stop 131 = .ok (.ifCond .eq 7, 3) := by decide +kernel
theorem dL_stop_134 : decode cL_stop 134 = .ok (.iconst 1, 1) := by decide +kernel
theorem dL_stop_135 : decode cL_stop 135 = .ok (.goto 4, 3) := by decide +kernel
theorem dL_stop_138 : decode cL_stop 138 = .ok (.iconst 0, 1) := by decide +kernel
theorem dL_stop_139 : decode cL_stop 139 = .ok (.isub, 1) := by decide +kernel
theorem dL_stop_140 : decode cL_stop 140 = .ok (.iastore, 1) := by decide +kernel
theorem dL_stop_141 : decode cL_stop 141 = .ok (.aload_n 0, 1) := by decide +kernel
theorem dL_stop_142 : decode cL_stop 142 = .ok (.iconst 1, 1) := by decide +kernel
theorem dL_stop_143 : decode cL_stop 143 = .ok (.dup2, 1) := by decide +kernel
theorem dL_stop_144 : decode cL_stop 144 = .ok (.iaload, 1) := by decide +kernel
theorem dL_stop_145 : decode cL_stop 145 = .ok (.iload 5, 2) := by decide +kernel
theorem dL_stop_147 : decode cL_stop 147 = .ok (.isub, 1) := by decide +kernel
theorem dL_stop_148 : decode cL_stop 148 = .ok (.iastore, 1) := by decide +kernel
theorem dL_stop_149 : decode cL_stop 149 = .ok (.iconst 0, 1) := by decide +kernel
theorem dL_stop_150 : decode cL_stop 150 = .ok (.istore 7, 2) := by decide +kernel
theorem dL_stop_152 : decode cL_stop 152 = .ok (.iload 7, 2) := by decide +kernel
theorem dL_stop_154 : decode cL_stop 154 = .ok (.bipush 8, 2) := by decide +kernel
theorem dL_stop_156 : decode cL_stop 156 = .ok (.if_icmp .ge 19, 3) := by decide +kernel
theorem dL_stop_159 : decode cL_stop 159 = .ok (.aload_n 2, 1) := by decide +kernel
theorem dL_stop_160 : decode cL_stop 160 = .ok (.bipush 6, 2) := by decide +kernel
theorem dL_stop_162 : decode cL_stop 162 = .ok (.iload 7, 2) := by decide +kernel
theorem dL_stop_164 : decode cL_stop 164 = .ok (.imul, 1) := by decide +kernel
theorem dL_stop_165 : decode cL_stop 165 = .ok (.iconst 2, 1) := by decide +kernel
theorem dL_stop_166 : decode cL_stop 166 = .ok (.iadd, 1) := by decide +kernel
theorem dL_stop_167 : decode cL_stop 167 = .ok (.iconst 0, 1) := by decide +kernel
theorem dL_stop_168 : decode cL_stop 168 = .ok (.iastore, 1) := by decide +kernel
theorem dL_stop_169 : decode cL_stop 169 = .ok (.iinc 7 1, 3) := by decide +kernel
theorem dL_stop_172 : decode cL_stop 172 = .ok (.goto (-20), 3) := by decide +kernel
theorem dL_stop_175 : decode cL_stop 175 = .ok (.iconst 0, 1) := by decide +kernel
theorem dL_stop_176 : decode cL_stop 176 = .ok (.istore 7, 2) := by decide +kernel
theorem dL_stop_178 : decode cL_stop 178 = .ok (.iload 7, 2) := by decide +kernel
theorem dL_stop_180 : decode cL_stop 180 = .ok (.bipush 16, 2) := by decide +kernel
theorem dL_stop_182 : decode cL_stop 182 = .ok (.if_icmp .ge 14, 3) := by decide +kernel
theorem dL_stop_185 : decode cL_stop 185 = .ok (.aload_n 1, 1) := by decide +kernel
theorem dL_stop_186 : decode cL_stop 186 = .ok (.iload 7, 2) := by decide +kernel
theorem dL_stop_188 : decode cL_stop 188 = .ok (.iconst 0, 1) := by decide +kernel
theorem dL_stop_189 : decode cL_stop 189 = .ok (.iastore, 1) := by decide +kernel
theorem dL_stop_190 : decode cL_stop 190 = .ok (.iinc 7 1, 3) := by decide +kernel
theorem dL_stop_193 : decode cL_stop 193 = .ok (.goto (-15), 3) := by decide +kernel
theorem dL_stop_196 : decode cL_stop 196 = .ok (.aload_n 0, 1) := by decide +kernel
theorem dL_stop_197 : decode cL_stop 197 = .ok (.iconst 3, 1) := by decide +kernel
theorem dL_stop_198 : decode cL_stop 198 = .ok (.iconst 1, 1) := by decide +kernel
theorem dL_stop_199 : decode cL_stop 199 = .ok (.iastore, 1) := by decide +kernel
theorem dL_stop_200 : decode cL_stop 200 = .ok (.iload 5, 2) := by decide +kernel
theorem dL_stop_202 : decode cL_stop 202 = .ok (.ireturn, 1) := by decide +kernel
theorem dL_start_0 : decode cL_start 0 = .ok (.bipush 8, 2) := by decide +kernel
theorem dL_start_2 : decode cL_start 2 = .ok (.newarray .int, 2) := by decide +kernel
theorem dL_start_4 : decode cL_start 4 = .ok (.astore 5, 2) := by decide +kernel
theorem dL_start_6 : decode cL_start 6 = .ok (.aload_n 0, 1) := by decide +kernel
theorem dL_start_7 : decode cL_start 7 = .ok (.aload_n 2, 1) := by decide +kernel
theorem dL_start_8 : decode cL_start 8 = .ok (.invokestatic 34, 3) := by decide +kernel
theorem dL_start_11 : decode cL_start 11 = .ok (.istore 6, 2) := by decide +kernel
theorem dL_start_13 : decode cL_start 13 = .ok (.aload 4, 2) := by decide +kernel
theorem dL_start_15 : decode cL_start 15 = .ok (.iconst 0, 1) := by decide +kernel
theorem dL_start_16 : decode cL_start 16 = .ok (.iload 6, 2) := by decide +kernel
theorem dL_start_18 : decode cL_start 18 = .ok (.ifCond .ne 7, 3) := by decide +kernel
theorem dL_start_21 : decode cL_start 21 = .ok (.iconst 0, 1) := by decide +kernel
theorem dL_start_22 : decode cL_start 22 = .ok (.goto 12, 3) := by decide +kernel
theorem dL_start_25 : decode cL_start 25 = .ok (.aload_n 2, 1) := by decide +kernel
theorem dL_start_26 : decode cL_start 26 = .ok (.aload_n 0, 1) := by decide +kernel
theorem dL_start_27 : decode cL_start 27 = .ok (.iload 6, 2) := by decide +kernel
theorem dL_start_29 : decode cL_start 29 = .ok (.bipush 6, 2) := by decide +kernel
theorem dL_start_31 : decode cL_start 31 = .ok (.invokestatic 19, 3) := by decide +kernel
theorem dL_start_34 : decode cL_start 34 = .ok (.iastore, 1) := by decide +kernel
theorem dL_start_35 : decode cL_start 35 = .ok (.iconst 0, 1) := by decide +kernel
theorem dL_start_36 : decode cL_start 36 = .ok (.istore 7, 2) := by decide +kernel
theorem dL_start_38 : decode cL_start 38 = .ok (.iload 7, 2) := by decide +kernel
theorem dL_start_40 : decode cL_start 40 = .ok (.bipush 8, 2) := by decide +kernel
theorem dL_start_42 : decode cL_start 42 = .ok (.if_icmp .ge 27, 3) := by decide +kernel
theorem dL_start_45 : decode cL_start 45 = .ok (.aload 5, 2) := by decide +kernel
theorem dL_start_47 : decode cL_start 47 = .ok (.iload 7, 2) := by decide +kernel
theorem dL_start_49 : decode cL_start 49 = .ok (.iload 6, 2) := by decide +kernel
theorem dL_start_51 : decode cL_start 51 = .ok (.ifCond .ne 7, 3) := by decide +kernel
theorem dL_start_54 : decode cL_start 54 = .ok (.iconst 0, 1) := by decide +kernel
theorem dL_start_55 : decode cL_start 55 = .ok (.goto 7, 3) := by decide +kernel
theorem dL_start_58 : decode cL_start 58 = .ok (.aload_n 3, 1) := by decide +kernel
theorem dL_start_59 : decode cL_start 59 = .ok (.iload 7, 2) := by decide +kernel
theorem dL_start_61 : decode cL_start 61 = .ok (.iaload, 1) := by decide +kernel
theorem dL_start_62 : decode cL_start 62 = .ok (.iastore, 1) := by decide +kernel
theorem dL_start_63 : decode cL_start 63 = .ok (.iinc 7 1, 3) := by decide +kernel
theorem dL_start_66 : decode cL_start 66 = .ok (.goto (-28), 3) := by decide +kernel
theorem dL_start_69 : decode cL_start 69 = .ok (.iload 6, 2) := by decide +kernel
theorem dL_start_71 : decode cL_start 71 = .ok (.ifCond .ne 9, 3) := by decide +kernel
theorem dL_start_74 : decode cL_start 74 = .ok (.aload_n 0, 1) := by decide +kernel
theorem dL_start_75 : decode cL_start 75 = .ok (.iconst 0, 1) := by decide +kernel
theorem dL_start_76 : decode cL_start 76 = .ok (.iaload, 1) := by decide +kernel
theorem dL_start_77 : decode cL_start 77 = .ok (.goto 7, 3) := by decide +kernel
theorem dL_start_80 : decode cL_start 80 = .ok (.iload 6, 2) := by decide +kernel
theorem dL_start_82 : decode cL_start 82 = .ok (.iconst 1, 1) := by decide +kernel
theorem dL_start_83 : decode cL_start 83 = .ok (.iadd, 1) := by decide +kernel
theorem dL_start_84 : decode cL_start 84 = .ok (.istore 7, 2) := by decide +kernel
theorem dL_start_86 : decode cL_start 86 = .ok (.iload 7, 2) := by decide +kernel
theorem dL_start_88 : decode cL_start 88 = .ok (.aload_n 0, 1) := by decide +kernel
theorem dL_start_89 : decode cL_start 89 = .ok (.invokestatic 9, 3) := by decide +kernel
theorem dL_start_92 : decode cL_start 92 = .ok (.if_icmp .gt 120, 3) := by decide +kernel
theorem dL_start_95 : decode cL_start 95 = .ok (.aload_n 2, 1) := by decide +kernel
theorem dL_start_96 : decode cL_start 96 = .ok (.aload_n 0, 1) := by decide +kernel
theorem dL_start_97 : decode cL_start 97 = .ok (.iload 7, 2) := by decide +kernel
theorem dL_start_99 : decode cL_start 99 = .ok (.iconst 0, 1) := by decide +kernel
theorem dL_start_100 : decode cL_start 100 = .ok (.invokestatic 19, 3) := by decide +kernel
theorem dL_start_103 : decode cL_start 103 = .ok (.istore 8, 2) := by decide +kernel
theorem dL_start_105 : decode cL_start 105 = .ok (.iconst 1, 1) := by decide +kernel
theorem dL_start_106 : decode cL_start 106 = .ok (.aload_n 2, 1) := by decide +kernel
theorem dL_start_107 : decode cL_start 107 = .ok (.aload_n 0, 1) := by decide +kernel
theorem dL_start_108 : decode cL_start 108 = .ok (.iload 7, 2) := by decide +kernel
theorem dL_start_110 : decode cL_start 110 = .ok (.iconst 1, 1) := by decide +kernel
theorem dL_start_111 : decode cL_start 111 = .ok (.invokestatic 19, 3) := by decide +kernel
theorem dL_start_114 : decode cL_start 114 = .ok (.ishl, 1) := by decide +kernel
theorem dL_start_115 : decode cL_start 115 = .ok (.istore 9, 2) := by decide +kernel
theorem dL_start_117 : decode cL_start 117 = .ok (.aload 4, 2) := by decide +kernel
theorem dL_start_119 : decode cL_start 119 = .ok (.iconst 0, 1) := by decide +kernel
theorem dL_start_120 : decode cL_start 120 = .ok (.iload 8, 2) := by decide +kernel
theorem dL_start_122 : decode cL_start 122 = .ok (.ifCond .ne 13, 3) := by decide +kernel
theorem dL_start_125 : decode cL_start 125 = .ok (.aload 4, 2) := by decide +kernel
theorem dL_start_127 : decode cL_start 127 = .ok (.iconst 0, 1) := by decide +kernel
theorem dL_start_128 : decode cL_start 128 = .ok (.iaload, 1) := by decide +kernel
theorem dL_start_129 : decode cL_start 129 = .ok (.iload 9, 2) := by decide +kernel
theorem dL_start_131 : decode cL_start 131 = .ok (.ior, 1) := by decide +kernel
theorem dL_start_132 : decode cL_start 132 = .ok (.goto 32, 3) := by decide +kernel
theorem dL_start_135 : decode cL_start 135 = .ok (.iload 8, 2) := by decide +kernel
theorem dL_start_137 : decode cL_start 137 = .ok (.iconst 2, 1) := by decide +kernel
theorem dL_start_138 : decode cL_start 138 = .ok (.if_icmp .eq 9, 3) := by decide +kernel
theorem dL_start_141 : decode cL_start 141 = .ok (.iload 8, 2) := by decide +kernel
theorem dL_start_143 : decode cL_start 143 = .ok (.iconst 4, 1) := by decide +kernel
theorem dL_start_144 : decode cL_start 144 = .ok (.if_icmp .ne 16, 3) := by decide +kernel
theorem dL_start_147 : decode cL_start 147 = .ok (.aload 4, 2) := by decide +kernel
theorem dL_start_149 : decode cL_start 149 = .ok (.iconst 0, 1) := by decide +kernel
theorem dL_start_150 : decode cL_start 150 = .ok (.iaload, 1) := by decide +kernel
theorem dL_start_151 : decode cL_start 151 = .ok (.bipush 15, 2) := by decide +kernel
theorem dL_start_153 : decode cL_start 153 = .ok (.iload 9, 2) := by decide +kernel
theorem dL_start_155 : decode cL_start 155 = .ok (.isub, 1) := by decide +kernel
theorem dL_start_156 : decode cL_start 156 = .ok (.iand, 1) := by decide +kernel
theorem dL_start_157 : decode cL_start 157 = .ok (.goto 7, 3) := by decide +kernel
theorem dL_start_160 : decode cL_start 160 = .ok (.aload 4, 2) := by decide +kernel
theorem dL_start_162 : decode cL_start 162 = .ok (.iconst 0, 1) := by decide +kernel
theorem dL_start_163 : decode cL_start 163 = .ok (.iaload, 1) := by decide +kernel
theorem dL_start_164 : decode cL_start 164 = .ok (.iastore, 1) := by decide +kernel
theorem dL_start_165 : decode cL_start 165 = .ok (.iload 8, 2) := by decide +kernel
theorem dL_start_167 : decode cL_start 167 = .ok (.iconst 2, 1) := by decide +kernel
theorem dL_start_168 : decode cL_start 168 = .ok (.irem, 1) := by decide +kernel
theorem dL_start_169 : decode cL_start 169 = .ok (.iconst 1, 1) := by decide +kernel
theorem dL_start_170 : decode cL_start 170 = .ok (.if_icmp .ne 36, 3) := by decide +kernel
theorem dL_start_173 : decode cL_start 173 = .ok (.iload 8, 2) := by decide +kernel
theorem dL_start_175 : decode cL_start 175 = .ok (.iconst 5, 1) := by decide +kernel
theorem dL_start_176 : decode cL_start 176 = .ok (.if_icmp .ge 30, 3) := by decide +kernel
theorem dL_start_179 : decode cL_start 179 = .ok (.aload 5, 2) := by decide +kernel
theorem dL_start_181 : decode cL_start 181 = .ok (.aload_n 2, 1) := by decide +kernel
theorem dL_start_182 : decode cL_start 182 = .ok (.aload_n 0, 1) := by decide +kernel
theorem dL_start_183 : decode cL_start 183 = .ok (.iload 7, 2) := by decide +kernel
theorem dL_start_185 : decode cL_start 185 = .ok (.iconst 2, 1) := by decide +kernel
theorem dL_start_186 : decode cL_start 186 = .ok (.invokestatic 19, 3) := by decide +kernel
theorem dL_start_189 : decode cL_start 189 = .ok (.iaload, 1) := by decide +kernel
theorem dL_start_190 : decode cL_start 190 = .ok (.ifCond .ne 16, 3) := by decide +kernel
theorem dL_start_193 : decode cL_start 193 = .ok (.aload 5, 2) := by decide +kernel
theorem dL_start_195 : decode cL_start 195 = .ok (.aload_n 2, 1) := by decide +kernel
theorem dL_start_196 : decode cL_start 196 = .ok (.aload_n 0, 1) := by decide +kernel
theorem dL_start_197 : decode cL_start 197 = .ok (.iload 7, 2) := by decide +kernel
theorem dL_start_199 : decode cL_start 199 = .ok (.iconst 2, 1) := by decide +kernel
theorem dL_start_200 : decode cL_start 200 = .ok (.invokestatic 19, 3) := by decide +kernel
theorem dL_start_203 : decode cL_start 203 = .ok (.iload 7, 2) := by decide +kernel
theorem dL_start_205 : decode cL_start 205 = .ok (.iastore, 1) := by decide +kernel
theorem dL_start_206 : decode cL_start 206 = .ok (.iinc 7 1, 3) := by decide +kernel
theorem dL_start_209 : decode cL_start 209 = .ok (.goto (-123), 3) := by decide +kernel
theorem dL_start_212 : decode cL_start 212 = .ok (.iconst 0, 1) := by decide +kernel
theorem dL_start_213 : decode cL_start 213 = .ok (.istore 7, 2) := by decide +kernel
theorem dL_start_215 : decode cL_start 215 = .ok (.aload_n 0, 1) := by decide +kernel
theorem dL_start_216 : decode cL_start 216 = .ok (.iconst 0, 1) := by decide +kernel
theorem dL_start_217 : decode cL_start 217 = .ok (.iaload, 1) := by decide +kernel
theorem dL_start_218 : decode cL_start 218 = .ok (.istore 8, 2) := by decide +kernel
theorem dL_start_220 : decode cL_start 220 = .ok (.iload 8, 2) := by decide +kernel
theorem dL_start_222 : decode cL_start 222 = .ok (.aload_n 0, 1) := by decide +kernel
theorem dL_start_223 : decode cL_start 223 = .ok (.invokestatic 9, 3) := by decide +kernel
theorem dL_start_226 : decode cL_start 226 = .ok (.if_icmp .gt 89, 3) := by decide +kernel
theorem dL_start_229 : decode cL_start 229 = .ok (.aload_n 2, 1) := by decide +kernel
theorem dL_start_230 : decode cL_start 230 = .ok (.aload_n 0, 1) := by decide +kernel
theorem dL_start_231 : decode cL_start 231 = .ok (.iload 8, 2) := by decide +kernel
theorem dL_start_233 : decode cL_start 233 = .ok (.iconst 0, 1) := by decide +kernel
theorem dL_start_234 : decode cL_start 234 = .ok (.invokestatic 19, 3) := by decide +kernel
theorem dL_start_237 : decode cL_start 237 = .ok (.istore 9, 2) := by decide +kernel
theorem dL_start_239 : decode cL_start 239 = .ok (.aload_n 2, 1) := by decide +kernel
theorem dL_start_240 : decode cL_start 240 = .ok (.aload_n 0, 1) := by decide +kernel
theorem dL_start_241 : decode cL_start 241 = .ok (.iload 8, 2) := by decide +kernel
theorem dL_start_243 : decode cL_start 243 = .ok (.iconst 2, 1) := by decide +kernel
theorem dL_start_244 : decode cL_start 244 = .ok (.invokestatic 19, 3) := by decide +kernel
theorem dL_start_247 : decode cL_start 247 = .ok (.istore 10, 2) := by decide +kernel
theorem dL_start_249 : decode cL_start 249 = .ok (.iload 9, 2) := by decide +kernel
theorem dL_start_251 : decode cL_start 251 = .ok (.iconst 1, 1) := by decide +kernel
theorem dL_start_252 : decode cL_start 252 = .ok (.if_icmp .eq 9, 3) := by decide +kernel
theorem dL_start_255 : decode cL_start 255 = .ok (.iload 9, 2) := by decide +kernel
theorem dL_start_257 : decode cL_start 257 = .ok (.iconst 3, 1) := by decide +kernel
theorem dL_start_258 : decode cL_start 258 = .ok (.if_icmp .ne 51, 3) := by decide +kernel
theorem dL_start_261 : decode cL_start 261 = .ok (.aload 5, 2) := by decide +kernel
theorem dL_start_263 : decode cL_start 263 = .ok (.iload 10, 2) := by decide +kernel
theorem dL_start_265 : decode cL_start 265 = .ok (.iaload, 1) := by decide +kernel
theorem dL_start_266 : decode cL_start 266 = .ok (.ifCond .le 43, 3) := by decide +kernel
theorem dL_start_269 : decode cL_start 269 = .ok (.aload 5, 2) := by decide +kernel
theorem dL_start_271 : decode cL_start 271 = .ok (.iload 10, 2) := by decide +kernel
theorem dL_start_273 : decode cL_start 273 = .ok (.iaload, 1) := by decide +kernel
theorem dL_start_274 : decode cL_start 274 = .ok (.iload 8, 2) := by decide +kernel
theorem dL_start_276 : decode cL_start 276 = .ok (.if_icmp .gt 33, 3) := by decide +kernel
theorem dL_start_279 : decode cL_start 279 = .ok (.aload_n 1, 1) := by decide +kernel
theorem dL_start_280 : decode cL_start 280 = .ok (.iload 10, 2) := by decide +kernel
theorem dL_start_282 : decode cL_start 282 = .ok (.invokestatic 15, 3) := by decide +kernel
theorem dL_start_285 : decode cL_start 285 = .ok (.iload 8, 2) := by decide +kernel
theorem dL_start_287 : decode cL_start 287 = .ok (.if_icmp .ge 22, 3) := by decide +kernel
theorem dL_start_290 : decode cL_start 290 = .ok (.aload_n 1, 1) := by decide +kernel
theorem dL_start_291 : decode cL_start 291 = .ok (.iload 10, 2) := by decide +kernel
theorem dL_start_293 : decode cL_start 293 = .ok (.aload_n 2, 1) := by decide +kernel
theorem dL_start_294 : decode cL_start 294 = .ok (.aload_n 0, 1) := by decide +kernel
theorem dL_start_295 : decode cL_start 295 = .ok (.iload 8, 2) := by decide +kernel
theorem dL_start_297 : decode cL_start 297 = .ok (.iconst 4, 1) := by decide +kernel
theorem dL_start_298 : decode cL_start 298 = .ok (.invokestatic 19, 3) := by decide +kernel
theorem dL_start_301 : decode cL_start 301 = .ok (.iload 8, 2) := by decide +kernel
theorem dL_start_303 : decode cL_start 303 = .ok (.invokestatic 30, 3) := by decide +kernel
theorem dL_start_306 : decode cL_start 306 = .ok (.iinc 7 1, 3) := by decide +kernel
theorem dL_start_309 : decode cL_start 309 = .ok (.iinc 8 1, 3) := by decide +kernel
theorem dL_start_312 : decode cL_start 312 = .ok (.goto (-92), 3) := by decide +kernel
theorem dL_start_315 : decode cL_start 315 = .ok (.aload 4, 2) := by decide +kernel
theorem dL_start_317 : decode cL_start 317 = .ok (.iconst 1, 1) := by decide +kernel
theorem dL_start_318 : decode cL_start 318 = .ok (.aload_n 0, 1) := by decide +kernel
theorem dL_start_319 : decode cL_start 319 = .ok (.aload_n 1, 1) := by decide +kernel
theorem dL_start_320 : decode cL_start 320 = .ok (.aload_n 2, 1) := by decide +kernel
theorem dL_start_321 : decode cL_start 321 = .ok (.aload 4, 2) := by decide +kernel
theorem dL_start_323 : decode cL_start 323 = .ok (.iconst 0, 1) := by decide +kernel
theorem dL_start_324 : decode cL_start 324 = .ok (.iaload, 1) := by decide +kernel
theorem dL_start_325 : decode cL_start 325 = .ok (.invokestatic 38, 3) := by decide +kernel
theorem dL_start_328 : decode cL_start 328 = .ok (.iastore, 1) := by decide +kernel
theorem dL_start_329 : decode cL_start 329 = .ok (.aload_n 0, 1) := by decide +kernel
theorem dL_start_330 : decode cL_start 330 = .ok (.aload_n 0, 1) := by decide +kernel
theorem dL_start_331 : decode cL_start 331 = .ok (.invokestatic 9, 3) := by decide +kernel
theorem dL_start_334 : decode cL_start 334 = .ok (.invokestatic 42, 3) := by decide +kernel
theorem dL_start_337 : decode cL_start 337 = .ok (.pop, 1) := by decide +kernel
theorem dL_start_338 : decode cL_start 338 = .ok (.aload_n 0, 1) := by decide +kernel
theorem dL_start_339 : decode cL_start 339 = .ok (.iconst 3, 1) := by decide +kernel
theorem dL_start_340 : decode cL_start 340 = .ok (.iconst 0, 1) := by decide +kernel
theorem dL_start_341 : decode cL_start 341 = .ok (.iastore, 1) := by decide +kernel
theorem dL_start_342 : decode cL_start 342 = .ok (.aload_n 0, 1) := by decide +kernel
theorem dL_start_343 : decode cL_start 343 = .ok (.iconst 4, 1) := by decide +kernel
theorem dL_start_344 : decode cL_start 344 = .ok (.dup2, 1) := by decide +kernel
theorem dL_start_345 : decode cL_start 345 = .ok (.iaload, 1) := by decide +kernel
theorem dL_start_346 : decode cL_start 346 = .ok (.iload 7, 2) := by decide +kernel
theorem dL_start_348 : decode cL_start 348 = .ok (.iadd, 1) := by decide +kernel
theorem dL_start_349 : decode cL_start 349 = .ok (.iastore, 1) := by decide +kernel
theorem dL_start_350 : decode cL_start 350 = .ok (.iload 7, 2) := by decide +kernel
theorem dL_start_352 : decode cL_start 352 = .ok (.ireturn, 1) := by decide +kernel
theorem dL_acts_0 : decode cL_acts 0 = .ok (.iload 6, 2) := by decide +kernel
theorem dL_acts_2 : decode cL_acts 2 = .ok (.iconst 5, 1) := by decide +kernel
theorem dL_acts_3 : decode cL_acts 3 = .ok (.ishr, 1) := by decide +kernel
theorem dL_acts_4 : decode cL_acts 4 = .ok (.ldc 45, 2) := by decide +kernel
theorem dL_acts_6 : decode cL_acts 6 = .ok (.invokestatic 46, 3) := by decide +kernel
theorem dL_acts_9 : decode cL_acts 9 = .ok (.istore 7, 2) := by decide +kernel
theorem dL_acts_11 : decode cL_acts 11 = .ok (.iload 6, 2) := by decide +kernel
theorem dL_acts_13 : decode cL_acts 13 = .ok (.bipush 30, 2) := by decide +kernel
theorem dL_acts_15 : decode cL_acts 15 = .ok (.invokestatic 46, 3) := by decide +kernel
theorem dL_acts_18 : decode cL_acts 18 = .ok (.istore 8, 2) := by decide +kernel
theorem dL_acts_20 : decode cL_acts 20 = .ok (.ldc 50, 2) := by decide +kernel
theorem dL_acts_22 : decode cL_acts 22 = .ok (.istore 9, 2) := by decide +kernel
theorem dL_acts_24 : decode cL_acts 24 = .ok (.iload 7, 2) := by decide +kernel
theorem dL_acts_26 : decode cL_acts 26 = .ok (.iconst 4, 1) := by decide +kernel
theorem dL_acts_27 : decode cL_acts 27 = .ok (.irem, 1) := by decide +kernel
theorem dL_acts_28 : decode cL_acts 28 = .ok (.istore 10, 2) := by decide +kernel
theorem dL_acts_30 : decode cL_acts 30 = .ok (.iconst 4, 1) := by decide +kernel
theorem dL_acts_31 : decode cL_acts 31 = .ok (.iload 10, 2) := by decide +kernel
theorem dL_acts_33 : decode cL_acts 33 = .ok (.imul, 1) := by decide +kernel
theorem dL_acts_34 : decode cL_acts 34 = .ok (.istore 11, 2) := by decide +kernel
theorem dL_acts_36 : decode cL_acts 36 = .ok (.aload_n 1, 1) := by decide +kernel
theorem dL_acts_37 : decode cL_acts 37 = .ok (.iconst 1, 1) := by decide +kernel
theorem dL_acts_38 : decode cL_acts 38 = .ok (.iaload, 1) := by decide +kernel
theorem dL_acts_39 : decode cL_acts 39 = .ok (.bipush 32, 2) := by decide +kernel
theorem dL_acts_41 : decode cL_acts 41 = .ok (.if_icmp .lt 7, 3) := by decide +kernel
theorem dL_acts_44 : decode cL_acts 44 = .ok (.iconst 1, 1) := by decide +kernel
theorem dL_acts_45 : decode cL_acts 45 = .ok (.goto 4, 3) := by decide +kernel
theorem dL_acts_48 : decode cL_acts 48 = .ok (.iconst 0, 1) := by decide +kernel
theorem dL_acts_49 : decode cL_acts 49 = .ok (.istore 12, 2) := by decide +kernel
theorem dL_acts_51 : decode cL_acts 51 = .ok (.aload_n 1, 1) := by decide +kernel
theorem dL_acts_52 : decode cL_acts 52 = .ok (.iconst 3, 1) := by decide +kernel
theorem dL_acts_53 : decode cL_acts 53 = .ok (.iaload, 1) := by decide +kernel
theorem dL_acts_54 : decode cL_acts 54 = .ok (.iconst 1, 1) := by decide +kernel
theorem dL_acts_55 : decode cL_acts 55 = .ok (.if_icmp .ne 163, 3) := by decide +kernel
theorem dL_acts_58 : decode cL_acts 58 = .ok (.iload 8, 2) := by decide +kernel
theorem dL_acts_60 : decode cL_acts 60 = .ok (.bipush 10, 2) := by decide +kernel
theorem dL_acts_62 : decode cL_acts 62 = .ok (.if_icmp .ge 123, 3) := by decide +kernel
theorem dL_acts_65 : decode cL_acts 65 = .ok (.aload_n 0, 1) := by decide +kernel
theorem dL_acts_66 : decode cL_acts 66 = .ok (.iload 10, 2) := by decide +kernel
theorem dL_acts_68 : decode cL_acts 68 = .ok (.invokevirtual 51, 3) := by decide +kernel
theorem dL_acts_71 : decode cL_acts 71 = .ok (.iload 9, 2) := by decide +kernel
theorem dL_acts_73 : decode cL_acts 73 = .ok (.if_icmp .ne 110, 3) := by decide +kernel
theorem dL_acts_76 : decode cL_acts 76 = .ok (.aload_n 0, 1) := by decide +kernel
theorem dL_acts_77 : decode cL_acts 77 = .ok (.iload 10, 2) := by decide +kernel
theorem dL_acts_79 : decode cL_acts 79 = .ok (.iconst 0, 1) := by decide +kernel
theorem dL_acts_80 : decode cL_acts 80 = .ok (.iconst 0, 1) := by decide +kernel
theorem dL_acts_81 : decode cL_acts 81 = .ok (.invokevirtual 57, 3) := by decide +kernel
theorem dL_acts_84 : decode cL_acts 84 = .ok (.iload 9, 2) := by decide +kernel
theorem dL_acts_86 : decode cL_acts 86 = .ok (.if_icmp .ne 97, 3) := by decide +kernel
theorem dL_acts_89 : decode cL_acts 89 = .ok (.aload_n 0, 1) := by decide +kernel
theorem dL_acts_90 : decode cL_acts 90 = .ok (.iload 10, 2) := by decide +kernel
theorem dL_acts_92 : decode cL_acts 92 = .ok (.invokevirtual 61, 3) := by decide +kernel
theorem dL_acts_95 : decode cL_acts 95 = .ok (.iload 9, 2) := by decide +kernel
theorem dL_acts_97 : decode cL_acts 97 = .ok (.if_icmp .ne 86, 3) := by decide +kernel
theorem dL_acts_100 : decode cL_acts 100 = .ok (.aload_n 0, 1) := by decide +kernel
theorem dL_acts_101 : decode cL_acts 101 = .ok (.iload 10, 2) := by decide +kernel
theorem dL_acts_103 : decode cL_acts 103 = .ok (.invokevirtual 64, 3) := by decide +kernel
theorem dL_acts_106 : decode cL_acts 106 = .ok (.iload 9, 2) := by decide +kernel
theorem dL_acts_108 : decode cL_acts 108 = .ok (.if_icmp .ne 75, 3) := by decide +kernel
theorem dL_acts_111 : decode cL_acts 111 = .ok (.aload_n 0, 1) := by decide +kernel
theorem dL_acts_112 : decode cL_acts 112 = .ok (.iconst 0, 1) := by decide +kernel
theorem dL_acts_113 : decode cL_acts 113 = .ok (.invokevirtual 67, 3) := by decide +kernel
theorem dL_acts_116 : decode cL_acts 116 = .ok (.iload 9, 2) := by decide +kernel
theorem dL_acts_118 : decode cL_acts 118 = .ok (.if_icmp .ne 65, 3) := by decide +kernel
theorem dL_acts_121 : decode cL_acts 121 = .ok (.aload_n 0, 1) := by decide +kernel
theorem dL_acts_122 : decode cL_acts 122 = .ok (.iconst 0, 1) := by decide +kernel
theorem dL_acts_123 : decode cL_acts 123 = .ok (.invokevirtual 70, 3) := by decide +kernel
theorem dL_acts_126 : decode cL_acts 126 = .ok (.iload 9, 2) := by decide +kernel
theorem dL_acts_128 : decode cL_acts 128 = .ok (.if_icmp .ne 55, 3) := by decide +kernel
theorem dL_acts_131 : decode cL_acts 131 = .ok (.aload_n 0, 1) := by decide +kernel
theorem dL_acts_132 : decode cL_acts 132 = .ok (.invokevirtual 73, 3) := by decide +kernel
theorem dL_acts_135 : decode cL_acts 135 = .ok (.iload 9, 2) := by decide +kernel
theorem dL_acts_137 : decode cL_acts 137 = .ok (.if_icmp .ne 46, 3) := by decide +kernel
theorem dL_acts_140 : decode cL_acts 140 = .ok (.aload_n 0, 1) := by decide +kernel
theorem dL_acts_141 : decode cL_acts 141 = .ok (.invokevirtual 77, 3) := by decide +kernel
theorem dL_acts_144 : decode cL_acts 144 = .ok (.iload 9, 2) := by decide +kernel
theorem dL_acts_146 : decode cL_acts 146 = .ok (.if_icmp .ne 37, 3) := by decide +kernel
theorem dL_acts_149 : decode cL_acts 149 = .ok (.aload_n 0, 1) := by decide +kernel
theorem dL_acts_150 : decode cL_acts 150 = .ok (.invokevirtual 80, 3) := by decide +kernel
theorem dL_acts_153 : decode cL_acts 153 = .ok (.iload 9, 2) := by decide +kernel
theorem dL_acts_155 : decode cL_acts 155 = .ok (.if_icmp .ne 28, 3) := by decide +kernel
theorem dL_acts_158 : decode cL_acts 158 = .ok (.aload_n 0, 1) := by decide +kernel
theorem dL_acts_159 : decode cL_acts 159 = .ok (.iconst 0, 1) := by decide +kernel
theorem dL_acts_160 : decode cL_acts 160 = .ok (.invokevirtual 82, 3) := by decide +kernel
theorem dL_acts_163 : decode cL_acts 163 = .ok (.iload 9, 2) := by decide +kernel
theorem dL_acts_165 : decode cL_acts 165 = .ok (.if_icmp .ne 18, 3) := by decide +kernel
theorem dL_acts_168 : decode cL_acts 168 = .ok (.aload_n 0, 1) := by decide +kernel
theorem dL_acts_169 : decode cL_acts 169 = .ok (.iconst 0, 1) := by decide +kernel
theorem dL_acts_170 : decode cL_acts 170 = .ok (.iconst 0, 1) := by decide +kernel
theorem dL_acts_171 : decode cL_acts 171 = .ok (.invokevirtual 85, 3) := by decide +kernel
theorem dL_acts_174 : decode cL_acts 174 = .ok (.iload 9, 2) := by decide +kernel
theorem dL_acts_176 : decode cL_acts 176 = .ok (.if_icmp .ne 7, 3) := by decide +kernel
theorem dL_acts_179 : decode cL_acts 179 = .ok (.iconst 1, 1) := by decide +kernel
theorem dL_acts_180 : decode cL_acts 180 = .ok (.goto 4, 3) := by decide +kernel
theorem dL_acts_183 : decode cL_acts 183 = .ok (.iconst 0, 1) := by decide +kernel
theorem dL_acts_184 : decode cL_acts 184 = .ok (.ireturn, 1) := by decide +kernel
theorem dL_acts_185 : decode cL_acts 185 = .ok (.iconst 2, 1) := by decide +kernel
theorem dL_acts_186 : decode cL_acts 186 = .ok (.newarray .int, 2) := by decide +kernel
theorem dL_acts_188 : decode cL_acts 188 = .ok (.astore 13, 2) := by decide +kernel
theorem dL_acts_190 : decode cL_acts 190 = .ok (.aload_n 1, 1) := by decide +kernel
theorem dL_acts_191 : decode cL_acts 191 = .ok (.aload_n 3, 1) := by decide +kernel
theorem dL_acts_192 : decode cL_acts 192 = .ok (.aload 4, 2) := by decide +kernel
theorem dL_acts_194 : decode cL_acts 194 = .ok (.aload 5, 2) := by decide +kernel
theorem dL_acts_196 : decode cL_acts 196 = .ok (.aload 13, 2) := by decide +kernel
theorem dL_acts_198 : decode cL_acts 198 = .ok (.invokestatic 88, 3) := by decide +kernel
theorem dL_acts_201 : decode cL_acts 201 = .ok (.istore 14, 2) := by decide +kernel
theorem dL_acts_203 : decode cL_acts 203 = .ok (.aload_n 0, 1) := by decide +kernel
theorem dL_acts_204 : decode cL_acts 204 = .ok (.invokevirtual 92, 3) := by decide +kernel
theorem dL_acts_207 : decode cL_acts 207 = .ok (.iload 14, 2) := by decide +kernel
theorem dL_acts_209 : decode cL_acts 209 = .ok (.if_icmp .ne 7, 3) := by decide +kernel
theorem dL_acts_212 : decode cL_acts 212 = .ok (.iconst 1, 1) := by decide +kernel
theorem dL_acts_213 : decode cL_acts 213 = .ok (.goto 4, 3) := by decide +kernel
theorem dL_acts_216 : decode cL_acts 216 = .ok (.iconst 0, 1) := by decide +kernel
theorem dL_acts_217 : decode cL_acts 217 = .ok (.ireturn, 1) := by decide +kernel
theorem dL_acts_218 : decode cL_acts 218 = .ok (.iload 8, 2) := by decide +kernel
theorem dL_acts_220 : decode cL_acts 220 = .ok (.bipush 6, 2) := by decide +kernel
theorem dL_acts_222 : decode cL_acts 222 = .ok (.if_icmp .ge 92, 3) := by decide +kernel
theorem dL_acts_225 : decode cL_acts 225 = .ok (.iload 12, 2) := by decide +kernel
theorem dL_acts_227 : decode cL_acts 227 = .ok (.ifCond .ne 87, 3) := by decide +kernel
theorem dL_acts_230 : decode cL_acts 230 = .ok (.aload_n 2, 1) := by decide +kernel
theorem dL_acts_231 : decode cL_acts 231 = .ok (.iload 11, 2) := by decide +kernel
theorem dL_acts_233 : decode cL_acts 233 = .ok (.iaload, 1) := by decide +kernel
theorem dL_acts_234 : decode cL_acts 234 = .ok (.iconst 1, 1) := by decide +kernel
theorem dL_acts_235 : decode cL_acts 235 = .ok (.if_icmp .ne 20, 3) := by decide +kernel
theorem dL_acts_238 : decode cL_acts 238 = .ok (.aload_n 0, 1) := by decide +kernel
theorem dL_acts_239 : decode cL_acts 239 = .ok (.iload 10, 2) := by decide +kernel
theorem dL_acts_241 : decode cL_acts 241 = .ok (.invokevirtual 51, 3) := by decide +kernel
theorem dL_acts_244 : decode cL_acts 244 = .ok (.iload 9, 2) := by decide +kernel
theorem dL_acts_246 : decode cL_acts 246 = .ok (.if_icmp .ne 7, 3) := by decide +kernel
theorem dL_acts_249 : decode cL_acts 249 = .ok (.iconst 1, 1) := by decide +kernel
theorem dL_acts_250 : decode cL_acts 250 = .ok (.goto 4, 3) := by decide +kernel
theorem dL_acts_253 : decode cL_acts 253 = .ok (.iconst 0, 1) := by decide +kernel
theorem dL_acts_254 : decode cL_acts 254 = .ok (.ireturn, 1) := by decide +kernel
theorem dL_acts_255 : decode cL_acts 255 = .ok (.aload_n 2, 1) := by decide +kernel
theorem dL_acts_256 : decode cL_acts 256 = .ok (.iload 11, 2) := by decide +kernel
theorem dL_acts_258 : decode cL_acts 258 = .ok (.iconst 1, 1) := by decide +kernel
theorem dL_acts_259 : decode cL_acts 259 = .ok (.iastore, 1) := by decide +kernel
theorem dL_acts_260 : decode cL_acts 260 = .ok (.aload_n 2, 1) := by decide +kernel
theorem dL_acts_261 : decode cL_acts 261 = .ok (.iload 11, 2) := by decide +kernel
theorem dL_acts_263 : decode cL_acts 263 = .ok (.iconst 1, 1) := by decide +kernel
theorem dL_acts_264 : decode cL_acts 264 = .ok (.iadd, 1) := by decide +kernel
theorem dL_acts_265 : decode cL_acts 265 = .ok (.aload 4, 2) := by decide +kernel
theorem dL_acts_267 : decode cL_acts 267 = .ok (.aload_n 1, 1) := by decide +kernel
theorem dL_acts_268 : decode cL_acts 268 = .ok (.iconst 0, 1) := by decide +kernel
theorem dL_acts_269 : decode cL_acts 269 = .ok (.iload 10, 2) := by decide +kernel
theorem dL_acts_271 : decode cL_acts 271 = .ok (.iconst 0, 1) := by decide +kernel
theorem dL_acts_272 : decode cL_acts 272 = .ok (.iconst 0, 1) := by decide +kernel
theorem dL_acts_273 : decode cL_acts 273 = .ok (.iconst 0, 1) := by decide +kernel
theorem dL_acts_274 : decode cL_acts 274 = .ok (.iconst 0, 1) := by decide +kernel
theorem dL_acts_275 : decode cL_acts 275 = .ok (.invokestatic 23, 3) := by decide +kernel
theorem dL_acts_278 : decode cL_acts 278 = .ok (.iastore, 1) := by decide +kernel
theorem dL_acts_279 : decode cL_acts 279 = .ok (.aload_n 2, 1) := by decide +kernel
theorem dL_acts_280 : decode cL_acts 280 = .ok (.iload 11, 2) := by decide +kernel
theorem dL_acts_282 : decode cL_acts 282 = .ok (.iconst 2, 1) := by decide +kernel
theorem dL_acts_283 : decode cL_acts 283 = .ok (.iadd, 1) := by decide +kernel
theorem dL_acts_284 : decode cL_acts 284 = .ok (.iconst 0, 1) := by decide +kernel
theorem dL_acts_285 : decode cL_acts 285 = .ok (.iastore, 1) := by decide +kernel
theorem dL_acts_286 : decode cL_acts 286 = .ok (.aload_n 2, 1) := by decide +kernel
theorem dL_acts_287 : decode cL_acts 287 = .ok (.iload 11, 2) := by decide +kernel
theorem dL_acts_289 : decode cL_acts 289 = .ok (.iconst 3, 1) := by decide +kernel
theorem dL_acts_290 : decode cL_acts 290 = .ok (.iadd, 1) := by decide +kernel
theorem dL_acts_291 : decode cL_acts 291 = .ok (.iconst 0, 1) := by decide +kernel
theorem dL_acts_292 : decode cL_acts 292 = .ok (.iastore, 1) := by decide +kernel
theorem dL_acts_293 : decode cL_acts 293 = .ok (.aload_n 0, 1) := by decide +kernel
theorem dL_acts_294 : decode cL_acts 294 = .ok (.iload 10, 2) := by decide +kernel
theorem dL_acts_296 : decode cL_acts 296 = .ok (.invokevirtual 51, 3) := by decide +kernel
theorem dL_acts_299 : decode cL_acts 299 = .ok (.aload_n 2, 1) := by decide +kernel
theorem dL_acts_300 : decode cL_acts 300 = .ok (.iload 11, 2) := by decide +kernel
theorem dL_acts_302 : decode cL_acts 302 = .ok (.iconst 1, 1) := by decide +kernel
theorem dL_acts_303 : decode cL_acts 303 = .ok (.iadd, 1) := by decide +kernel
theorem dL_acts_304 : decode cL_acts 304 = .ok (.iaload, 1) := by decide +kernel
theorem dL_acts_305 : decode cL_acts 305 = .ok (.if_icmp .ne 7, 3) := by decide +kernel
theorem dL_acts_308 : decode cL_acts 308 = .ok (.iconst 1, 1) := by decide +kernel
theorem dL_acts_309 : decode cL_acts 309 = .ok (.goto 4, 3) := by decide +kernel
theorem dL_acts_312 : decode cL_acts 312 = .ok (.iconst 0, 1) := by decide +kernel
theorem dL_acts_313 : decode cL_acts 313 = .ok (.ireturn, 1) := by decide +kernel
theorem dL_acts_314 : decode cL_acts 314 = .ok (.iload 8, 2) := by decide +kernel
theorem dL_acts_316 : decode cL_acts 316 = .ok (.bipush 15, 2) := by decide +kernel
theorem dL_acts_318 : decode cL_acts 318 = .ok (.if_icmp .ge 151, 3) := by decide +kernel
theorem dL_acts_321 : decode cL_acts 321 = .ok (.iload 12, 2) := by decide +kernel
theorem dL_acts_323 : decode cL_acts 323 = .ok (.ifCond .ne 146, 3) := by decide +kernel
theorem dL_acts_326 : decode cL_acts 326 = .ok (.iload 7, 2) := by decide +kernel
theorem dL_acts_328 : decode cL_acts 328 = .ok (.iconst 4, 1) := by decide +kernel
theorem dL_acts_329 : decode cL_acts 329 = .ok (.idiv, 1) := by decide +kernel
theorem dL_acts_330 : decode cL_acts 330 = .ok (.bipush 8, 2) := by decide +kernel
theorem dL_acts_332 : decode cL_acts 332 = .ok (.irem, 1) := by decide +kernel
theorem dL_acts_333 : decode cL_acts 333 = .ok (.istore 13, 2) := by decide +kernel
theorem dL_acts_335 : decode cL_acts 335 = .ok (.iload 7, 2) := by decide +kernel
theorem dL_acts_337 : decode cL_acts 337 = .ok (.bipush 32, 2) := by decide +kernel
theorem dL_acts_339 : decode cL_acts 339 = .ok (.idiv, 1) := by decide +kernel
theorem dL_acts_340 : decode cL_acts 340 = .ok (.bipush 100, 2) := by decide +kernel
theorem dL_acts_342 : decode cL_acts 342 = .ok (.irem, 1) := by decide +kernel
theorem dL_acts_343 : decode cL_acts 343 = .ok (.istore 14, 2) := by decide +kernel
theorem dL_acts_345 : decode cL_acts 345 = .ok (.aload_n 2, 1) := by decide +kernel
theorem dL_acts_346 : decode cL_acts 346 = .ok (.iload 13, 2) := by decide +kernel
theorem dL_acts_348 : decode cL_acts 348 = .ok (.invokestatic 95, 3) := by decide +kernel
theorem dL_acts_351 : decode cL_acts 351 = .ok (.istore 15, 2) := by decide +kernel
theorem dL_acts_353 : decode cL_acts 353 = .ok (.aload_n 2, 1) := by decide +kernel
theorem dL_acts_354 : decode cL_acts 354 = .ok (.iload 11, 2) := by decide +kernel
theorem dL_acts_356 : decode cL_acts 356 = .ok (.iaload, 1) := by decide +kernel
theorem dL_acts_357 : decode cL_acts 357 = .ok (.ifCond .eq 15, 3) := by decide +kernel
theorem dL_acts_360 : decode cL_acts 360 = .ok (.iload 15, 2) := by decide +kernel
theorem dL_acts_362 : decode cL_acts 362 = .ok (.ifCond .lt 31, 3) := by decide +kernel
theorem dL_acts_365 : decode cL_acts 365 = .ok (.iload 15, 2) := by decide +kernel
theorem dL_acts_367 : decode cL_acts 367 = .ok (.iload 10, 2) := by decide +kernel
theorem dL_acts_369 : decode cL_acts 369 = .ok (.if_icmp .eq 24, 3) := by decide +kernel
theorem dL_acts_372 : decode cL_acts 372 = .ok (.aload_n 0, 1) := by decide +kernel
theorem dL_acts_373 : decode cL_acts 373 = .ok (.iload 10, 2) := by decide +kernel
theorem dL_acts_375 : decode cL_acts 375 = .ok (.iload 13, 2) := by decide +kernel
theorem dL_acts_377 : decode cL_acts 377 = .ok (.iload 14, 2) := by decide +kernel
theorem dL_acts_379 : decode cL_acts 379 = .ok (.invokevirtual 57, 3) := by decide +kernel
theorem dL_acts_382 : decode cL_acts 382 = .ok (.iload 9, 2) := by decide +kernel
theorem dL_acts_384 : decode cL_acts 384 = .ok (.if_icmp .ne 7, 3) := by decide +kernel
theorem dL_acts_387 : decode cL_acts 387 = .ok (.iconst 1, 1) := by decide +kernel
theorem dL_acts_388 : decode cL_acts 388 = .ok (.goto 4, 3) := by decide +kernel
theorem dL_acts_391 : decode cL_acts 391 = .ok (.iconst 0, 1) := by decide +kernel
theorem dL_acts_392 : decode cL_acts 392 = .ok (.ireturn, 1) := by decide +kernel
theorem dL_acts_393 : decode cL_acts 393 = .ok (.aload_n 3, 1) := by decide +kernel
theorem dL_acts_394 : decode cL_acts 394 = .ok (.iload 13, 2) := by decide +kernel
theorem dL_acts_396 : decode cL_acts 396 = .ok (.invokestatic 27, 3) := by decide +kernel
theorem dL_acts_399 : decode cL_acts 399 = .ok (.istore 16, 2) := by decide +kernel
theorem dL_acts_401 : decode cL_acts 401 = .ok (.aload_n 3, 1) := by decide +kernel
theorem dL_acts_402 : decode cL_acts 402 = .ok (.iload 13, 2) := by decide +kernel
theorem dL_acts_404 : decode cL_acts 404 = .ok (.iload 14, 2) := by decide +kernel
theorem dL_acts_406 : decode cL_acts 406 = .ok (.aload 4, 2) := by decide +kernel
theorem dL_acts_408 : decode cL_acts 408 = .ok (.aload_n 1, 1) := by decide +kernel
theorem dL_acts_409 : decode cL_acts 409 = .ok (.iconst 1, 1) := by decide +kernel
theorem dL_acts_410 : decode cL_acts 410 = .ok (.iload 10, 2) := by decide +kernel
theorem dL_acts_412 : decode cL_acts 412 = .ok (.iload 13, 2) := by decide +kernel
theorem dL_acts_414 : decode cL_acts 414 = .ok (.iload 16, 2) := by decide +kernel
theorem dL_acts_416 : decode cL_acts 416 = .ok (.iload 14, 2) := by decide +kernel
theorem dL_acts_418 : decode cL_acts 418 = .ok (.iconst 0, 1) := by decide +kernel
theorem dL_acts_419 : decode cL_acts 419 = .ok (.invokestatic 23, 3) := by decide +kernel
theorem dL_acts_422 : decode cL_acts 422 = .ok (.invokestatic 30, 3) := by decide +kernel
theorem dL_acts_425 : decode cL_acts 425 = .ok (.aload_n 2, 1) := by decide +kernel
theorem dL_acts_426 : decode cL_acts 426 = .ok (.iload 11, 2) := by decide +kernel
theorem dL_acts_428 : decode cL_acts 428 = .ok (.iconst 2, 1) := by decide +kernel
theorem dL_acts_429 : decode cL_acts 429 = .ok (.iadd, 1) := by decide +kernel
theorem dL_acts_430 : decode cL_acts 430 = .ok (.dup2, 1) := by decide +kernel
theorem dL_acts_431 : decode cL_acts 431 = .ok (.iaload, 1) := by decide +kernel
theorem dL_acts_432 : decode cL_acts 432 = .ok (.iconst 1, 1) := by decide +kernel
theorem dL_acts_433 : decode cL_acts 433 = .ok (.iadd, 1) := by decide +kernel
theorem dL_acts_434 : decode cL_acts 434 = .ok (.iastore, 1) := by decide +kernel
theorem dL_acts_435 : decode cL_acts 435 = .ok (.aload_n 2, 1) := by decide +kernel
theorem dL_acts_436 : decode cL_acts 436 = .ok (.iload 11, 2) := by decide +kernel
theorem dL_acts_438 : decode cL_acts 438 = .ok (.iconst 3, 1) := by decide +kernel
theorem dL_acts_439 : decode cL_acts 439 = .ok (.iadd, 1) := by decide +kernel
theorem dL_acts_440 : decode cL_acts 440 = .ok (.dup2, 1) := by decide +kernel
theorem dL_acts_441 : decode cL_acts 441 = .ok (.iaload, 1) := by decide +kernel
theorem dL_acts_442 : decode cL_acts 442 = .ok (.iconst 1, 1) := by decide +kernel
theorem dL_acts_443 : decode cL_acts 443 = .ok (.iload 13, 2) := by decide +kernel
theorem dL_acts_445 : decode cL_acts 445 = .ok (.ishl, 1) := by decide +kernel
theorem dL_acts_446 : decode cL_acts 446 = .ok (.ior, 1) := by decide +kernel
theorem dL_acts_447 : decode cL_acts 447 = .ok (.iastore, 1) := by decide +kernel
theorem dL_acts_448 : decode cL_acts 448 = .ok (.aload_n 0, 1) := by decide +kernel
theorem dL_acts_449 : decode cL_acts 449 = .ok (.iload 10, 2) := by decide +kernel
theorem dL_acts_451 : decode cL_acts 451 = .ok (.iload 13, 2) := by decide +kernel
theorem dL_acts_453 : decode cL_acts 453 = .ok (.iload 14, 2) := by decide +kernel
theorem dL_acts_455 : decode cL_acts 455 = .ok (.invokevirtual 57, 3) := by decide +kernel
theorem dL_acts_458 : decode cL_acts 458 = .ok (.iload 16, 2) := by decide +kernel
theorem dL_acts_460 : decode cL_acts 460 = .ok (.if_icmp .ne 7, 3) := by decide +kernel
theorem dL_acts_463 : decode cL_acts 463 = .ok (.iconst 1, 1) := by decide +kernel
theorem dL_acts_464 : decode cL_acts 464 = .ok (.goto 4, 3) := by decide +kernel
theorem dL_acts_467 : decode cL_acts 467 = .ok (.iconst 0, 1) := by decide +kernel
theorem dL_acts_468 : decode cL_acts 468 = .ok (.ireturn, 1) := by decide +kernel
theorem dL_acts_469 : decode cL_acts 469 = .ok (.iload 8, 2) := by decide +kernel
theorem dL_acts_471 : decode cL_acts 471 = .ok (.bipush 18, 2) := by decide +kernel
theorem dL_acts_473 : decode cL_acts 473 = .ok (.if_icmp .ge 107, 3) := by decide +kernel
theorem dL_acts_476 : decode cL_acts 476 = .ok (.iload 12, 2) := by decide +kernel
theorem dL_acts_478 : decode cL_acts 478 = .ok (.ifCond .ne 102, 3) := by decide +kernel
theorem dL_acts_481 : decode cL_acts 481 = .ok (.aload_n 2, 1) := by decide +kernel
theorem dL_acts_482 : decode cL_acts 482 = .ok (.iload 11, 2) := by decide +kernel
theorem dL_acts_484 : decode cL_acts 484 = .ok (.iaload, 1) := by decide +kernel
theorem dL_acts_485 : decode cL_acts 485 = .ok (.ifCond .ne 20, 3) := by decide +kernel
theorem dL_acts_488 : decode cL_acts 488 = .ok (.aload_n 0, 1) := by decide +kernel
theorem dL_acts_489 : decode cL_acts 489 = .ok (.iload 10, 2) := by decide +kernel
theorem dL_acts_491 : decode cL_acts 491 = .ok (.invokevirtual 61, 3) := by decide +kernel
theorem dL_acts_494 : decode cL_acts 494 = .ok (.iload 9, 2) := by decide +kernel
theorem dL_acts_496 : decode cL_acts 496 = .ok (.if_icmp .ne 7, 3) := by decide +kernel
theorem dL_acts_499 : decode cL_acts 499 = .ok (.iconst 1, 1) := by decide +kernel
theorem dL_acts_500 : decode cL_acts 500 = .ok (.goto 4, 3) := by decide +kernel
theorem dL_acts_503 : decode cL_acts 503 = .ok (.iconst 0, 1) := by decide +kernel
theorem dL_acts_504 : decode cL_acts 504 = .ok (.ireturn, 1) := by decide +kernel
theorem dL_acts_505 : decode cL_acts 505 = .ok (.iconst 0, 1) := by decide +kernel
theorem dL_acts_506 : decode cL_acts 506 = .ok (.istore 13, 2) := by decide +kernel
theorem dL_acts_508 : decode cL_acts 508 = .ok (.iconst 0, 1) := by decide +kernel
theorem dL_acts_509 : decode cL_acts 509 = .ok (.istore 14, 2) := by decide +kernel
theorem dL_acts_511 : decode cL_acts 511 = .ok (.iload 14, 2) := by decide +kernel
theorem dL_acts_513 : decode cL_acts 513 = .ok (.bipush 8, 2) := by decide +kernel
theorem dL_acts_515 : decode cL_acts 515 = .ok (.if_icmp .ge 25, 3) := by decide +kernel
theorem dL_acts_518 : decode cL_acts 518 = .ok (.iload 13, 2) := by decide +kernel
theorem dL_acts_520 : decode cL_acts 520 = .ok (.aload_n 2, 1) := by decide +kernel
theorem dL_acts_521 : decode cL_acts 521 = .ok (.iload 11, 2) := by decide +kernel
theorem dL_acts_523 : decode cL_acts 523 = .ok (.iconst 3, 1) := by decide +kernel
theorem dL_acts_524 : decode cL_acts 524 = .ok (.iadd, 1) := by decide +kernel
theorem dL_acts_525 : decode cL_acts 525 = .ok (.iaload, 1) := by decide +kernel
theorem dL_acts_526 : decode cL_acts 526 = .ok (.iload 14, 2) := by decide +kernel
theorem dL_acts_528 : decode cL_acts 528 = .ok (.ishr, 1) := by decide +kernel
theorem dL_acts_529 : decode cL_acts 529 = .ok (.iconst 1, 1) := by decide +kernel
theorem dL_acts_530 : decode cL_acts 530 = .ok (.iand, 1) := by decide +kernel
theorem dL_acts_531 : decode cL_acts 531 = .ok (.iadd, 1) := by decide +kernel
theorem dL_acts_532 : decode cL_acts 532 = .ok (.istore 13, 2) := by decide +kernel
theorem dL_acts_534 : decode cL_acts 534 = .ok (.iinc 14 1, 3) := by decide +kernel
theorem dL_acts_537 : decode cL_acts 537 = .ok (.goto (-26), 3) := by decide +kernel
theorem dL_acts_540 : decode cL_acts 540 = .ok (.aload_n 1, 1) := by decide +kernel
theorem dL_acts_541 : decode cL_acts 541 = .ok (.aload 4, 2) := by decide +kernel
theorem dL_acts_543 : decode cL_acts 543 = .ok (.aload_n 1, 1) := by decide +kernel
theorem dL_acts_544 : decode cL_acts 544 = .ok (.iconst 2, 1) := by decide +kernel
theorem dL_acts_545 : decode cL_acts 545 = .ok (.iload 10, 2) := by decide +kernel
theorem dL_acts_547 : decode cL_acts 547 = .ok (.iconst 0, 1) := by decide +kernel
theorem dL_acts_548 : decode cL_acts 548 = .ok (.iconst 0, 1) := by decide +kernel
theorem dL_acts_549 : decode cL_acts 549 = .ok (.iconst 0, 1) := by decide +kernel
theorem dL_acts_550 : decode cL_acts 550 = .ok (.iconst 0, 1) := by decide +kernel
theorem dL_acts_551 : decode cL_acts 551 = .ok (.invokestatic 23, 3) := by decide +kernel
theorem dL_acts_554 : decode cL_acts 554 = .ok (.invokestatic 42, 3) := by decide +kernel
theorem dL_acts_557 : decode cL_acts 557 = .ok (.pop, 1) := by decide +kernel
theorem dL_acts_558 : decode cL_acts 558 = .ok (.aload_n 2, 1) := by decide +kernel
theorem dL_acts_559 : decode cL_acts 559 = .ok (.iload 11, 2) := by decide +kernel
theorem dL_acts_561 : decode cL_acts 561 = .ok (.iconst 0, 1) := by decide +kernel
theorem dL_acts_562 : decode cL_acts 562 = .ok (.iastore, 1) := by decide +kernel
theorem dL_acts_563 : decode cL_acts 563 = .ok (.aload_n 0, 1) := by decide +kernel
theorem dL_acts_564 : decode cL_acts 564 = .ok (.iload 10, 2) := by decide +kernel
theorem dL_acts_566 : decode cL_acts 566 = .ok (.invokevirtual 61, 3) := by decide +kernel
theorem dL_acts_569 : decode cL_acts 569 = .ok (.iload 13, 2) := by decide +kernel
theorem dL_acts_571 : decode cL_acts 571 = .ok (.if_icmp .ne 7, 3) := by decide +kernel
theorem dL_acts_574 : decode cL_acts 574 = .ok (.iconst 1, 1) := by decide +kernel
theorem dL_acts_575 : decode cL_acts 575 = .ok (.goto 4, 3) := by decide +kernel
theorem dL_acts_578 : decode cL_acts 578 = .ok (.iconst 0, 1) := by decide +kernel
theorem dL_acts_579 : decode cL_acts 579 = .ok (.ireturn, 1) := by decide +kernel
theorem dL_acts_580 : decode cL_acts 580 = .ok (.iload 8, 2) := by decide +kernel
theorem dL_acts_582 : decode cL_acts 582 = .ok (.bipush 18, 2) := by decide +kernel
theorem dL_acts_584 : decode cL_acts 584 = .ok (.if_icmp .ne 77, 3) := by decide +kernel
theorem dL_acts_587 : decode cL_acts 587 = .ok (.aload_n 1, 1) := by decide +kernel
theorem dL_acts_588 : decode cL_acts 588 = .ok (.iconst 1, 1) := by decide +kernel
theorem dL_acts_589 : decode cL_acts 589 = .ok (.iaload, 1) := by decide +kernel
theorem dL_acts_590 : decode cL_acts 590 = .ok (.aload_n 2, 1) := by decide +kernel
theorem dL_acts_591 : decode cL_acts 591 = .ok (.iload 11, 2) := by decide +kernel
theorem dL_acts_593 : decode cL_acts 593 = .ok (.iconst 2, 1) := by decide +kernel
theorem dL_acts_594 : decode cL_acts 594 = .ok (.iadd, 1) := by decide +kernel
theorem dL_acts_595 : decode cL_acts 595 = .ok (.iaload, 1) := by decide +kernel
theorem dL_acts_596 : decode cL_acts 596 = .ok (.iadd, 1) := by decide +kernel
theorem dL_acts_597 : decode cL_acts 597 = .ok (.bipush 32, 2) := by decide +kernel
theorem dL_acts_599 : decode cL_acts 599 = .ok (.if_icmp .ge 62, 3) := by decide +kernel
theorem dL_acts_602 : decode cL_acts 602 = .ok (.aload_n 2, 1) := by decide +kernel
theorem dL_acts_603 : decode cL_acts 603 = .ok (.iload 11, 2) := by decide +kernel
theorem dL_acts_605 : decode cL_acts 605 = .ok (.iaload, 1) := by decide +kernel
theorem dL_acts_606 : decode cL_acts 606 = .ok (.ifCond .ne 20, 3) := by decide +kernel
theorem dL_acts_609 : decode cL_acts 609 = .ok (.aload_n 0, 1) := by decide +kernel
theorem dL_acts_610 : decode cL_acts 610 = .ok (.iload 10, 2) := by decide +kernel
theorem dL_acts_612 : decode cL_acts 612 = .ok (.invokevirtual 64, 3) := by decide +kernel
theorem dL_acts_615 : decode cL_acts 615 = .ok (.iload 9, 2) := by decide +kernel
theorem dL_acts_617 : decode cL_acts 617 = .ok (.if_icmp .ne 7, 3) := by decide +kernel
theorem dL_acts_620 : decode cL_acts 620 = .ok (.iconst 1, 1) := by decide +kernel
theorem dL_acts_621 : decode cL_acts 621 = .ok (.goto 4, 3) := by decide +kernel
theorem dL_acts_624 : decode cL_acts 624 = .ok (.iconst 0, 1) := by decide +kernel
theorem dL_acts_625 : decode cL_acts 625 = .ok (.ireturn, 1) := by decide +kernel
theorem dL_acts_626 : decode cL_acts 626 = .ok (.aload_n 1, 1) := by decide +kernel
theorem dL_acts_627 : decode cL_acts 627 = .ok (.aload_n 3, 1) := by decide +kernel
theorem dL_acts_628 : decode cL_acts 628 = .ok (.aload 4, 2) := by decide +kernel
theorem dL_acts_630 : decode cL_acts 630 = .ok (.iconst 1, 1) := by decide +kernel
theorem dL_acts_631 : decode cL_acts 631 = .ok (.iload 10, 2) := by decide +kernel
theorem dL_acts_633 : decode cL_acts 633 = .ok (.ishl, 1) := by decide +kernel
theorem dL_acts_634 : decode cL_acts 634 = .ok (.invokestatic 38, 3) := by decide +kernel
theorem dL_acts_637 : decode cL_acts 637 = .ok (.istore 13, 2) := by decide +kernel
theorem dL_acts_639 : decode cL_acts 639 = .ok (.aload_n 2, 1) := by decide +kernel
theorem dL_acts_640 : decode cL_acts 640 = .ok (.iload 11, 2) := by decide +kernel
theorem dL_acts_642 : decode cL_acts 642 = .ok (.iconst 0, 1) := by decide +kernel
theorem dL_acts_643 : decode cL_acts 643 = .ok (.iastore, 1) := by decide +kernel
theorem dL_acts_644 : decode cL_acts 644 = .ok (.aload_n 0, 1) := by decide +kernel
theorem dL_acts_645 : decode cL_acts 645 = .ok (.iload 10, 2) := by decide +kernel
theorem dL_acts_647 : decode cL_acts 647 = .ok (.invokevirtual 64, 3) := by decide +kernel
theorem dL_acts_650 : decode cL_acts 650 = .ok (.iload 13, 2) := by decide +kernel
theorem dL_acts_652 : decode cL_acts 652 = .ok (.if_icmp .ne 7, 3) := by decide +kernel
theorem dL_acts_655 : decode cL_acts 655 = .ok (.iconst 1, 1) := by decide +kernel
theorem dL_acts_656 : decode cL_acts 656 = .ok (.goto 4, 3) := by decide +kernel
theorem dL_acts_659 : decode cL_acts 659 = .ok (.iconst 0, 1) := by decide +kernel
theorem dL_acts_660 : decode cL_acts 660 = .ok (.ireturn, 1) := by decide +kernel
theorem dL_acts_661 : decode cL_acts 661 = .ok (.iload 7, 2) := by decide +kernel
theorem dL_acts_663 : decode cL_acts 663 = .ok (.iconst 4, 1) := by decide +kernel
theorem dL_acts_664 : decode cL_acts 664 = .ok (.idiv, 1) := by decide +kernel
theorem dL_acts_665 : decode cL_acts 665 = .ok (.bipush 8, 2) := by decide +kernel
theorem dL_acts_667 : decode cL_acts 667 = .ok (.irem, 1) := by decide +kernel
theorem dL_acts_668 : decode cL_acts 668 = .ok (.istore 13, 2) := by decide +kernel
theorem dL_acts_670 : decode cL_acts 670 = .ok (.iconst 0, 1) := by decide +kernel
theorem dL_acts_671 : decode cL_acts 671 = .ok (.istore 14, 2) := by decide +kernel
theorem dL_acts_673 : decode cL_acts 673 = .ok (.iload 14, 2) := by decide +kernel
theorem dL_acts_675 : decode cL_acts 675 = .ok (.bipush 8, 2) := by decide +kernel
theorem dL_acts_677 : decode cL_acts 677 = .ok (.if_icmp .ge 43, 3) := by decide +kernel
theorem dL_acts_680 : decode cL_acts 680 = .ok (.aload_n 3, 1) := by decide +kernel
theorem dL_acts_681 : decode cL_acts 681 = .ok (.iload 13, 2) := by decide +kernel
theorem dL_acts_683 : decode cL_acts 683 = .ok (.invokestatic 15, 3) := by decide +kernel
theorem dL_acts_686 : decode cL_acts 686 = .ok (.aload_n 3, 1) := by decide +kernel
theorem dL_acts_687 : decode cL_acts 687 = .ok (.bipush 6, 2) := by decide +kernel
theorem dL_acts_689 : decode cL_acts 689 = .ok (.iload 13, 2) := by decide +kernel
theorem dL_acts_691 : decode cL_acts 691 = .ok (.imul, 1) := by decide +kernel
theorem dL_acts_692 : decode cL_acts 692 = .ok (.iconst 1, 1) := by decide +kernel
theorem dL_acts_693 : decode cL_acts 693 = .ok (.iadd, 1) := by decide +kernel
theorem dL_acts_694 : decode cL_acts 694 = .ok (.iaload, 1) := by decide +kernel
theorem dL_acts_695 : decode cL_acts 695 = .ok (.if_icmp .ne 25, 3) := by decide +kernel
theorem dL_acts_698 : decode cL_acts 698 = .ok (.iload 7, 2) := by decide +kernel
theorem dL_acts_700 : decode cL_acts 700 = .ok (.iconst 3, 1) := by decide +kernel
theorem dL_acts_701 : decode cL_acts 701 = .ok (.irem, 1) := by decide +kernel
theorem dL_acts_702 : decode cL_acts 702 = .ok (.ifCond .le 18, 3) := by decide +kernel
theorem dL_acts_705 : decode cL_acts 705 = .ok (.iload 13, 2) := by decide +kernel
theorem dL_acts_707 : decode cL_acts 707 = .ok (.iconst 1, 1) := by decide +kernel
theorem dL_acts_708 : decode cL_acts 708 = .ok (.iadd, 1) := by decide +kernel
theorem dL_acts_709 : decode cL_acts 709 = .ok (.bipush 8, 2) := by decide +kernel
theorem dL_acts_711 : decode cL_acts 711 = .ok (.irem, 1) := by decide +kernel
theorem dL_acts_712 : decode cL_acts 712 = .ok (.istore 13, 2) := by decide +kernel
theorem dL_acts_714 : decode cL_acts 714 = .ok (.iinc 14 1, 3) := by decide +kernel
theorem dL_acts_717 : decode cL_acts 717 = .ok (.goto (-44), 3) := by decide +kernel
theorem dL_acts_720 : decode cL_acts 720 = .ok (.iload 8, 2) := by decide +kernel
theorem dL_acts_722 : decode cL_acts 722 = .ok (.bipush 22, 2) := by decide +kernel
theorem dL_acts_724 : decode cL_acts 724 = .ok (.if_icmp .ge 125, 3) := by decide +kernel
theorem dL_acts_727 : decode cL_acts 727 = .ok (.aload_n 3, 1) := by decide +kernel
theorem dL_acts_728 : decode cL_acts 728 = .ok (.iload 13, 2) := by decide +kernel
theorem dL_acts_730 : decode cL_acts 730 = .ok (.invokestatic 15, 3) := by decide +kernel
theorem dL_acts_733 : decode cL_acts 733 = .ok (.aload_n 3, 1) := by decide +kernel
theorem dL_acts_734 : decode cL_acts 734 = .ok (.bipush 6, 2) := by decide +kernel
theorem dL_acts_736 : decode cL_acts 736 = .ok (.iload 13, 2) := by decide +kernel
theorem dL_acts_738 : decode cL_acts 738 = .ok (.imul, 1) := by decide +kernel
theorem dL_acts_739 : decode cL_acts 739 = .ok (.iconst 1, 1) := by decide +kernel
theorem dL_acts_740 : decode cL_acts 740 = .ok (.iadd, 1) := by decide +kernel
theorem dL_acts_741 : decode cL_acts 741 = .ok (.iaload, 1) := by decide +kernel
theorem dL_acts_742 : decode cL_acts 742 = .ok (.if_icmp .ne 44, 3) := by decide +kernel
theorem dL_acts_745 : decode cL_acts 745 = .ok (.aload_n 0, 1) := by decide +kernel
theorem dL_acts_746 : decode cL_acts 746 = .ok (.iload 13, 2) := by decide +kernel
theorem dL_acts_748 : decode cL_acts 748 = .ok (.invokevirtual 67, 3) := by decide +kernel
theorem dL_acts_751 : decode cL_acts 751 = .ok (.iload 9, 2) := by decide +kernel
theorem dL_acts_753 : decode cL_acts 753 = .ok (.if_icmp .ne 31, 3) := by decide +kernel
theorem dL_acts_756 : decode cL_acts 756 = .ok (.aload_n 3, 1) := by decide +kernel
theorem dL_acts_757 : decode cL_acts 757 = .ok (.bipush 6, 2) := by decide +kernel
theorem dL_acts_759 : decode cL_acts 759 = .ok (.iload 13, 2) := by decide +kernel
theorem dL_acts_761 : decode cL_acts 761 = .ok (.imul, 1) := by decide +kernel
theorem dL_acts_762 : decode cL_acts 762 = .ok (.iconst 2, 1) := by decide +kernel
theorem dL_acts_763 : decode cL_acts 763 = .ok (.iadd, 1) := by decide +kernel
theorem dL_acts_764 : decode cL_acts 764 = .ok (.iaload, 1) := by decide +kernel
theorem dL_acts_765 : decode cL_acts 765 = .ok (.iconst 1, 1) := by decide +kernel
theorem dL_acts_766 : decode cL_acts 766 = .ok (.if_icmp .eq 14, 3) := by decide +kernel
theorem dL_acts_769 : decode cL_acts 769 = .ok (.aload_n 0, 1) := by decide +kernel
theorem dL_acts_770 : decode cL_acts 770 = .ok (.iload 13, 2) := by decide +kernel
theorem dL_acts_772 : decode cL_acts 772 = .ok (.invokevirtual 70, 3) := by decide +kernel
theorem dL_acts_775 : decode cL_acts 775 = .ok (.iload 9, 2) := by decide +kernel
theorem dL_acts_777 : decode cL_acts 777 = .ok (.if_icmp .ne 7, 3) := by decide +kernel
theorem dL_acts_780 : decode cL_acts 780 = .ok (.iconst 1, 1) := by decide +kernel
theorem dL_acts_781 : decode cL_acts 781 = .ok (.goto 4, 3) := by decide +kernel
theorem dL_acts_784 : decode cL_acts 784 = .ok (.iconst 0, 1) := by decide +kernel
