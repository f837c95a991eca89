theorem dX2_tellNumber_113 : decode cX2_tellNumber 113 = .ok (.ireturn, 1) := by decide +kernel
theorem dX2_tellNumber_114 : decode cX2_tellNumber 114 = .ok (.aload_n 0, 1) := by decide +kernel
theorem dX2_tellNumber_115 : decode cX2_tellNumber 115 = .ok (.invokevirtual 89, 3) := by decide +kernel
theorem dX2_tellNumber_118 : decode cX2_tellNumber 118 = .ok (.ireturn, 1) := by decide +kernel
theorem dX2_tellNumber_119 : decode cX2_tellNumber 119 = .ok (.ldc 104, 2) := by decide +kernel
theorem dX2_tellNumber_121 : decode cX2_tellNumber 121 = .ok (.ireturn, 1) := by decide +kernel
theorem dX3_init_0 : decode cX3_init 0 = .ok (.aload_n 0, 1) := by decide +kernel
theorem dX3_init_1 : decode cX3_init 1 = .ok (.invokespecial 3, 3) := by decide +kernel
theorem dX3_init_4 : decode cX3_init 4 = .ok (.aload_n 0, 1) := by decide +kernel
theorem dX3_init_5 : decode cX3_init 5 = .ok (.bipush 80, 2) := by decide +kernel
theorem dX3_init_7 : decode cX3_init 7 = .ok (.newarray .char, 2) := by decide +kernel
theorem dX3_init_9 : decode cX3_init 9 = .ok (.putfield 9, 3) := by decide +kernel
theorem dX3_init_12 : decode cX3_init 12 = .ok (.return_, 1) := by decide +kernel
theorem dX3_append_0 : decode cX3_append 0 = .ok (.aload_n 0, 1) := by decide +kernel
theorem dX3_append_1 : decode cX3_append 1 = .ok (.getfield 15, 3) := by decide +kernel
theorem dX3_append_4 : decode cX3_append 4 = .ok (.ifCond .lt 12, 3) := by decide +kernel
theorem dX3_append_7 : decode cX3_append 7 = .ok (.aload_n 0, 1) := by decide +kernel
theorem dX3_append_8 : decode cX3_append 8 = .ok (.getfield 15, 3) := by decide +kernel
theorem dX3_append_11 : decode cX3_append 11 = .ok (.bipush 80, 2) := by decide +kernel
theorem dX3_append_13 : decode cX3_append 13 = .ok (.if_icmp .lt 6, 3) := by decide +kernel
theorem dX3_append_16 : decode cX3_append 16 = .ok (.ldc 19, 2) := by decide +kernel
theorem dX3_append_18 : decode cX3_append 18 = .ok (.ireturn, 1) := by decide +kernel
theorem dX3_append_19 : decode cX3_append 19 = .ok (.aload_n 0, 1) := by decide +kernel
theorem dX3_append_20 : decode cX3_append 20 = .ok (.getfield 9, 3) := by decide +kernel
theorem dX3_append_23 : decode cX3_append 23 = .ok (.aload_n 0, 1) := by decide +kernel
theorem dX3_append_24 : decode cX3_append 24 = .ok (.getfield 15, 3) := by decide +kernel
theorem dX3_append_27 : decode cX3_append 27 = .ok (.iload_n 1, 1) := by decide +kernel
theorem dX3_append_28 : decode cX3_append 28 = .ok (.castore, 1) := by decide +kernel
theorem dX3_append_29 : decode cX3_append 29 = .ok (.aload_n 0, 1) := by decide +kernel
theorem dX3_append_30 : decode cX3_append 30 = .ok (.dup, 1) := by decide +kernel
theorem dX3_append_31 : decode cX3_append 31 = .ok (.getfield 15, 3) := by decide +kernel
theorem dX3_append_34 : decode cX3_append 34 = .ok (.iconst 1, 1) := by decide +kernel
theorem dX3_append_35 : decode cX3_append 35 = .ok (.iadd, 1) := by decide +kernel
theorem dX3_append_36 : decode cX3_append 36 = .ok (.putfield 15, 3) := by decide +kernel
theorem dX3_append_39 : decode cX3_append 39 = .ok (.aload_n 0, 1) := by decide +kernel
theorem dX3_append_40 : decode cX3_append 40 = .ok (.getfield 15, 3) := by decide +kernel
theorem dX3_append_43 : decode cX3_append 43 = .ok (.ireturn, 1) := by decide +kernel
theorem dX3_empty_0 : decode cX3_empty 0 = .ok (.aload_n 0, 1) := by decide +kernel
theorem dX3_empty_1 : decode cX3_empty 1 = .ok (.getfield 15, 3) := by decide +kernel
theorem dX3_empty_4 : decode cX3_empty 4 = .ok (.istore_n 1, 1) := by decide +kernel
theorem dX3_empty_5 : decode cX3_empty 5 = .ok (.aload_n 0, 1) := by decide +kernel
theorem dX3_empty_6 : decode cX3_empty 6 = .ok (.iconst 0, 1) := by decide +kernel
theorem dX3_empty_7 : decode cX3_empty 7 = .ok (.putfield 15, 3) := by decide +kernel
theorem dX3_empty_10 : decode cX3_empty 10 = .ok (.iload_n 1, 1) := by decide +kernel
theorem dX3_empty_11 : decode cX3_empty 11 = .ok (.ireturn, 1) := by decide +kernel
theorem dX3_readOrder_0 : decode cX3_readOrder 0 = .ok (.aload_n 0, 1) := by decide +kernel
theorem dX3_readOrder_1 : decode cX3_readOrder 1 = .ok (.getfield 20, 3) := by decide +kernel
theorem dX3_readOrder_4 : decode cX3_readOrder 4 = .ok (.istore_n 1, 1) := by decide +kernel
theorem dX3_readOrder_5 : decode cX3_readOrder 5 = .ok (.aload_n 0, 1) := by decide +kernel
theorem dX3_readOrder_6 : decode cX3_readOrder 6 = .ok (.invokevirtual 23, 3) := by decide +kernel
theorem dX3_readOrder_9 : decode cX3_readOrder 9 = .ok (.ifCond .eq 21, 3) := by decide +kernel
theorem dX3_readOrder_12 : decode cX3_readOrder 12 = .ok (.aload_n 0, 1) := by decide +kernel
theorem dX3_readOrder_13 : decode cX3_readOrder 13 = .ok (.invokevirtual 27, 3) := by decide +kernel
theorem dX3_readOrder_16 : decode cX3_readOrder 16 = .ok (.ifCond .eq 14, 3) := by decide +kernel
theorem dX3_readOrder_19 : decode cX3_readOrder 19 = .ok (.aload_n 0, 1) := by decide +kernel
theorem dX3_readOrder_20 : decode cX3_readOrder 20 = .ok (.bipush 59, 2) := by decide +kernel
theorem dX3_readOrder_22 : decode cX3_readOrder 22 = .ok (.invokevirtual 30, 3) := by decide +kernel
theorem dX3_readOrder_25 : decode cX3_readOrder 25 = .ok (.ifCond .eq 5, 3) := by decide +kernel
theorem dX3_readOrder_28 : decode cX3_readOrder 28 = .ok (.iconst 1, 1) := by decide +kernel
theorem dX3_readOrder_29 : decode cX3_readOrder 29 = .ok (.ireturn, 1) := by decide +kernel
theorem dX3_readOrder_30 : decode cX3_readOrder 30 = .ok (.aload_n 0, 1) := by decide +kernel
theorem dX3_readOrder_31 : decode cX3_readOrder 31 = .ok (.aload_n 0, 1) := by decide +kernel
theorem dX3_readOrder_32 : decode cX3_readOrder 32 = .ok (.getfield 20, 3) := by decide +kernel
theorem dX3_readOrder_35 : decode cX3_readOrder 35 = .ok (.iload_n 1, 1) := by decide +kernel
theorem dX3_readOrder_36 : decode cX3_readOrder 36 = .ok (.isub, 1) := by decide +kernel
theorem dX3_readOrder_37 : decode cX3_readOrder 37 = .ok (.putfield 34, 3) := by decide +kernel
theorem dX3_readOrder_40 : decode cX3_readOrder 40 = .ok (.iconst 0, 1) := by decide +kernel
theorem dX3_readOrder_41 : decode cX3_readOrder 41 = .ok (.ireturn, 1) := by decide +kernel
theorem dX3_sign_0 : decode cX3_sign 0 = .ok (.aload_n 0, 1) := by decide +kernel
theorem dX3_sign_1 : decode cX3_sign 1 = .ok (.getfield 20, 3) := by decide +kernel
theorem dX3_sign_4 : decode cX3_sign 4 = .ok (.ifCond .lt 35, 3) := by decide +kernel
theorem dX3_sign_7 : decode cX3_sign 7 = .ok (.aload_n 0, 1) := by decide +kernel
theorem dX3_sign_8 : decode cX3_sign 8 = .ok (.getfield 20, 3) := by decide +kernel
theorem dX3_sign_11 : decode cX3_sign 11 = .ok (.aload_n 0, 1) := by decide +kernel
theorem dX3_sign_12 : decode cX3_sign 12 = .ok (.getfield 15, 3) := by decide +kernel
theorem dX3_sign_15 : decode cX3_sign 15 = .ok (.if_icmp .ge 24, 3) := by decide +kernel
theorem dX3_sign_18 : decode cX3_sign 18 = .ok (.aload_n 0, 1) := by decide +kernel
theorem dX3_sign_19 : decode cX3_sign 19 = .ok (.getfield 20, 3) := by decide +kernel
theorem dX3_sign_22 : decode cX3_sign 22 = .ok (.bipush 80, 2) := by decide +kernel
theorem dX3_sign_24 : decode cX3_sign 24 = .ok (.if_icmp .ge 15, 3) := by decide +kernel
theorem dX3_sign_27 : decode cX3_sign 27 = .ok (.aload_n 0, 1) := by decide +kernel
theorem dX3_sign_28 : decode cX3_sign 28 = .ok (.getfield 9, 3) := by decide +kernel
theorem dX3_sign_31 : decode cX3_sign 31 = .ok (.aload_n 0, 1) := by decide +kernel
theorem dX3_sign_32 : decode cX3_sign 32 = .ok (.getfield 20, 3) := by decide +kernel
theorem dX3_sign_35 : decode cX3_sign 35 = .ok (.caload, 1) := by decide +kernel
theorem dX3_sign_36 : decode cX3_sign 36 = .ok (.goto 4, 3) := by decide +kernel
theorem dX3_sign_39 : decode cX3_sign 39 = .ok (.iconst 0, 1) := by decide +kernel
theorem dX3_sign_40 : decode cX3_sign 40 = .ok (.ireturn, 1) := by decide +kernel
theorem dX3_readLetter_0 : decode cX3_readLetter 0 = .ok (.aload_n 0, 1) := by decide +kernel
theorem dX3_readLetter_1 : decode cX3_readLetter 1 = .ok (.aload_n 0, 1) := by decide +kernel
theorem dX3_readLetter_2 : decode cX3_readLetter 2 = .ok (.invokevirtual 37, 3) := by decide +kernel
theorem dX3_readLetter_5 : decode cX3_readLetter 5 = .ok (.putfield 41, 3) := by decide +kernel
theorem dX3_readLetter_8 : decode cX3_readLetter 8 = .ok (.aload_n 0, 1) := by decide +kernel
theorem dX3_readLetter_9 : decode cX3_readLetter 9 = .ok (.getfield 41, 3) := by decide +kernel
theorem dX3_readLetter_12 : decode cX3_readLetter 12 = .ok (.tableswitch 120 98 120 #[108, 108, 120, 120, 120, 120, 120, 120, 120, 120, 120, 120, 120, 108, 120, 120, 108, 108, 108, 120, 120, 108, 108], 108) := by decide +kernel
theorem dX3_readLetter_120 : decode cX3_readLetter 120 = .ok (.aload_n 0, 1) := by decide +kernel
theorem dX3_readLetter_121 : decode cX3_readLetter 121 = .ok (.dup, 1) := by decide +kernel
theorem dX3_readLetter_122 : decode cX3_readLetter 122 = .ok (.getfield 20, 3) := by decide +kernel
theorem dX3_readLetter_125 : decode cX3_readLetter 125 = .ok (.iconst 1, 1) := by decide +kernel
theorem dX3_readLetter_126 : decode cX3_readLetter 126 = .ok (.iadd, 1) := by decide +kernel
theorem dX3_readLetter_127 : decode cX3_readLetter 127 = .ok (.putfield 20, 3) := by decide +kernel
theorem dX3_readLetter_130 : decode cX3_readLetter 130 = .ok (.iconst 1, 1) := by decide +kernel
theorem dX3_readLetter_131 : decode cX3_readLetter 131 = .ok (.ireturn, 1) := by decide +kernel
theorem dX3_readLetter_132 : decode cX3_readLetter 132 = .ok (.iconst 0, 1) := by decide +kernel
theorem dX3_readLetter_133 : decode cX3_readLetter 133 = .ok (.ireturn, 1) := by decide +kernel
theorem dX3_readArguments_0 : decode cX3_readArguments 0 = .ok (.aload_n 0, 1) := by decide +kernel
theorem dX3_readArguments_1 : decode cX3_readArguments 1 = .ok (.getfield 41, 3) := by decide +kernel
theorem dX3_readArguments_4 : decode cX3_readArguments 4 = .ok (.bipush 99, 2) := by decide +kernel
theorem dX3_readArguments_6 : decode cX3_readArguments 6 = .ok (.if_icmp .eq 21, 3) := by decide +kernel
theorem dX3_readArguments_9 : decode cX3_readArguments 9 = .ok (.aload_n 0, 1) := by decide +kernel
theorem dX3_readArguments_10 : decode cX3_readArguments 10 = .ok (.getfield 41, 3) := by decide +kernel
theorem dX3_readArguments_13 : decode cX3_readArguments 13 = .ok (.bipush 120, 2) := by decide +kernel
theorem dX3_readArguments_15 : decode cX3_readArguments 15 = .ok (.if_icmp .eq 12, 3) := by decide +kernel
theorem dX3_readArguments_18 : decode cX3_readArguments 18 = .ok (.aload_n 0, 1) := by decide +kernel
theorem dX3_readArguments_19 : decode cX3_readArguments 19 = .ok (.getfield 41, 3) := by decide +kernel
theorem dX3_readArguments_22 : decode cX3_readArguments 22 = .ok (.bipush 114, 2) := by decide +kernel
theorem dX3_readArguments_24 : decode cX3_readArguments 24 = .ok (.if_icmp .ne 5, 3) := by decide +kernel
theorem dX3_readArguments_27 : decode cX3_readArguments 27 = .ok (.iconst 1, 1) := by decide +kernel
theorem dX3_readArguments_28 : decode cX3_readArguments 28 = .ok (.ireturn, 1) := by decide +kernel
theorem dX3_readArguments_29 : decode cX3_readArguments 29 = .ok (.aload_n 0, 1) := by decide +kernel
theorem dX3_readArguments_30 : decode cX3_readArguments 30 = .ok (.aload_n 0, 1) := by decide +kernel
theorem dX3_readArguments_31 : decode cX3_readArguments 31 = .ok (.invokevirtual 44, 3) := by decide +kernel
theorem dX3_readArguments_34 : decode cX3_readArguments 34 = .ok (.putfield 47, 3) := by decide +kernel
theorem dX3_readArguments_37 : decode cX3_readArguments 37 = .ok (.aload_n 0, 1) := by decide +kernel
theorem dX3_readArguments_38 : decode cX3_readArguments 38 = .ok (.getfield 47, 3) := by decide +kernel
theorem dX3_readArguments_41 : decode cX3_readArguments 41 = .ok (.ifCond .lt 12, 3) := by decide +kernel
theorem dX3_readArguments_44 : decode cX3_readArguments 44 = .ok (.aload_n 0, 1) := by decide +kernel
theorem dX3_readArguments_45 : decode cX3_readArguments 45 = .ok (.getfield 41, 3) := by decide +kernel
theorem dX3_readArguments_48 : decode cX3_readArguments 48 = .ok (.bipush 119, 2) := by decide +kernel
theorem dX3_readArguments_50 : decode cX3_readArguments 50 = .ok (.if_icmp .eq 16, 3) := by decide +kernel
theorem dX3_readArguments_53 : decode cX3_readArguments 53 = .ok (.aload_n 0, 1) := by decide +kernel
theorem dX3_readArguments_54 : decode cX3_readArguments 54 = .ok (.getfield 47, 3) := by decide +kernel
theorem dX3_readArguments_57 : decode cX3_readArguments 57 = .ok (.ifCond .lt 7, 3) := by decide +kernel
theorem dX3_readArguments_60 : decode cX3_readArguments 60 = .ok (.iconst 1, 1) := by decide +kernel
theorem dX3_readArguments_61 : decode cX3_readArguments 61 = .ok (.goto 4, 3) := by decide +kernel
theorem dX3_readArguments_64 : decode cX3_readArguments 64 = .ok (.iconst 0, 1) := by decide +kernel
theorem dX3_readArguments_65 : decode cX3_readArguments 65 = .ok (.ireturn, 1) := by decide +kernel
theorem dX3_readArguments_66 : decode cX3_readArguments 66 = .ok (.aload_n 0, 1) := by decide +kernel
theorem dX3_readArguments_67 : decode cX3_readArguments 67 = .ok (.bipush 44, 2) := by decide +kernel
theorem dX3_readArguments_69 : decode cX3_readArguments 69 = .ok (.invokevirtual 30, 3) := by decide +kernel
theorem dX3_readArguments_72 : decode cX3_readArguments 72 = .ok (.ifCond .ne 5, 3) := by decide +kernel
theorem dX3_readArguments_75 : decode cX3_readArguments 75 = .ok (.iconst 0, 1) := by decide +kernel
theorem dX3_readArguments_76 : decode cX3_readArguments 76 = .ok (.ireturn, 1) := by decide +kernel
theorem dX3_readArguments_77 : decode cX3_readArguments 77 = .ok (.aload_n 0, 1) := by decide +kernel
theorem dX3_readArguments_78 : decode cX3_readArguments 78 = .ok (.aload_n 0, 1) := by decide +kernel
theorem dX3_readArguments_79 : decode cX3_readArguments 79 = .ok (.invokevirtual 44, 3) := by decide +kernel
theorem dX3_readArguments_82 : decode cX3_readArguments 82 = .ok (.putfield 50, 3) := by decide +kernel
theorem dX3_readArguments_85 : decode cX3_readArguments 85 = .ok (.aload_n 0, 1) := by decide +kernel
theorem dX3_readArguments_86 : decode cX3_readArguments 86 = .ok (.getfield 50, 3) := by decide +kernel
theorem dX3_readArguments_89 : decode cX3_readArguments 89 = .ok (.ifCond .lt 23, 3) := by decide +kernel
theorem dX3_readArguments_92 : decode cX3_readArguments 92 = .ok (.aload_n 0, 1) := by decide +kernel
theorem dX3_readArguments_93 : decode cX3_readArguments 93 = .ok (.bipush 44, 2) := by decide +kernel
theorem dX3_readArguments_95 : decode cX3_readArguments 95 = .ok (.invokevirtual 30, 3) := by decide +kernel
theorem dX3_readArguments_98 : decode cX3_readArguments 98 = .ok (.ifCond .eq 14, 3) := by decide +kernel
theorem dX3_readArguments_101 : decode cX3_readArguments 101 = .ok (.aload_n 0, 1) := by decide +kernel
theorem dX3_readArguments_102 : decode cX3_readArguments 102 = .ok (.invokevirtual 53, 3) := by decide +kernel
theorem dX3_readArguments_105 : decode cX3_readArguments 105 = .ok (.ifCond .eq 7, 3) := by decide +kernel
theorem dX3_readArguments_108 : decode cX3_readArguments 108 = .ok (.iconst 1, 1) := by decide +kernel
theorem dX3_readArguments_109 : decode cX3_readArguments 109 = .ok (.goto 4, 3) := by decide +kernel
theorem dX3_readArguments_112 : decode cX3_readArguments 112 = .ok (.iconst 0, 1) := by decide +kernel
theorem dX3_readArguments_113 : decode cX3_readArguments 113 = .ok (.ireturn, 1) := by decide +kernel
theorem dX3_readValue_0 : decode cX3_readValue 0 = .ok (.aload_n 0, 1) := by decide +kernel
theorem dX3_readValue_1 : decode cX3_readValue 1 = .ok (.aload_n 0, 1) := by decide +kernel
theorem dX3_readValue_2 : decode cX3_readValue 2 = .ok (.invokevirtual 44, 3) := by decide +kernel
theorem dX3_readValue_5 : decode cX3_readValue 5 = .ok (.putfield 56, 3) := by decide +kernel
theorem dX3_readValue_8 : decode cX3_readValue 8 = .ok (.aload_n 0, 1) := by decide +kernel
theorem dX3_readValue_9 : decode cX3_readValue 9 = .ok (.getfield 56, 3) := by decide +kernel
theorem dX3_readValue_12 : decode cX3_readValue 12 = .ok (.ifCond .ge 5, 3) := by decide +kernel
theorem dX3_readValue_15 : decode cX3_readValue 15 = .ok (.iconst 0, 1) := by decide +kernel
theorem dX3_readValue_16 : decode cX3_readValue 16 = .ok (.ireturn, 1) := by decide +kernel
theorem dX3_readValue_17 : decode cX3_readValue 17 = .ok (.aload_n 0, 1) := by decide +kernel
theorem dX3_readValue_18 : decode cX3_readValue 18 = .ok (.invokevirtual 44, 3) := by decide +kernel
theorem dX3_readValue_21 : decode cX3_readValue 21 = .ok (.istore_n 1, 1) := by decide +kernel
theorem dX3_readValue_22 : decode cX3_readValue 22 = .ok (.iload_n 1, 1) := by decide +kernel
theorem dX3_readValue_23 : decode cX3_readValue 23 = .ok (.ifCond .lt 16, 3) := by decide +kernel
theorem dX3_readValue_26 : decode cX3_readValue 26 = .ok (.aload_n 0, 1) := by decide +kernel
theorem dX3_readValue_27 : decode cX3_readValue 27 = .ok (.aload_n 0, 1) := by decide +kernel
theorem dX3_readValue_28 : decode cX3_readValue 28 = .ok (.getfield 56, 3) := by decide +kernel
theorem dX3_readValue_31 : decode cX3_readValue 31 = .ok (.bipush 10, 2) := by decide +kernel
theorem dX3_readValue_33 : decode cX3_readValue 33 = .ok (.imul, 1) := by decide +kernel
theorem dX3_readValue_34 : decode cX3_readValue 34 = .ok (.iload_n 1, 1) := by decide +kernel
theorem dX3_readValue_35 : decode cX3_readValue 35 = .ok (.iadd, 1) := by decide +kernel
theorem dX3_readValue_36 : decode cX3_readValue 36 = .ok (.putfield 56, 3) := by decide +kernel
theorem dX3_readValue_39 : decode cX3_readValue 39 = .ok (.iconst 1, 1) := by decide +kernel
theorem dX3_readValue_40 : decode cX3_readValue 40 = .ok (.ireturn, 1) := by decide +kernel
theorem dX3_readDigit_0 : decode cX3_readDigit 0 = .ok (.aload_n 0, 1) := by decide +kernel
theorem dX3_readDigit_1 : decode cX3_readDigit 1 = .ok (.invokevirtual 37, 3) := by decide +kernel
theorem dX3_readDigit_4 : decode cX3_readDigit 4 = .ok (.istore_n 1, 1) := by decide +kernel
theorem dX3_readDigit_5 : decode cX3_readDigit 5 = .ok (.iload_n 1, 1) := by decide +kernel
theorem dX3_readDigit_6 : decode cX3_readDigit 6 = .ok (.bipush 48, 2) := by decide +kernel
theorem dX3_readDigit_8 : decode cX3_readDigit 8 = .ok (.if_icmp .lt 9, 3) := by decide +kernel
theorem dX3_readDigit_11 : decode cX3_readDigit 11 = .ok (.iload_n 1, 1) := by decide +kernel
theorem dX3_readDigit_12 : decode cX3_readDigit 12 = .ok (.bipush 57, 2) := by decide +kernel
theorem dX3_readDigit_14 : decode cX3_readDigit 14 = .ok (.if_icmp .le 5, 3) := by decide +kernel
theorem dX3_readDigit_17 : decode cX3_readDigit 17 = .ok (.iconst (-1), 1) := by decide +kernel
theorem dX3_readDigit_18 : decode cX3_readDigit 18 = .ok (.ireturn, 1) := by decide +kernel
theorem dX3_readDigit_19 : decode cX3_readDigit 19 = .ok (.aload_n 0, 1) := by decide +kernel
theorem dX3_readDigit_20 : decode cX3_readDigit 20 = .ok (.dup, 1) := by decide +kernel
theorem dX3_readDigit_21 : decode cX3_readDigit 21 = .ok (.getfield 20, 3) := by decide +kernel
theorem dX3_readDigit_24 : decode cX3_readDigit 24 = .ok (.iconst 1, 1) := by decide +kernel
theorem dX3_readDigit_25 : decode cX3_readDigit 25 = .ok (.iadd, 1) := by decide +kernel
theorem dX3_readDigit_26 : decode cX3_readDigit 26 = .ok (.putfield 20, 3) := by decide +kernel
theorem dX3_readDigit_29 : decode cX3_readDigit 29 = .ok (.iload_n 1, 1) := by decide +kernel
theorem dX3_readDigit_30 : decode cX3_readDigit 30 = .ok (.bipush 48, 2) := by decide +kernel
theorem dX3_readDigit_32 : decode cX3_readDigit 32 = .ok (.isub, 1) := by decide +kernel
theorem dX3_readDigit_33 : decode cX3_readDigit 33 = .ok (.ireturn, 1) := by decide +kernel
theorem dX3_readSign_0 : decode cX3_readSign 0 = .ok (.aload_n 0, 1) := by decide +kernel
theorem dX3_readSign_1 : decode cX3_readSign 1 = .ok (.invokevirtual 37, 3) := by decide +kernel
theorem dX3_readSign_4 : decode cX3_readSign 4 = .ok (.iload_n 1, 1) := by decide +kernel
theorem dX3_readSign_5 : decode cX3_readSign 5 = .ok (.if_icmp .eq 5, 3) := by decide +kernel
theorem dX3_readSign_8 : decode cX3_readSign 8 = .ok (.iconst 0, 1) := by decide +kernel
theorem dX3_readSign_9 : decode cX3_readSign 9 = .ok (.ireturn, 1) := by decide +kernel
theorem dX3_readSign_10 : decode cX3_readSign 10 = .ok (.aload_n 0, 1) := by decide +kernel
theorem dX3_readSign_11 : decode cX3_readSign 11 = .ok (.dup, 1) := by decide +kernel
theorem dX3_readSign_12 : decode cX3_readSign 12 = .ok (.getfield 20, 3) := by decide +kernel
theorem dX3_readSign_15 : decode cX3_readSign 15 = .ok (.iconst 1, 1) := by decide +kernel
theorem dX3_readSign_16 : decode cX3_readSign 16 = .ok (.iadd, 1) := by decide +kernel
theorem dX3_readSign_17 : decode cX3_readSign 17 = .ok (.putfield 20, 3) := by decide +kernel
theorem dX3_readSign_20 : decode cX3_readSign 20 = .ok (.iconst 1, 1) := by decide +kernel
theorem dX3_readSign_21 : decode cX3_readSign 21 = .ok (.ireturn, 1) := by decide +kernel
theorem dX4_init_0 : decode cX4_init 0 = .ok (.aload_n 0, 1) := by decide +kernel
theorem dX4_init_1 : decode cX4_init 1 = .ok (.invokespecial 3, 3) := by decide +kernel
theorem dX4_init_4 : decode cX4_init 4 = .ok (.aload_n 0, 1) := by decide +kernel
theorem dX4_init_5 : decode cX4_init 5 = .ok (.bipush 8, 2) := by decide +kernel
theorem dX4_init_7 : decode cX4_init 7 = .ok (.newarray .int, 2) := by decide +kernel
theorem dX4_init_9 : decode cX4_init 9 = .ok (.putfield 9, 3) := by decide +kernel
theorem dX4_init_12 : decode cX4_init 12 = .ok (.aload_n 0, 1) := by decide +kernel
theorem dX4_init_13 : decode cX4_init 13 = .ok (.bipush 8, 2) := by decide +kernel
theorem dX4_init_15 : decode cX4_init 15 = .ok (.newarray .int, 2) := by decide +kernel
theorem dX4_init_17 : decode cX4_init 17 = .ok (.putfield 15, 3) := by decide +kernel
theorem dX4_init_20 : decode cX4_init 20 = .ok (.aload_n 0, 1) := by decide +kernel
theorem dX4_init_21 : decode cX4_init 21 = .ok (.bipush 8, 2) := by decide +kernel
theorem dX4_init_23 : decode cX4_init 23 = .ok (.newarray .int, 2) := by decide +kernel
theorem dX4_init_25 : decode cX4_init 25 = .ok (.putfield 18, 3) := by decide +kernel
theorem dX4_init_28 : decode cX4_init 28 = .ok (.aload_n 0, 1) := by decide +kernel
theorem dX4_init_29 : decode cX4_init 29 = .ok (.bipush 8, 2) := by decide +kernel
theorem dX4_init_31 : decode cX4_init 31 = .ok (.newarray .int, 2) := by decide +kernel
theorem dX4_init_33 : decode cX4_init 33 = .ok (.putfield 21, 3) := by decide +kernel
theorem dX4_init_36 : decode cX4_init 36 = .ok (.aload_n 0, 1) := by decide +kernel
theorem dX4_init_37 : decode cX4_init 37 = .ok (.bipush 8, 2) := by decide +kernel
theorem dX4_init_39 : decode cX4_init 39 = .ok (.newarray .int, 2) := by decide +kernel
theorem dX4_init_41 : decode cX4_init 41 = .ok (.putfield 24, 3) := by decide +kernel
theorem dX4_init_44 : decode cX4_init 44 = .ok (.return_, 1) := by decide +kernel
theorem dX4_copyFrom_0 : decode cX4_copyFrom 0 = .ok (.aload_n 1, 1) := by decide +kernel
theorem dX4_copyFrom_1 : decode cX4_copyFrom 1 = .ok (.getfield 9, 3) := by decide +kernel
theorem dX4_copyFrom_4 : decode cX4_copyFrom 4 = .ok (.iconst 0, 1) := by decide +kernel
theorem dX4_copyFrom_5 : decode cX4_copyFrom 5 = .ok (.aload_n 0, 1) := by decide +kernel
theorem dX4_copyFrom_6 : decode cX4_copyFrom 6 = .ok (.getfield 9, 3) := by decide +kernel
theorem dX4_copyFrom_9 : decode cX4_copyFrom 9 = .ok (.iconst 0, 1) := by decide +kernel
theorem dX4_copyFrom_10 : decode cX4_copyFrom 10 = .ok (.bipush 8, 2) := by decide +kernel
theorem dX4_copyFrom_12 : decode cX4_copyFrom 12 = .ok (.invokestatic 27, 3) := by decide +kernel
theorem dX4_copyFrom_15 : decode cX4_copyFrom 15 = .ok (.aload_n 1, 1) := by decide +kernel
theorem dX4_copyFrom_16 : decode cX4_copyFrom 16 = .ok (.getfield 15, 3) := by decide +kernel
theorem dX4_copyFrom_19 : decode cX4_copyFrom 19 = .ok (.iconst 0, 1) := by decide +kernel
theorem dX4_copyFrom_20 : decode cX4_copyFrom 20 = .ok (.aload_n 0, 1) := by decide +kernel
theorem dX4_copyFrom_21 : decode cX4_copyFrom 21 = .ok (.getfield 15, 3) := by decide +kernel
theorem dX4_copyFrom_24 : decode cX4_copyFrom 24 = .ok (.iconst 0, 1) := by decide +kernel
theorem dX4_copyFrom_25 : decode cX4_copyFrom 25 = .ok (.bipush 8, 2) := by decide +kernel
theorem dX4_copyFrom_27 : decode cX4_copyFrom 27 = .ok (.invokestatic 27, 3) := by decide +kernel
theorem dX4_copyFrom_30 : decode cX4_copyFrom 30 = .ok (.aload_n 1, 1) := by decide +kernel
theorem dX4_copyFrom_31 : decode cX4_copyFrom 31 = .ok (.getfield 18, 3) := by decide +kernel
theorem dX4_copyFrom_34 : decode cX4_copyFrom 34 = .ok (.iconst 0, 1) := by decide +kernel
theorem dX4_copyFrom_35 : decode cX4_copyFrom 35 = .ok (.aload_n 0, 1) := by decide +kernel
theorem dX4_copyFrom_36 : decode cX4_copyFrom 36 = .ok (.getfield 18, 3) := by decide +kernel
theorem dX4_copyFrom_39 : decode cX4_copyFrom 39 = .ok (.iconst 0, 1) := by decide +kernel
theorem dX4_copyFrom_40 : decode cX4_copyFrom 40 = .ok (.bipush 8, 2) := by decide +kernel
theorem dX4_copyFrom_42 : decode cX4_copyFrom 42 = .ok (.invokestatic 27, 3) := by decide +kernel
theorem dX4_copyFrom_45 : decode cX4_copyFrom 45 = .ok (.aload_n 1, 1) := by decide +kernel
theorem dX4_copyFrom_46 : decode cX4_copyFrom 46 = .ok (.getfield 21, 3) := by decide +kernel
theorem dX4_copyFrom_49 : decode cX4_copyFrom 49 = .ok (.iconst 0, 1) := by decide +kernel
theorem dX4_copyFrom_50 : decode cX4_copyFrom 50 = .ok (.aload_n 0, 1) := by decide +kernel
theorem dX4_copyFrom_51 : decode cX4_copyFrom 51 = .ok (.getfield 21, 3) := by decide +kernel
theorem dX4_copyFrom_54 : decode cX4_copyFrom 54 = .ok (.iconst 0, 1) := by decide +kernel
theorem dX4_copyFrom_55 : decode cX4_copyFrom 55 = .ok (.bipush 8, 2) := by decide +kernel
theorem dX4_copyFrom_57 : decode cX4_copyFrom 57 = .ok (.invokestatic 27, 3) := by decide +kernel
theorem dX4_copyFrom_60 : decode cX4_copyFrom 60 = .ok (.aload_n 1, 1) := by decide +kernel
theorem dX4_copyFrom_61 : decode cX4_copyFrom 61 = .ok (.getfield 24, 3) := by decide +kernel
theorem dX4_copyFrom_64 : decode cX4_copyFrom 64 = .ok (.iconst 0, 1) := by decide +kernel
theorem dX4_copyFrom_65 : decode cX4_copyFrom 65 = .ok (.aload_n 0, 1) := by decide +kernel
theorem dX4_copyFrom_66 : decode cX4_copyFrom 66 = .ok (.getfield 24, 3) := by decide +kernel
theorem dX4_copyFrom_69 : decode cX4_copyFrom 69 = .ok (.iconst 0, 1) := by decide +kernel
theorem dX4_copyFrom_70 : decode cX4_copyFrom 70 = .ok (.bipush 8, 2) := by decide +kernel
theorem dX4_copyFrom_72 : decode cX4_copyFrom 72 = .ok (.invokestatic 27, 3) := by decide +kernel
theorem dX4_copyFrom_75 : decode cX4_copyFrom 75 = .ok (.aload_n 0, 1) := by decide +kernel
theorem dX4_copyFrom_76 : decode cX4_copyFrom 76 = .ok (.aload_n 1, 1) := by decide +kernel
theorem dX4_copyFrom_77 : decode cX4_copyFrom 77 = .ok (.getfield 33, 3) := by decide +kernel
theorem dX4_copyFrom_80 : decode cX4_copyFrom 80 = .ok (.putfield 33, 3) := by decide +kernel
theorem dX4_copyFrom_83 : decode cX4_copyFrom 83 = .ok (.aload_n 0, 1) := by decide +kernel
theorem dX4_copyFrom_84 : decode cX4_copyFrom 84 = .ok (.aload_n 1, 1) := by decide +kernel
theorem dX4_copyFrom_85 : decode cX4_copyFrom 85 = .ok (.getfield 37, 3) := by decide +kernel
theorem dX4_copyFrom_88 : decode cX4_copyFrom 88 = .ok (.putfield 37, 3) := by decide +kernel
theorem dX4_copyFrom_91 : decode cX4_copyFrom 91 = .ok (.return_, 1) := by decide +kernel
theorem dX4_valueOf_0 : decode cX4_valueOf 0 = .ok (.iload_n 1, 1) := by decide +kernel
theorem dX4_valueOf_1 : decode cX4_valueOf 1 = .ok (.ifCond .lt 9, 3) := by decide +kernel
theorem dX4_valueOf_4 : decode cX4_valueOf 4 = .ok (.iload_n 1, 1) := by decide +kernel
theorem dX4_valueOf_5 : decode cX4_valueOf 5 = .ok (.bipush 8, 2) := by decide +kernel
theorem dX4_valueOf_7 : decode cX4_valueOf 7 = .ok (.if_icmp .lt 5, 3) := by decide +kernel
theorem dX4_valueOf_10 : decode cX4_valueOf 10 = .ok (.iconst 0, 1) := by decide +kernel
theorem dX4_valueOf_11 : decode cX4_valueOf 11 = .ok (.ireturn, 1) := by decide +kernel
theorem dX4_valueOf_12 : decode cX4_valueOf 12 = .ok (.aload_n 0, 1) := by decide +kernel
theorem dX4_valueOf_13 : decode cX4_valueOf 13 = .ok (.getfield 33, 3) := by decide +kernel
theorem dX4_valueOf_16 : decode cX4_valueOf 16 = .ok (.iload_n 1, 1) := by decide +kernel
theorem dX4_valueOf_17 : decode cX4_valueOf 17 = .ok (.ishr, 1) := by decide +kernel
theorem dX4_valueOf_18 : decode cX4_valueOf 18 = .ok (.iconst 1, 1) := by decide +kernel
theorem dX4_valueOf_19 : decode cX4_valueOf 19 = .ok (.iand, 1) := by decide +kernel
theorem dX4_valueOf_20 : decode cX4_valueOf 20 = .ok (.iconst 1, 1) := by decide +kernel
theorem dX4_valueOf_21 : decode cX4_valueOf 21 = .ok (.if_icmp .ne 12, 3) := by decide +kernel
theorem dX4_valueOf_24 : decode cX4_valueOf 24 = .ok (.aload_n 0, 1) := by decide +kernel
theorem dX4_valueOf_25 : decode cX4_valueOf 25 = .ok (.getfield 18, 3) := by decide +kernel
theorem dX4_valueOf_28 : decode cX4_valueOf 28 = .ok (.iload_n 1, 1) := by decide +kernel
theorem dX4_valueOf_29 : decode cX4_valueOf 29 = .ok (.iaload, 1) := by decide +kernel
theorem dX4_valueOf_30 : decode cX4_valueOf 30 = .ok (.goto 9, 3) := by decide +kernel
theorem dX4_valueOf_33 : decode cX4_valueOf 33 = .ok (.aload_n 0, 1) := by decide +kernel
theorem dX4_valueOf_34 : decode cX4_valueOf 34 = .ok (.getfield 9, 3) := by decide +kernel
theorem dX4_valueOf_37 : decode cX4_valueOf 37 = .ok (.iload_n 1, 1) := by decide +kernel
theorem dX4_valueOf_38 : decode cX4_valueOf 38 = .ok (.iaload, 1) := by decide +kernel
theorem dX4_valueOf_39 : decode cX4_valueOf 39 = .ok (.ireturn, 1) := by decide +kernel
theorem dX4_markOf_0 : decode cX4_markOf 0 = .ok (.iload_n 1, 1) := by decide +kernel
theorem dX4_markOf_1 : decode cX4_markOf 1 = .ok (.ifCond .lt 9, 3) := by decide +kernel
theorem dX4_markOf_4 : decode cX4_markOf 4 = .ok (.iload_n 1, 1) := by decide +kernel
theorem dX4_markOf_5 : decode cX4_markOf 5 = .ok (.bipush 8, 2) := by decide +kernel
theorem dX4_markOf_7 : decode cX4_markOf 7 = .ok (.if_icmp .lt 5, 3) := by decide +kernel
theorem dX4_markOf_10 : decode cX4_markOf 10 = .ok (.iconst 0, 1) := by decide +kernel
theorem dX4_markOf_11 : decode cX4_markOf 11 = .ok (.ireturn, 1) := by decide +kernel
theorem dX4_markOf_12 : decode cX4_markOf 12 = .ok (.aload_n 0, 1) := by decide +kernel
theorem dX4_markOf_13 : decode cX4_markOf 13 = .ok (.getfield 33, 3) := by decide +kernel
theorem dX4_markOf_16 : decode cX4_markOf 16 = .ok (.iload_n 1, 1) := by decide +kernel
theorem dX4_markOf_17 : decode cX4_markOf 17 = .ok (.ishr, 1) := by decide +kernel
theorem dX4_markOf_18 : decode cX4_markOf 18 = .ok (.iconst 1, 1) := by decide +kernel
theorem dX4_markOf_19 : decode cX4_markOf 19 = .ok (.iand, 1) := by decide +kernel
theorem dX4_markOf_20 : decode cX4_markOf 20 = .ok (.iconst 1, 1) := by decide +kernel
theorem dX4_markOf_21 : decode cX4_markOf 21 = .ok (.if_icmp .ne 12, 3) := by decide +kernel
theorem dX4_markOf_24 : decode cX4_markOf 24 = .ok (.aload_n 0, 1) := by decide +kernel
theorem dX4_markOf_25 : decode cX4_markOf 25 = .ok (.getfield 21, 3) := by decide +kernel
theorem dX4_markOf_28 : decode cX4_markOf 28 = .ok (.iload_n 1, 1) := by decide +kernel
theorem dX4_markOf_29 : decode cX4_markOf 29 = .ok (.iaload, 1) := by decide +kernel
theorem dX4_markOf_30 : decode cX4_markOf 30 = .ok (.goto 9, 3) := by decide +kernel
theorem dX4_markOf_33 : decode cX4_markOf 33 = .ok (.aload_n 0, 1) := by decide +kernel
theorem dX4_markOf_34 : decode cX4_markOf 34 = .ok (.getfield 15, 3) := by decide +kernel
theorem dX4_markOf_37 : decode cX4_markOf 37 = .ok (.iload_n 1, 1) := by decide +kernel
theorem dX4_markOf_38 : decode cX4_markOf 38 = .ok (.iaload, 1) := by decide +kernel
theorem dX4_markOf_39 : decode cX4_markOf 39 = .ok (.ireturn, 1) := by decide +kernel
theorem dX4_startOf_0 : decode cX4_startOf 0 = .ok (.iload_n 1, 1) := by decide +kernel
theorem dX4_startOf_1 : decode cX4_startOf 1 = .ok (.ifCond .lt 30, 3) := by decide +kernel
theorem dX4_startOf_4 : decode cX4_startOf 4 = .ok (.iload_n 1, 1) := by decide +kernel
theorem dX4_startOf_5 : decode cX4_startOf 5 = .ok (.bipush 8, 2) := by decide +kernel
theorem dX4_startOf_7 : decode cX4_startOf 7 = .ok (.if_icmp .ge 24, 3) := by decide +kernel
theorem dX4_startOf_10 : decode cX4_startOf 10 = .ok (.aload_n 0, 1) := by decide +kernel
theorem dX4_startOf_11 : decode cX4_startOf 11 = .ok (.getfield 37, 3) := by decide +kernel
theorem dX4_startOf_14 : decode cX4_startOf 14 = .ok (.iload_n 1, 1) := by decide +kernel
theorem dX4_startOf_15 : decode cX4_startOf 15 = .ok (.ishr, 1) := by decide +kernel
theorem dX4_startOf_16 : decode cX4_startOf 16 = .ok (.iconst 1, 1) := by decide +kernel
theorem dX4_startOf_17 : decode cX4_startOf 17 = .ok (.iand, 1) := by decide +kernel
theorem dX4_startOf_18 : decode cX4_startOf 18 = .ok (.iconst 1, 1) := by decide +kernel
theorem dX4_startOf_19 : decode cX4_startOf 19 = .ok (.if_icmp .ne 12, 3) := by decide +kernel
theorem dX4_startOf_22 : decode cX4_startOf 22 = .ok (.aload_n 0, 1) := by decide +kernel
theorem dX4_startOf_23 : decode cX4_startOf 23 = .ok (.getfield 24, 3) := by decide +kernel
theorem dX4_startOf_26 : decode cX4_startOf 26 = .ok (.iload_n 1, 1) := by decide +kernel
theorem dX4_startOf_27 : decode cX4_startOf 27 = .ok (.iaload, 1) := by decide +kernel
theorem dX4_startOf_28 : decode cX4_startOf 28 = .ok (.goto 5, 3) := by decide +kernel
theorem dX4_startOf_31 : decode cX4_startOf 31 = .ok (.ldc 40, 2) := by decide +kernel
theorem dX4_startOf_33 : decode cX4_startOf 33 = .ok (.ireturn, 1) := by decide +kernel
theorem dX4_put_0 : decode cX4_put 0 = .ok (.iload_n 1, 1) := by decide +kernel
theorem dX4_put_1 : decode cX4_put 1 = .ok (.ifCond .lt 9, 3) := by decide +kernel
theorem dX4_put_4 : decode cX4_put 4 = .ok (.iload_n 1, 1) := by decide +kernel
theorem dX4_put_5 : decode cX4_put 5 = .ok (.bipush 8, 2) := by decide +kernel
theorem dX4_put_7 : decode cX4_put 7 = .ok (.if_icmp .lt 4, 3) := by decide +kernel
theorem dX4_put_10 : decode cX4_put 10 = .ok (.return_, 1) := by decide +kernel
theorem dX4_put_11 : decode cX4_put 11 = .ok (.iconst 1, 1) := by decide +kernel
theorem dX4_put_12 : decode cX4_put 12 = .ok (.iload_n 1, 1) := by decide +kernel
theorem dX4_put_13 : decode cX4_put 13 = .ok (.ishl, 1) := by decide +kernel
theorem dX4_put_14 : decode cX4_put 14 = .ok (.istore 4, 2) := by decide +kernel
theorem dX4_put_16 : decode cX4_put 16 = .ok (.aload_n 0, 1) := by decide +kernel
theorem dX4_put_17 : decode cX4_put 17 = .ok (.getfield 37, 3) := by decide +kernel
theorem dX4_put_20 : decode cX4_put 20 = .ok (.iload 4, 2) := by decide +kernel
theorem dX4_put_22 : decode cX4_put 22 = .ok (.iand, 1) := by decide +kernel
theorem dX4_put_23 : decode cX4_put 23 = .ok (.ifCond .ne 10, 3) := by decide +kernel
theorem dX4_put_26 : decode cX4_put 26 = .ok (.aload_n 0, 1) := by decide +kernel
theorem dX4_put_27 : decode cX4_put 27 = .ok (.getfield 24, 3) := by decide +kernel
theorem dX4_put_30 : decode cX4_put 30 = .ok (.iload_n 1, 1) := by decide +kernel
theorem dX4_put_31 : decode cX4_put 31 = .ok (.iload_n 3, 1) := by decide +kernel
theorem dX4_put_32 : decode cX4_put 32 = .ok (.iastore, 1) := by decide +kernel
theorem dX4_put_33 : decode cX4_put 33 = .ok (.aload_n 0, 1) := by decide +kernel
theorem dX4_put_34 : decode cX4_put 34 = .ok (.getfield 18, 3) := by decide +kernel
theorem dX4_put_37 : decode cX4_put 37 = .ok (.iload_n 1, 1) := by decide +kernel
theorem dX4_put_38 : decode cX4_put 38 = .ok (.iload_n 2, 1) := by decide +kernel
theorem dX4_put_39 : decode cX4_put 39 = .ok (.iastore, 1) := by decide +kernel
theorem dX4_put_40 : decode cX4_put 40 = .ok (.aload_n 0, 1) := by decide +kernel
theorem dX4_put_41 : decode cX4_put 41 = .ok (.getfield 21, 3) := by decide +kernel
theorem dX4_put_44 : decode cX4_put 44 = .ok (.iload_n 1, 1) := by decide +kernel
theorem dX4_put_45 : decode cX4_put 45 = .ok (.iload_n 3, 1) := by decide +kernel
theorem dX4_put_46 : decode cX4_put 46 = .ok (.iastore, 1) := by decide +kernel
theorem dX4_put_47 : decode cX4_put 47 = .ok (.aload_n 0, 1) := by decide +kernel
theorem dX4_put_48 : decode cX4_put 48 = .ok (.dup, 1) := by decide +kernel
theorem dX4_put_49 : decode cX4_put 49 = .ok (.getfield 33, 3) := by decide +kernel
theorem dX4_put_52 : decode cX4_put 52 = .ok (.iload 4, 2) := by decide +kernel
theorem dX4_put_54 : decode cX4_put 54 = .ok (.ior, 1) := by decide +kernel
theorem dX4_put_55 : decode cX4_put 55 = .ok (.putfield 33, 3) := by decide +kernel
theorem dX4_put_58 : decode cX4_put 58 = .ok (.aload_n 0, 1) := by decide +kernel
theorem dX4_put_59 : decode cX4_put 59 = .ok (.dup, 1) := by decide +kernel
theorem dX4_put_60 : decode cX4_put 60 = .ok (.getfield 37, 3) := by decide +kernel
theorem dX4_put_63 : decode cX4_put 63 = .ok (.iload 4, 2) := by decide +kernel
theorem dX4_put_65 : decode cX4_put 65 = .ok (.ior, 1) := by decide +kernel
theorem dX4_put_66 : decode cX4_put 66 = .ok (.putfield 37, 3) := by decide +kernel
theorem dX4_put_69 : decode cX4_put 69 = .ok (.return_, 1) := by decide +kernel
theorem dX4_toDisk_0 : decode cX4_toDisk 0 = .ok (.iload_n 1, 1) := by decide +kernel
theorem dX4_toDisk_1 : decode cX4_toDisk 1 = .ok (.ifCond .lt 9, 3) := by decide +kernel
theorem dX4_toDisk_4 : decode cX4_toDisk 4 = .ok (.iload_n 1, 1) := by decide +kernel
theorem dX4_toDisk_5 : decode cX4_toDisk 5 = .ok (.bipush 8, 2) := by decide +kernel
theorem dX4_toDisk_7 : decode cX4_toDisk 7 = .ok (.if_icmp .lt 4, 3) := by decide +kernel
theorem dX4_toDisk_10 : decode cX4_toDisk 10 = .ok (.return_, 1) := by decide +kernel
theorem dX4_toDisk_11 : decode cX4_toDisk 11 = .ok (.aload_n 0, 1) := by decide +kernel
theorem dX4_toDisk_12 : decode cX4_toDisk 12 = .ok (.getfield 9, 3) := by decide +kernel
theorem dX4_toDisk_15 : decode cX4_toDisk 15 = .ok (.iload_n 1, 1) := by decide +kernel
theorem dX4_toDisk_16 : decode cX4_toDisk 16 = .ok (.aload_n 0, 1) := by decide +kernel
theorem dX4_toDisk_17 : decode cX4_toDisk 17 = .ok (.getfield 18, 3) := by decide +kernel
theorem dX4_toDisk_20 : decode cX4_toDisk 20 = .ok (.iload_n 1, 1) := by decide +kernel
theorem dX4_toDisk_21 : decode cX4_toDisk 21 = .ok (.iaload, 1) := by decide +kernel
theorem dX4_toDisk_22 : decode cX4_toDisk 22 = .ok (.iastore, 1) := by decide +kernel
theorem dX4_toDisk_23 : decode cX4_toDisk 23 = .ok (.aload_n 0, 1) := by decide +kernel
theorem dX4_toDisk_24 : decode cX4_toDisk 24 = .ok (.getfield 15, 3) := by decide +kernel
theorem dX4_toDisk_27 : decode cX4_toDisk 27 = .ok (.iload_n 1, 1) := by decide +kernel
theorem dX4_toDisk_28 : decode cX4_toDisk 28 = .ok (.aload_n 0, 1) := by decide +kernel
theorem dX4_toDisk_29 : decode cX4_toDisk 29 = .ok (.getfield 21, 3) := by decide +kernel
theorem dX4_toDisk_32 : decode cX4_toDisk 32 = .ok (.iload_n 1, 1) := by decide +kernel
theorem dX4_toDisk_33 : decode cX4_toDisk 33 = .ok (.iaload, 1) := by decide +kernel
theorem dX4_toDisk_34 : decode cX4_toDisk 34 = .ok (.iastore, 1) := by decide +kernel
theorem dX4_toDisk_35 : decode cX4_toDisk 35 = .ok (.aload_n 0, 1) := by decide +kernel
theorem dX4_toDisk_36 : decode cX4_toDisk 36 = .ok (.dup, 1) := by decide +kernel
theorem dX4_toDisk_37 : decode cX4_toDisk 37 = .ok (.getfield 37, 3) := by decide +kernel
theorem dX4_toDisk_40 : decode cX4_toDisk 40 = .ok (.iconst 1, 1) := by decide +kernel
theorem dX4_toDisk_41 : decode cX4_toDisk 41 = .ok (.iload_n 1, 1) := by decide +kernel
theorem dX4_toDisk_42 : decode cX4_toDisk 42 = .ok (.ishl, 1) := by decide +kernel
theorem dX4_toDisk_43 : decode cX4_toDisk 43 = .ok (.iconst (-1), 1) := by decide +kernel
theorem dX4_toDisk_44 : decode cX4_toDisk 44 = .ok (.ixor, 1) := by decide +kernel
theorem dX4_toDisk_45 : decode cX4_toDisk 45 = .ok (.iand, 1) := by decide +kernel
theorem dX4_toDisk_46 : decode cX4_toDisk 46 = .ok (.putfield 37, 3) := by decide +kernel
theorem dX4_toDisk_49 : decode cX4_toDisk 49 = .ok (.return_, 1) := by decide +kernel
theorem dX4_emptyCache_0 : decode cX4_emptyCache 0 = .ok (.aload_n 0, 1) := by decide +kernel
theorem dX4_emptyCache_1 : decode cX4_emptyCache 1 = .ok (.iconst 0, 1) := by decide +kernel
theorem dX4_emptyCache_2 : decode cX4_emptyCache 2 = .ok (.putfield 33, 3) := by decide +kernel
theorem dX4_emptyCache_5 : decode cX4_emptyCache 5 = .ok (.aload_n 0, 1) := by decide +kernel
theorem dX4_emptyCache_6 : decode cX4_emptyCache 6 = .ok (.iconst 0, 1) := by decide +kernel
theorem dX4_emptyCache_7 : decode cX4_emptyCache 7 = .ok (.putfield 37, 3) := by decide +kernel
theorem dX4_emptyCache_10 : decode cX4_emptyCache 10 = .ok (.return_, 1) := by decide +kernel
theorem dX4_highestDiskMark_0 : decode cX4_highestDiskMark 0 = .ok (.iconst 0, 1) := by decide +kernel
theorem dX4_highestDiskMark_1 : decode cX4_highestDiskMark 1 = .ok (.istore_n 1, 1) := by decide +kernel
theorem dX4_highestDiskMark_2 : decode cX4_highestDiskMark 2 = .ok (.iconst 0, 1) := by decide +kernel
theorem dX4_highestDiskMark_3 : decode cX4_highestDiskMark 3 = .ok (.istore_n 2, 1) := by decide +kernel
theorem dX4_highestDiskMark_4 : decode cX4_highestDiskMark 4 = .ok (.iload_n 2, 1) := by decide +kernel
theorem dX4_highestDiskMark_5 : decode cX4_highestDiskMark 5 = .ok (.bipush 8, 2) := by decide +kernel
theorem dX4_highestDiskMark_7 : decode cX4_highestDiskMark 7 = .ok (.if_icmp .ge 20, 3) := by decide +kernel
theorem dX4_highestDiskMark_10 : decode cX4_highestDiskMark 10 = .ok (.iload_n 1, 1) := by decide +kernel
theorem dX4_highestDiskMark_11 : decode cX4_highestDiskMark 11 = .ok (.aload_n 0, 1) := by decide +kernel
theorem dX4_highestDiskMark_12 : decode cX4_highestDiskMark 12 = .ok (.getfield 15, 3) := by decide +kernel
theorem dX4_highestDiskMark_15 : decode cX4_highestDiskMark 15 = .ok (.iload_n 2, 1) := by decide +kernel
theorem dX4_highestDiskMark_16 : decode cX4_highestDiskMark 16 = .ok (.iaload, 1) := by decide +kernel
theorem dX4_highestDiskMark_17 : decode cX4_highestDiskMark 17 = .ok (.invokestatic 41, 3) := by decide +kernel
theorem dX4_highestDiskMark_20 : decode cX4_highestDiskMark 20 = .ok (.istore_n 1, 1) := by decide +kernel
theorem dX4_highestDiskMark_21 : decode cX4_highestDiskMark 21 = .ok (.iinc 2 1, 3) := by decide +kernel
theorem dX4_highestDiskMark_24 : decode cX4_highestDiskMark 24 = .ok (.goto (-20), 3) := by decide +kernel
theorem dX4_highestDiskMark_27 : decode cX4_highestDiskMark 27 = .ok (.iload_n 1, 1) := by decide +kernel
theorem dX4_highestDiskMark_28 : decode cX4_highestDiskMark 28 = .ok (.ireturn, 1) := by decide +kernel
theorem dX4_tell_0 : decode cX4_tell 0 = .ok (.iload_n 1, 1) := by decide +kernel
theorem dX4_tell_1 : decode cX4_tell 1 = .ok (.ifCond .lt 9, 3) := by decide +kernel
theorem dX4_tell_4 : decode cX4_tell 4 = .ok (.iload_n 1, 1) := by decide +kernel
theorem dX4_tell_5 : decode cX4_tell 5 = .ok (.bipush 8, 2) := by decide +kernel
theorem dX4_tell_7 : decode cX4_tell 7 = .ok (.if_icmp .lt 6, 3) := by decide +kernel
theorem dX4_tell_10 : decode cX4_tell 10 = .ok (.ldc 47, 2) := by decide +kernel
theorem dX4_tell_12 : decode cX4_tell 12 = .ok (.ireturn, 1) := by decide +kernel
theorem dX4_tell_13 : decode cX4_tell 13 = .ok (.iload_n 2, 1) := by decide +kernel
theorem dX4_tell_14 : decode cX4_tell 14 = .ok (.tableswitch 82 0 5 #[38, 44, 50, 57, 64, 73], 38) := by decide +kernel
theorem dX4_tell_52 : decode cX4_tell 52 = .ok (.aload_n 0, 1) := by decide +kernel
theorem dX4_tell_53 : decode cX4_tell 53 = .ok (.iload_n 1, 1) := by decide +kernel
theorem dX4_tell_54 : decode cX4_tell 54 = .ok (.invokevirtual 48, 3) := by decide +kernel
theorem dX4_tell_57 : decode cX4_tell 57 = .ok (.ireturn, 1) := by decide +kernel
theorem dX4_tell_58 : decode cX4_tell 58 = .ok (.aload_n 0, 1) := by decide +kernel
theorem dX4_tell_59 : decode cX4_tell 59 = .ok (.iload_n 1, 1) := by decide +kernel
theorem dX4_tell_60 : decode cX4_tell 60 = .ok (.invokevirtual 52, 3) := by decide +kernel
theorem dX4_tell_63 : decode cX4_tell 63 = .ok (.ireturn, 1) := by decide +kernel
theorem dX4_tell_64 : decode cX4_tell 64 = .ok (.aload_n 0, 1) := by decide +kernel
theorem dX4_tell_65 : decode cX4_tell 65 = .ok (.getfield 9, 3) := by decide +kernel
theorem dX4_tell_68 : decode cX4_tell 68 = .ok (.iload_n 1, 1) := by decide +kernel
theorem dX4_tell_69 : decode cX4_tell 69 = .ok (.iaload, 1) := by decide +kernel
theorem dX4_tell_70 : decode cX4_tell 70 = .ok (.ireturn, 1) := by decide +kernel
theorem dX4_tell_71 : decode cX4_tell 71 = .ok (.aload_n 0, 1) := by decide +kernel
theorem dX4_tell_72 : decode cX4_tell 72 = .ok (.getfield 15, 3) := by decide +kernel
theorem dX4_tell_75 : decode cX4_tell 75 = .ok (.iload_n 1, 1) := by decide +kernel
theorem dX4_tell_76 : decode cX4_tell 76 = .ok (.iaload, 1) := by decide +kernel
theorem dX4_tell_77 : decode cX4_tell 77 = .ok (.ireturn, 1) := by decide +kernel
theorem dX4_tell_78 : decode cX4_tell 78 = .ok (.aload_n 0, 1) := by decide +kernel
theorem dX4_tell_79 : decode cX4_tell 79 = .ok (.getfield 33, 3) := by decide +kernel
theorem dX4_tell_82 : decode cX4_tell 82 = .ok (.iload_n 1, 1) := by decide +kernel
theorem dX4_tell_83 : decode cX4_tell 83 = .ok (.ishr, 1) := by decide +kernel
theorem dX4_tell_84 : decode cX4_tell 84 = .ok (.iconst 1, 1) := by decide +kernel
theorem dX4_tell_85 : decode cX4_tell 85 = .ok (.iand, 1) := by decide +kernel
theorem dX4_tell_86 : decode cX4_tell 86 = .ok (.ireturn, 1) := by decide +kernel
theorem dX4_tell_87 : decode cX4_tell 87 = .ok (.aload_n 0, 1) := by decide +kernel
theorem dX4_tell_88 : decode cX4_tell 88 = .ok (.getfield 37, 3) := by decide +kernel
theorem dX4_tell_91 : decode cX4_tell 91 = .ok (.iload_n 1, 1) := by decide +kernel
theorem dX4_tell_92 : decode cX4_tell 92 = .ok (.ishr, 1) := by decide +kernel
theorem dX4_tell_93 : decode cX4_tell 93 = .ok (.iconst 1, 1) := by decide +kernel
theorem dX4_tell_94 : decode cX4_tell 94 = .ok (.iand, 1) := by decide +kernel
theorem dX4_tell_95 : decode cX4_tell 95 = .ok (.ireturn, 1) := by decide +kernel
theorem dX4_tell_96 : decode cX4_tell 96 = .ok (.aload_n 0, 1) := by decide +kernel
theorem dX4_tell_97 : decode cX4_tell 97 = .ok (.iload_n 1, 1) := by decide +kernel
theorem dX4_tell_98 : decode cX4_tell 98 = .ok (.invokevirtual 55, 3) := by decide +kernel
theorem dX4_tell_101 : decode cX4_tell 101 = .ok (.ireturn, 1) := by decide +kernel
theorem dX5_init_0 : decode cX5_init 0 = .ok (.aload_n 0, 1) := by decide +kernel
theorem dX5_init_1 : decode cX5_init 1 = .ok (.invokespecial 3, 3) := by decide +kernel
theorem dX5_init_4 : decode cX5_init 4 = .ok (.aload_n 0, 1) := by decide +kernel
theorem dX5_init_5 : decode cX5_init 5 = .ok (.bipush 8, 2) := by decide +kernel
theorem dX5_init_7 : decode cX5_init 7 = .ok (.newarray .int, 2) := by decide +kernel
theorem dX5_init_9 : decode cX5_init 9 = .ok (.putfield 9, 3) := by decide +kernel
theorem dX5_init_12 : decode cX5_init 12 = .ok (.aload_n 0, 1) := by decide +kernel
theorem dX5_init_13 : decode cX5_init 13 = .ok (.sipush 128, 3) := by decide +kernel
theorem dX5_init_16 : decode cX5_init 16 = .ok (.newarray .int, 2) := by decide +kernel
theorem dX5_init_18 : decode cX5_init 18 = .ok (.putfield 15, 3) := by decide +kernel
theorem dX5_init_21 : decode cX5_init 21 = .ok (.return_, 1) := by decide +kernel
theorem dX5_run_0 : decode cX5_run 0 = .ok (.aload_n 1, 1) := by decide +kernel
theorem dX5_run_1 : decode cX5_run 1 = .ok (.getfield 18, 3) := by decide +kernel
theorem dX5_run_4 : decode cX5_run 4 = .ok (.ifCond .ne 6, 3) := by decide +kernel
theorem dX5_run_7 : decode cX5_run 7 = .ok (.ldc 24, 2) := by decide +kernel
theorem dX5_run_9 : decode cX5_run 9 = .ok (.ireturn, 1) := by decide +kernel
theorem dX5_run_10 : decode cX5_run 10 = .ok (.aload_n 0, 1) := by decide +kernel
theorem dX5_run_11 : decode cX5_run 11 = .ok (.aload_n 1, 1) := by decide +kernel
theorem dX5_run_12 : decode cX5_run 12 = .ok (.getfield 25, 3) := by decide +kernel
theorem dX5_run_15 : decode cX5_run 15 = .ok (.invokevirtual 29, 3) := by decide +kernel
theorem dX5_run_18 : decode cX5_run 18 = .ok (.aload_n 0, 1) := by decide +kernel
theorem dX5_run_19 : decode cX5_run 19 = .ok (.aload_n 1, 1) := by decide +kernel
theorem dX5_run_20 : decode cX5_run 20 = .ok (.getfield 25, 3) := by decide +kernel
theorem dX5_run_23 : decode cX5_run 23 = .ok (.aload_n 1, 1) := by decide +kernel
theorem dX5_run_24 : decode cX5_run 24 = .ok (.getfield 33, 3) := by decide +kernel
theorem dX5_run_27 : decode cX5_run 27 = .ok (.invokevirtual 37, 3) := by decide +kernel
theorem dX5_run_30 : decode cX5_run 30 = .ok (.aload_n 0, 1) := by decide +kernel
theorem dX5_run_31 : decode cX5_run 31 = .ok (.aload_n 1, 1) := by decide +kernel
theorem dX5_run_32 : decode cX5_run 32 = .ok (.invokevirtual 41, 3) := by decide +kernel
theorem dX5_run_35 : decode cX5_run 35 = .ok (.aload_n 1, 1) := by decide +kernel
theorem dX5_run_36 : decode cX5_run 36 = .ok (.getfield 25, 3) := by decide +kernel
theorem dX5_run_39 : decode cX5_run 39 = .ok (.aload_n 1, 1) := by decide +kernel
theorem dX5_run_40 : decode cX5_run 40 = .ok (.getfield 25, 3) := by decide +kernel
theorem dX5_run_43 : decode cX5_run 43 = .ok (.invokevirtual 45, 3) := by decide +kernel
theorem dX5_run_46 : decode cX5_run 46 = .ok (.invokevirtual 51, 3) := by decide +kernel
theorem dX5_run_49 : decode cX5_run 49 = .ok (.pop, 1) := by decide +kernel
theorem dX5_run_50 : decode cX5_run 50 = .ok (.aload_n 1, 1) := by decide +kernel
theorem dX5_run_51 : decode cX5_run 51 = .ok (.iconst 0, 1) := by decide +kernel
theorem dX5_run_52 : decode cX5_run 52 = .ok (.putfield 18, 3) := by decide +kernel
theorem dX5_run_55 : decode cX5_run 55 = .ok (.aload_n 1, 1) := by decide +kernel
theorem dX5_run_56 : decode cX5_run 56 = .ok (.dup, 1) := by decide +kernel
theorem dX5_run_57 : decode cX5_run 57 = .ok (.getfield 55, 3) := by decide +kernel
theorem dX5_run_60 : decode cX5_run 60 = .ok (.aload_n 0, 1) := by decide +kernel
theorem dX5_run_61 : decode cX5_run 61 = .ok (.getfield 59, 3) := by decide +kernel
theorem dX5_run_64 : decode cX5_run 64 = .ok (.iadd, 1) := by decide +kernel
theorem dX5_run_65 : decode cX5_run 65 = .ok (.putfield 55, 3) := by decide +kernel
theorem dX5_run_68 : decode cX5_run 68 = .ok (.aload_n 0, 1) := by decide +kernel
theorem dX5_run_69 : decode cX5_run 69 = .ok (.getfield 59, 3) := by decide +kernel
theorem dX5_run_72 : decode cX5_run 72 = .ok (.ireturn, 1) := by decide +kernel
theorem dX5_tell_0 : decode cX5_tell 0 = .ok (.iload_n 1, 1) := by decide +kernel
theorem dX5_tell_1 : decode cX5_tell 1 = .ok (.tableswitch 42 1 3 #[27, 32, 37], 27) := by decide +kernel
theorem dX5_tell_28 : decode cX5_tell 28 = .ok (.aload_n 0, 1) := by decide +kernel
theorem dX5_tell_29 : decode cX5_tell 29 = .ok (.getfield 59, 3) := by decide +kernel
theorem dX5_tell_32 : decode cX5_tell 32 = .ok (.ireturn, 1) := by decide +kernel
theorem dX5_tell_33 : decode cX5_tell 33 = .ok (.aload_n 0, 1) := by decide +kernel
theorem dX5_tell_34 : decode cX5_tell 34 = .ok (.getfield 60, 3) := by decide +kernel
theorem dX5_tell_37 : decode cX5_tell 37 = .ok (.ireturn, 1) := by decide +kernel
theorem dX5_tell_38 : decode cX5_tell 38 = .ok (.aload_n 0, 1) := by decide +kernel
theorem dX5_tell_39 : decode cX5_tell 39 = .ok (.getfield 63, 3) := by decide +kernel
theorem dX5_tell_42 : decode cX5_tell 42 = .ok (.ireturn, 1) := by decide +kernel
theorem dX5_tell_43 : decode cX5_tell 43 = .ok (.aload_n 0, 1) := by decide +kernel
theorem dX5_tell_44 : decode cX5_tell 44 = .ok (.getfield 66, 3) := by decide +kernel
theorem dX5_tell_47 : decode cX5_tell 47 = .ok (.ifCond .ne 8, 3) := by decide +kernel
theorem dX5_tell_50 : decode cX5_tell 50 = .ok (.ldc 69, 2) := by decide +kernel
theorem dX5_tell_52 : decode cX5_tell 52 = .ok (.goto 7, 3) := by decide +kernel
theorem dX5_tell_55 : decode cX5_tell 55 = .ok (.aload_n 0, 1) := by decide +kernel
theorem dX5_tell_56 : decode cX5_tell 56 = .ok (.getfield 66, 3) := by decide +kernel
theorem dX5_tell_59 : decode cX5_tell 59 = .ok (.ireturn, 1) := by decide +kernel
theorem dX5_look_0 : decode cX5_look 0 = .ok (.aload_n 1, 1) := by decide +kernel
theorem dX5_look_1 : decode cX5_look 1 = .ok (.getfield 70, 3) := by decide +kernel
theorem dX5_look_4 : decode cX5_look 4 = .ok (.istore_n 2, 1) := by decide +kernel
theorem dX5_look_5 : decode cX5_look 5 = .ok (.iload_n 2, 1) := by decide +kernel
theorem dX5_look_6 : decode cX5_look 6 = .ok (.ifCond .eq 7, 3) := by decide +kernel
theorem dX5_look_9 : decode cX5_look 9 = .ok (.iconst 1, 1) := by decide +kernel
theorem dX5_look_10 : decode cX5_look 10 = .ok (.goto 4, 3) := by decide +kernel
theorem dX5_look_13 : decode cX5_look 13 = .ok (.iconst 0, 1) := by decide +kernel
theorem dX5_look_14 : decode cX5_look 14 = .ok (.istore_n 3, 1) := by decide +kernel
theorem dX5_look_15 : decode cX5_look 15 = .ok (.aload_n 0, 1) := by decide +kernel
theorem dX5_look_16 : decode cX5_look 16 = .ok (.iload_n 3, 1) := by decide +kernel
theorem dX5_look_17 : decode cX5_look 17 = .ok (.ifCond .eq 19, 3) := by decide +kernel
theorem dX5_look_20 : decode cX5_look 20 = .ok (.iconst 0, 1) := by decide +kernel
theorem dX5_look_21 : decode cX5_look 21 = .ok (.aload_n 1, 1) := by decide +kernel
theorem dX5_look_22 : decode cX5_look 22 = .ok (.aload_n 1, 1) := by decide +kernel
theorem dX5_look_23 : decode cX5_look 23 = .ok (.getfield 73, 3) := by decide +kernel
theorem dX5_look_26 : decode cX5_look 26 = .ok (.iload_n 2, 1) := by decide +kernel
theorem dX5_look_27 : decode cX5_look 27 = .ok (.invokevirtual 76, 3) := by decide +kernel
theorem dX5_look_30 : decode cX5_look 30 = .ok (.invokestatic 80, 3) := by decide +kernel
theorem dX5_look_33 : decode cX5_look 33 = .ok (.goto 4, 3) := by decide +kernel
theorem dX5_look_36 : decode cX5_look 36 = .ok (.iconst 0, 1) := by decide +kernel
theorem dX5_look_37 : decode cX5_look 37 = .ok (.putfield 63, 3) := by decide +kernel
theorem dX5_look_40 : decode cX5_look 40 = .ok (.aload_n 0, 1) := by decide +kernel
theorem dX5_look_41 : decode cX5_look 41 = .ok (.iload_n 3, 1) := by decide +kernel
theorem dX5_look_42 : decode cX5_look 42 = .ok (.ifCond .eq 7, 3) := by decide +kernel
theorem dX5_look_45 : decode cX5_look 45 = .ok (.iload_n 2, 1) := by decide +kernel
theorem dX5_look_46 : decode cX5_look 46 = .ok (.goto 8, 3) := by decide +kernel
theorem dX5_look_49 : decode cX5_look 49 = .ok (.aload_n 1, 1) := by decide +kernel
theorem dX5_look_50 : decode cX5_look 50 = .ok (.iconst 1, 1) := by decide +kernel
theorem dX5_look_51 : decode cX5_look 51 = .ok (.invokevirtual 86, 3) := by decide +kernel
theorem dX5_look_54 : decode cX5_look 54 = .ok (.putfield 66, 3) := by decide +kernel
theorem dX5_look_57 : decode cX5_look 57 = .ok (.iconst 0, 1) := by decide +kernel
theorem dX5_look_58 : decode cX5_look 58 = .ok (.istore 4, 2) := by decide +kernel
theorem dX5_look_60 : decode cX5_look 60 = .ok (.iload 4, 2) := by decide +kernel
theorem dX5_look_62 : decode cX5_look 62 = .ok (.bipush 8, 2) := by decide +kernel
theorem dX5_look_64 : decode cX5_look 64 = .ok (.if_icmp .ge 31, 3) := by decide +kernel
theorem dX5_look_67 : decode cX5_look 67 = .ok (.aload_n 0, 1) := by decide +kernel
theorem dX5_look_68 : decode cX5_look 68 = .ok (.getfield 9, 3) := by decide +kernel
theorem dX5_look_71 : decode cX5_look 71 = .ok (.iload 4, 2) := by decide +kernel
theorem dX5_look_73 : decode cX5_look 73 = .ok (.iload_n 3, 1) := by decide +kernel
theorem dX5_look_74 : decode cX5_look 74 = .ok (.ifCond .eq 13, 3) := by decide +kernel
theorem dX5_look_77 : decode cX5_look 77 = .ok (.aload_n 1, 1) := by decide +kernel
theorem dX5_look_78 : decode cX5_look 78 = .ok (.getfield 89, 3) := by decide +kernel
theorem dX5_look_81 : decode cX5_look 81 = .ok (.iload 4, 2) := by decide +kernel
theorem dX5_look_83 : decode cX5_look 83 = .ok (.iaload, 1) := by decide +kernel
theorem dX5_look_84 : decode cX5_look 84 = .ok (.goto 4, 3) := by decide +kernel
theorem dX5_look_87 : decode cX5_look 87 = .ok (.iconst 0, 1) := by decide +kernel
theorem dX5_look_88 : decode cX5_look 88 = .ok (.iastore, 1) := by decide +kernel
theorem dX5_look_89 : decode cX5_look 89 = .ok (.iinc 4 1, 3) := by decide +kernel
theorem dX5_look_92 : decode cX5_look 92 = .ok (.goto (-32), 3) := by decide +kernel
theorem dX5_look_95 : decode cX5_look 95 = .ok (.aload_n 1, 1) := by decide +kernel
theorem dX5_look_96 : decode cX5_look 96 = .ok (.invokevirtual 45, 3) := by decide +kernel
theorem dX5_look_99 : decode cX5_look 99 = .ok (.istore 4, 2) := by decide +kernel
theorem dX5_look_101 : decode cX5_look 101 = .ok (.aload_n 1, 1) := by decide +kernel
theorem dX5_look_102 : decode cX5_look 102 = .ok (.getfield 92, 3) := by decide +kernel
theorem dX5_look_105 : decode cX5_look 105 = .ok (.aload_n 0, 1) := by decide +kernel
theorem dX5_look_106 : decode cX5_look 106 = .ok (.getfield 66, 3) := by decide +kernel
theorem dX5_look_109 : decode cX5_look 109 = .ok (.invokestatic 80, 3) := by decide +kernel
theorem dX5_look_112 : decode cX5_look 112 = .ok (.istore 5, 2) := by decide +kernel
theorem dX5_look_114 : decode cX5_look 114 = .ok (.iload 5, 2) := by decide +kernel
theorem dX5_look_116 : decode cX5_look 116 = .ok (.iload 4, 2) := by decide +kernel
theorem dX5_look_118 : decode cX5_look 118 = .ok (.if_icmp .gt 16, 3) := by decide +kernel
theorem dX5_look_121 : decode cX5_look 121 = .ok (.aload_n 0, 1) := by decide +kernel
theorem dX5_look_122 : decode cX5_look 122 = .ok (.aload_n 1, 1) := by decide +kernel
theorem dX5_look_123 : decode cX5_look 123 = .ok (.iload 5, 2) := by decide +kernel
theorem dX5_look_125 : decode cX5_look 125 = .ok (.invokevirtual 95, 3) := by decide +kernel
theorem dX5_look_128 : decode cX5_look 128 = .ok (.iinc 5 1, 3) := by decide +kernel
theorem dX5_look_131 : decode cX5_look 131 = .ok (.goto (-17), 3) := by decide +kernel
theorem dX5_look_134 : decode cX5_look 134 = .ok (.return_, 1) := by decide +kernel
theorem dX5_lookAt_0 : decode cX5_lookAt 0 = .ok (.aload_n 1, 1) := by decide +kernel
theorem dX5_lookAt_1 : decode cX5_lookAt 1 = .ok (.aload_n 1, 1) := by decide +kernel
theorem dX5_lookAt_2 : decode cX5_lookAt 2 = .ok (.getfield 99, 3) := by decide +kernel
theorem dX5_lookAt_5 : decode cX5_lookAt 5 = .ok (.iload_n 2, 1) := by decide +kernel
theorem dX5_lookAt_6 : decode cX5_lookAt 6 = .ok (.invokevirtual 76, 3) := by decide +kernel
theorem dX5_lookAt_9 : decode cX5_lookAt 9 = .ok (.istore_n 3, 1) := by decide +kernel
theorem dX5_lookAt_10 : decode cX5_lookAt 10 = .ok (.aload_n 1, 1) := by decide +kernel
theorem dX5_lookAt_11 : decode cX5_lookAt 11 = .ok (.aload_n 1, 1) := by decide +kernel
theorem dX5_lookAt_12 : decode cX5_lookAt 12 = .ok (.getfield 102, 3) := by decide +kernel
theorem dX5_lookAt_15 : decode cX5_lookAt 15 = .ok (.iload_n 2, 1) := by decide +kernel
theorem dX5_lookAt_16 : decode cX5_lookAt 16 = .ok (.invokevirtual 76, 3) := by decide +kernel
theorem dX5_lookAt_19 : decode cX5_lookAt 19 = .ok (.istore 4, 2) := by decide +kernel
theorem dX5_lookAt_21 : decode cX5_lookAt 21 = .ok (.iload_n 3, 1) := by decide +kernel
theorem dX5_lookAt_22 : decode cX5_lookAt 22 = .ok (.ifCond .lt 14, 3) := by decide +kernel
theorem dX5_lookAt_25 : decode cX5_lookAt 25 = .ok (.iload_n 3, 1) := by decide +kernel
theorem dX5_lookAt_26 : decode cX5_lookAt 26 = .ok (.iconst 4, 1) := by decide +kernel
theorem dX5_lookAt_27 : decode cX5_lookAt 27 = .ok (.if_icmp .ge 9, 3) := by decide +kernel
theorem dX5_lookAt_30 : decode cX5_lookAt 30 = .ok (.iconst 1, 1) := by decide +kernel
theorem dX5_lookAt_31 : decode cX5_lookAt 31 = .ok (.iload_n 3, 1) := by decide +kernel
theorem dX5_lookAt_32 : decode cX5_lookAt 32 = .ok (.ishl, 1) := by decide +kernel
theorem dX5_lookAt_33 : decode cX5_lookAt 33 = .ok (.goto 4, 3) := by decide +kernel
theorem dX5_lookAt_36 : decode cX5_lookAt 36 = .ok (.iconst 0, 1) := by decide +kernel
theorem dX5_lookAt_37 : decode cX5_lookAt 37 = .ok (.istore 5, 2) := by decide +kernel
theorem dX5_lookAt_39 : decode cX5_lookAt 39 = .ok (.aload_n 1, 1) := by decide +kernel
theorem dX5_lookAt_40 : decode cX5_lookAt 40 = .ok (.aload_n 1, 1) := by decide +kernel
theorem dX5_lookAt_41 : decode cX5_lookAt 41 = .ok (.getfield 105, 3) := by decide +kernel
theorem dX5_lookAt_44 : decode cX5_lookAt 44 = .ok (.iload_n 2, 1) := by decide +kernel
theorem dX5_lookAt_45 : decode cX5_lookAt 45 = .ok (.invokevirtual 76, 3) := by decide +kernel
theorem dX5_lookAt_48 : decode cX5_lookAt 48 = .ok (.tableswitch 99 0 4 #[36, 66, 50, 66, 50], 36) := by decide +kernel
theorem dX5_lookAt_84 : decode cX5_lookAt 84 = .ok (.aload_n 0, 1) := by decide +kernel
theorem dX5_lookAt_85 : decode cX5_lookAt 85 = .ok (.dup, 1) := by decide +kernel
theorem dX5_lookAt_86 : decode cX5_lookAt 86 = .ok (.getfield 63, 3) := by decide +kernel
theorem dX5_lookAt_89 : decode cX5_lookAt 89 = .ok (.iload 5, 2) := by decide +kernel
theorem dX5_lookAt_91 : decode cX5_lookAt 91 = .ok (.ior, 1) := by decide +kernel
theorem dX5_lookAt_92 : decode cX5_lookAt 92 = .ok (.putfield 63, 3) := by decide +kernel
theorem dX5_lookAt_95 : decode cX5_lookAt 95 = .ok (.goto 52, 3) := by decide +kernel
theorem dX5_lookAt_98 : decode cX5_lookAt 98 = .ok (.aload_n 0, 1) := by decide +kernel
theorem dX5_lookAt_99 : decode cX5_lookAt 99 = .ok (.dup, 1) := by decide +kernel
theorem dX5_lookAt_100 : decode cX5_lookAt 100 = .ok (.getfield 63, 3) := by decide +kernel
theorem dX5_lookAt_103 : decode cX5_lookAt 103 = .ok (.iload 5, 2) := by decide +kernel
theorem dX5_lookAt_105 : decode cX5_lookAt 105 = .ok (.iconst (-1), 1) := by decide +kernel
theorem dX5_lookAt_106 : decode cX5_lookAt 106 = .ok (.ixor, 1) := by decide +kernel
theorem dX5_lookAt_107 : decode cX5_lookAt 107 = .ok (.iand, 1) := by decide +kernel
theorem dX5_lookAt_108 : decode cX5_lookAt 108 = .ok (.putfield 63, 3) := by decide +kernel
theorem dX5_lookAt_111 : decode cX5_lookAt 111 = .ok (.goto 36, 3) := by decide +kernel
theorem dX5_lookAt_114 : decode cX5_lookAt 114 = .ok (.iload 4, 2) := by decide +kernel
theorem dX5_lookAt_116 : decode cX5_lookAt 116 = .ok (.ifCond .lt 31, 3) := by decide +kernel
theorem dX5_lookAt_119 : decode cX5_lookAt 119 = .ok (.iload 4, 2) := by decide +kernel
theorem dX5_lookAt_121 : decode cX5_lookAt 121 = .ok (.bipush 8, 2) := by decide +kernel
theorem dX5_lookAt_123 : decode cX5_lookAt 123 = .ok (.if_icmp .ge 24, 3) := by decide +kernel
theorem dX5_lookAt_126 : decode cX5_lookAt 126 = .ok (.aload_n 0, 1) := by decide +kernel
theorem dX5_lookAt_127 : decode cX5_lookAt 127 = .ok (.getfield 9, 3) := by decide +kernel
theorem dX5_lookAt_130 : decode cX5_lookAt 130 = .ok (.iload 4, 2) := by decide +kernel
theorem dX5_lookAt_132 : decode cX5_lookAt 132 = .ok (.iaload, 1) := by decide +kernel
theorem dX5_lookAt_133 : decode cX5_lookAt 133 = .ok (.ifCond .ne 14, 3) := by decide +kernel
theorem dX5_lookAt_136 : decode cX5_lookAt 136 = .ok (.aload_n 0, 1) := by decide +kernel
theorem dX5_lookAt_137 : decode cX5_lookAt 137 = .ok (.getfield 9, 3) := by decide +kernel
theorem dX5_lookAt_140 : decode cX5_lookAt 140 = .ok (.iload 4, 2) := by decide +kernel
theorem dX5_lookAt_142 : decode cX5_lookAt 142 = .ok (.iload_n 2, 1) := by decide +kernel
theorem dX5_lookAt_143 : decode cX5_lookAt 143 = .ok (.iastore, 1) := by decide +kernel
theorem dX5_lookAt_144 : decode cX5_lookAt 144 = .ok (.goto 3, 3) := by decide +kernel
theorem dX5_lookAt_147 : decode cX5_lookAt 147 = .ok (.return_, 1) := by decide +kernel
theorem dX5_doAgain_0 : decode cX5_doAgain 0 = .ok (.aload_n 0, 1) := by decide +kernel
theorem dX5_doAgain_1 : decode cX5_doAgain 1 = .ok (.iconst 0, 1) := by decide +kernel
theorem dX5_doAgain_2 : decode cX5_doAgain 2 = .ok (.putfield 59, 3) := by decide +kernel
theorem dX5_doAgain_5 : decode cX5_doAgain 5 = .ok (.aload_n 0, 1) := by decide +kernel
theorem dX5_doAgain_6 : decode cX5_doAgain 6 = .ok (.invokevirtual 108, 3) := by decide +kernel
theorem dX5_doAgain_9 : decode cX5_doAgain 9 = .ok (.istore_n 3, 1) := by decide +kernel
theorem dX5_doAgain_10 : decode cX5_doAgain 10 = .ok (.iload_n 3, 1) := by decide +kernel
theorem dX5_doAgain_11 : decode cX5_doAgain 11 = .ok (.ifCond .ne 4, 3) := by decide +kernel
theorem dX5_doAgain_14 : decode cX5_doAgain 14 = .ok (.return_, 1) := by decide +kernel
theorem dX5_doAgain_15 : decode cX5_doAgain 15 = .ok (.aload_n 1, 1) := by decide +kernel
theorem dX5_doAgain_16 : decode cX5_doAgain 16 = .ok (.invokevirtual 45, 3) := by decide +kernel
theorem dX5_doAgain_19 : decode cX5_doAgain 19 = .ok (.istore 4, 2) := by decide +kernel
theorem dX5_doAgain_21 : decode cX5_doAgain 21 = .ok (.iload_n 3, 1) := by decide +kernel
theorem dX5_doAgain_22 : decode cX5_doAgain 22 = .ok (.istore 5, 2) := by decide +kernel
theorem dX5_doAgain_24 : decode cX5_doAgain 24 = .ok (.iload 5, 2) := by decide +kernel
theorem dX5_doAgain_26 : decode cX5_doAgain 26 = .ok (.iload 4, 2) := by decide +kernel
theorem dX5_doAgain_28 : decode cX5_doAgain 28 = .ok (.if_icmp .gt 107, 3) := by decide +kernel
theorem dX5_doAgain_31 : decode cX5_doAgain 31 = .ok (.aload_n 1, 1) := by decide +kernel
theorem dX5_doAgain_32 : decode cX5_doAgain 32 = .ok (.aload_n 1, 1) := by decide +kernel
theorem dX5_doAgain_33 : decode cX5_doAgain 33 = .ok (.getfield 105, 3) := by decide +kernel
theorem dX5_doAgain_36 : decode cX5_doAgain 36 = .ok (.iload 5, 2) := by decide +kernel
theorem dX5_doAgain_38 : decode cX5_doAgain 38 = .ok (.invokevirtual 76, 3) := by decide +kernel
theorem dX5_doAgain_41 : decode cX5_doAgain 41 = .ok (.istore 6, 2) := by decide +kernel
theorem dX5_doAgain_43 : decode cX5_doAgain 43 = .ok (.aload_n 1, 1) := by decide +kernel
theorem dX5_doAgain_44 : decode cX5_doAgain 44 = .ok (.aload_n 1, 1) := by decide +kernel
theorem dX5_doAgain_45 : decode cX5_doAgain 45 = .ok (.getfield 102, 3) := by decide +kernel
theorem dX5_doAgain_48 : decode cX5_doAgain 48 = .ok (.iload 5, 2) := by decide +kernel
theorem dX5_doAgain_50 : decode cX5_doAgain 50 = .ok (.invokevirtual 76, 3) := by decide +kernel
theorem dX5_doAgain_53 : decode cX5_doAgain 53 = .ok (.istore 7, 2) := by decide +kernel
theorem dX5_doAgain_55 : decode cX5_doAgain 55 = .ok (.iload 6, 2) := by decide +kernel
theorem dX5_doAgain_57 : decode cX5_doAgain 57 = .ok (.iconst 1, 1) := by decide +kernel
theorem dX5_doAgain_58 : decode cX5_doAgain 58 = .ok (.if_icmp .eq 9, 3) := by decide +kernel
theorem dX5_doAgain_61 : decode cX5_doAgain 61 = .ok (.iload 6, 2) := by decide +kernel
theorem dX5_doAgain_63 : decode cX5_doAgain 63 = .ok (.iconst 3, 1) := by decide +kernel
theorem dX5_doAgain_64 : decode cX5_doAgain 64 = .ok (.if_icmp .ne 7, 3) := by decide +kernel
theorem dX5_doAgain_67 : decode cX5_doAgain 67 = .ok (.iconst 1, 1) := by decide +kernel
theorem dX5_doAgain_68 : decode cX5_doAgain 68 = .ok (.goto 4, 3) := by decide +kernel
theorem dX5_doAgain_71 : decode cX5_doAgain 71 = .ok (.iconst 0, 1) := by decide +kernel
theorem dX5_doAgain_72 : decode cX5_doAgain 72 = .ok (.istore 8, 2) := by decide +kernel
theorem dX5_doAgain_74 : decode cX5_doAgain 74 = .ok (.iload 8, 2) := by decide +kernel
theorem dX5_doAgain_76 : decode cX5_doAgain 76 = .ok (.ifCond .eq 53, 3) := by decide +kernel
theorem dX5_doAgain_79 : decode cX5_doAgain 79 = .ok (.aload_n 0, 1) := by decide +kernel
theorem dX5_doAgain_80 : decode cX5_doAgain 80 = .ok (.iload 7, 2) := by decide +kernel
theorem dX5_doAgain_82 : decode cX5_doAgain 82 = .ok (.iload 5, 2) := by decide +kernel
theorem dX5_doAgain_84 : decode cX5_doAgain 84 = .ok (.invokevirtual 111, 3) := by decide +kernel
theorem dX5_doAgain_87 : decode cX5_doAgain 87 = .ok (.ifCond .eq 42, 3) := by decide +kernel
theorem dX5_doAgain_90 : decode cX5_doAgain 90 = .ok (.aload_n 2, 1) := by decide +kernel
theorem dX5_doAgain_91 : decode cX5_doAgain 91 = .ok (.iload 7, 2) := by decide +kernel
theorem dX5_doAgain_93 : decode cX5_doAgain 93 = .ok (.invokevirtual 115, 3) := by decide +kernel
theorem dX5_doAgain_96 : decode cX5_doAgain 96 = .ok (.iload 5, 2) := by decide +kernel
theorem dX5_doAgain_98 : decode cX5_doAgain 98 = .ok (.if_icmp .ge 31, 3) := by decide +kernel
theorem dX5_doAgain_101 : decode cX5_doAgain 101 = .ok (.aload_n 2, 1) := by decide +kernel
theorem dX5_doAgain_102 : decode cX5_doAgain 102 = .ok (.iload 7, 2) := by decide +kernel
theorem dX5_doAgain_104 : decode cX5_doAgain 104 = .ok (.aload_n 1, 1) := by decide +kernel
theorem dX5_doAgain_105 : decode cX5_doAgain 105 = .ok (.aload_n 1, 1) := by decide +kernel
theorem dX5_doAgain_106 : decode cX5_doAgain 106 = .ok (.getfield 120, 3) := by decide +kernel
theorem dX5_doAgain_109 : decode cX5_doAgain 109 = .ok (.iload 5, 2) := by decide +kernel
theorem dX5_doAgain_111 : decode cX5_doAgain 111 = .ok (.invokevirtual 76, 3) := by decide +kernel
theorem dX5_doAgain_114 : decode cX5_doAgain 114 = .ok (.iload 5, 2) := by decide +kernel
theorem dX5_doAgain_116 : decode cX5_doAgain 116 = .ok (.invokevirtual 123, 3) := by decide +kernel
theorem dX5_doAgain_119 : decode cX5_doAgain 119 = .ok (.aload_n 0, 1) := by decide +kernel
theorem dX5_doAgain_120 : decode cX5_doAgain 120 = .ok (.dup, 1) := by decide +kernel
theorem dX5_doAgain_121 : decode cX5_doAgain 121 = .ok (.getfield 59, 3) := by decide +kernel
theorem dX5_doAgain_124 : decode cX5_doAgain 124 = .ok (.iconst 1, 1) := by decide +kernel
theorem dX5_doAgain_125 : decode cX5_doAgain 125 = .ok (.iadd, 1) := by decide +kernel
theorem dX5_doAgain_126 : decode cX5_doAgain 126 = .ok (.putfield 59, 3) := by decide +kernel
theorem dX5_doAgain_129 : decode cX5_doAgain 129 = .ok (.iinc 5 1, 3) := by decide +kernel
theorem dX5_doAgain_132 : decode cX5_doAgain 132 = .ok (.goto (-108), 3) := by decide +kernel
theorem dX5_doAgain_135 : decode cX5_doAgain 135 = .ok (.return_, 1) := by decide +kernel
theorem dX5_isAfterStart_0 : decode cX5_isAfterStart 0 = .ok (.iload_n 1, 1) := by decide +kernel
theorem dX5_isAfterStart_1 : decode cX5_isAfterStart 1 = .ok (.ifCond .lt 32, 3) := by decide +kernel
theorem dX5_isAfterStart_4 : decode cX5_isAfterStart 4 = .ok (.iload_n 1, 1) := by decide +kernel
theorem dX5_isAfterStart_5 : decode cX5_isAfterStart 5 = .ok (.bipush 8, 2) := by decide +kernel
theorem dX5_isAfterStart_7 : decode cX5_isAfterStart 7 = .ok (.if_icmp .ge 26, 3) := by decide +kernel
theorem dX5_isAfterStart_10 : decode cX5_isAfterStart 10 = .ok (.aload_n 0, 1) := by decide +kernel
theorem dX5_isAfterStart_11 : decode cX5_isAfterStart 11 = .ok (.getfield 9, 3) := by decide +kernel
theorem dX5_isAfterStart_14 : decode cX5_isAfterStart 14 = .ok (.iload_n 1, 1) := by decide +kernel
theorem dX5_isAfterStart_15 : decode cX5_isAfterStart 15 = .ok (.iaload, 1) := by decide +kernel
theorem dX5_isAfterStart_16 : decode cX5_isAfterStart 16 = .ok (.ifCond .eq 17, 3) := by decide +kernel
theorem dX5_isAfterStart_19 : decode cX5_isAfterStart 19 = .ok (.aload_n 0, 1) := by decide +kernel
theorem dX5_isAfterStart_20 : decode cX5_isAfterStart 20 = .ok (.getfield 9, 3) := by decide +kernel
theorem dX5_isAfterStart_23 : decode cX5_isAfterStart 23 = .ok (.iload_n 1, 1) := by decide +kernel
theorem dX5_isAfterStart_24 : decode cX5_isAfterStart 24 = .ok (.iaload, 1) := by decide +kernel
theorem dX5_isAfterStart_25 : decode cX5_isAfterStart 25 = .ok (.iload_n 2, 1) := by decide +kernel
theorem dX5_isAfterStart_26 : decode cX5_isAfterStart 26 = .ok (.if_icmp .gt 7, 3) := by decide +kernel
theorem dX5_isAfterStart_29 : decode cX5_isAfterStart 29 = .ok (.iconst 1, 1) := by decide +kernel
theorem dX5_isAfterStart_30 : decode cX5_isAfterStart 30 = .ok (.goto 4, 3) := by decide +kernel
theorem dX5_isAfterStart_33 : decode cX5_isAfterStart 33 = .ok (.iconst 0, 1) := by decide +kernel
theorem dX5_isAfterStart_34 : decode cX5_isAfterStart 34 = .ok (.ireturn, 1) := by decide +kernel
theorem dX5_leastStart_0 : decode cX5_leastStart 0 = .ok (.iconst 0, 1) := by decide +kernel
theorem dX5_leastStart_1 : decode cX5_leastStart 1 = .ok (.istore_n 1, 1) := by decide +kernel
theorem dX5_leastStart_2 : decode cX5_leastStart 2 = .ok (.iconst 0, 1) := by decide +kernel
theorem dX5_leastStart_3 : decode cX5_leastStart 3 = .ok (.istore_n 2, 1) := by decide +kernel
theorem dX5_leastStart_4 : decode cX5_leastStart 4 = .ok (.iload_n 2, 1) := by decide +kernel
theorem dX5_leastStart_5 : decode cX5_leastStart 5 = .ok (.bipush 8, 2) := by decide +kernel
theorem dX5_leastStart_7 : decode cX5_leastStart 7 = .ok (.if_icmp .ge 39, 3) := by decide +kernel
theorem dX5_leastStart_10 : decode cX5_leastStart 10 = .ok (.aload_n 0, 1) := by decide +kernel
theorem dX5_leastStart_11 : decode cX5_leastStart 11 = .ok (.getfield 9, 3) := by decide +kernel
theorem dX5_leastStart_14 : decode cX5_leastStart 14 = .ok (.iload_n 2, 1) := by decide +kernel
theorem dX5_leastStart_15 : decode cX5_leastStart 15 = .ok (.iaload, 1) := by decide +kernel
theorem dX5_leastStart_16 : decode cX5_leastStart 16 = .ok (.ifCond .eq 24, 3) := by decide +kernel
theorem dX5_leastStart_19 : decode cX5_leastStart 19 = .ok (.iload_n 1, 1) := by decide +kernel
theorem dX5_leastStart_20 : decode cX5_leastStart 20 = .ok (.ifCond .eq 13, 3) := by decide +kernel
theorem dX5_leastStart_23 : decode cX5_leastStart 23 = .ok (.aload_n 0, 1) := by decide +kernel
theorem dX5_leastStart_24 : decode cX5_leastStart 24 = .ok (.getfield 9, 3) := by decide +kernel
theorem dX5_leastStart_27 : decode cX5_leastStart 27 = .ok (.iload_n 2, 1) := by decide +kernel
theorem dX5_leastStart_28 : decode cX5_leastStart 28 = .ok (.iaload, 1) := by decide +kernel
theorem dX5_leastStart_29 : decode cX5_leastStart 29 = .ok (.iload_n 1, 1) := by decide +kernel
theorem dX5_leastStart_30 : decode cX5_leastStart 30 = .ok (.if_icmp .ge 10, 3) := by decide +kernel
theorem dX5_leastStart_33 : decode cX5_leastStart 33 = .ok (.aload_n 0, 1) := by decide +kernel
theorem dX5_leastStart_34 : decode cX5_leastStart 34 = .ok (.getfield 9, 3) := by decide +kernel
theorem dX5_leastStart_37 : decode cX5_leastStart 37 = .ok (.iload_n 2, 1) := by decide +kernel
theorem dX5_leastStart_38 : decode cX5_leastStart 38 = .ok (.iaload, 1) := by decide +kernel
theorem dX5_leastStart_39 : decode cX5_leastStart 39 = .ok (.istore_n 1, 1) := by decide +kernel
theorem dX5_leastStart_40 : decode cX5_leastStart 40 = .ok (.iinc 2 1, 3) := by decide +kernel
theorem dX5_leastStart_43 : decode cX5_leastStart 43 = .ok (.goto (-39), 3) := by decide +kernel
theorem dX5_leastStart_46 : decode cX5_leastStart 46 = .ok (.iload_n 1, 1) := by decide +kernel
theorem dX5_leastStart_47 : decode cX5_leastStart 47 = .ok (.ireturn, 1) := by decide +kernel
theorem dX5_takeLosersBack_0 : decode cX5_takeLosersBack 0 = .ok (.aload_n 1, 1) := by decide +kernel
theorem dX5_takeLosersBack_1 : decode cX5_takeLosersBack 1 = .ok (.getfield 25, 3) := by decide +kernel
theorem dX5_takeLosersBack_4 : decode cX5_takeLosersBack 4 = .ok (.astore_n 2, 1) := by decide +kernel
theorem dX5_takeLosersBack_5 : decode cX5_takeLosersBack 5 = .ok (.aload_n 0, 1) := by decide +kernel
theorem dX5_takeLosersBack_6 : decode cX5_takeLosersBack 6 = .ok (.iconst 0, 1) := by decide +kernel
theorem dX5_takeLosersBack_7 : decode cX5_takeLosersBack 7 = .ok (.putfield 60, 3) := by decide +kernel
theorem dX5_takeLosersBack_10 : decode cX5_takeLosersBack 10 = .ok (.iconst 0, 1) := by decide +kernel
theorem dX5_takeLosersBack_11 : decode cX5_takeLosersBack 11 = .ok (.istore_n 3, 1) := by decide +kernel
theorem dX5_takeLosersBack_12 : decode cX5_takeLosersBack 12 = .ok (.iload_n 3, 1) := by decide +kernel
theorem dX5_takeLosersBack_13 : decode cX5_takeLosersBack 13 = .ok (.sipush 128, 3) := by decide +kernel
theorem dX5_takeLosersBack_16 : decode cX5_takeLosersBack 16 = .ok (.if_icmp .ge 16, 3) := by decide +kernel
theorem dX5_takeLosersBack_19 : decode cX5_takeLosersBack 19 = .ok (.aload_n 0, 1) := by decide +kernel
theorem dX5_takeLosersBack_20 : decode cX5_takeLosersBack 20 = .ok (.getfield 15, 3) := by decide +kernel
theorem dX5_takeLosersBack_23 : decode cX5_takeLosersBack 23 = .ok (.iload_n 3, 1) := by decide +kernel
theorem dX5_takeLosersBack_24 : decode cX5_takeLosersBack 24 = .ok (.iconst 0, 1) := by decide +kernel
theorem dX5_takeLosersBack_25 : decode cX5_takeLosersBack 25 = .ok (.iastore, 1) := by decide +kernel
theorem dX5_takeLosersBack_26 : decode cX5_takeLosersBack 26 = .ok (.iinc 3 1, 3) := by decide +kernel
theorem dX5_takeLosersBack_29 : decode cX5_takeLosersBack 29 = .ok (.goto (-17), 3) := by decide +kernel
theorem dX5_takeLosersBack_32 : decode cX5_takeLosersBack 32 = .ok (.aload_n 0, 1) := by decide +kernel
theorem dX5_takeLosersBack_33 : decode cX5_takeLosersBack 33 = .ok (.getfield 63, 3) := by decide +kernel
theorem dX5_takeLosersBack_36 : decode cX5_takeLosersBack 36 = .ok (.istore_n 3, 1) := by decide +kernel
theorem dX5_takeLosersBack_37 : decode cX5_takeLosersBack 37 = .ok (.aload_n 2, 1) := by decide +kernel
theorem dX5_takeLosersBack_38 : decode cX5_takeLosersBack 38 = .ok (.invokevirtual 45, 3) := by decide +kernel
theorem dX5_takeLosersBack_41 : decode cX5_takeLosersBack 41 = .ok (.istore 4, 2) := by decide +kernel
theorem dX5_takeLosersBack_43 : decode cX5_takeLosersBack 43 = .ok (.iload 4, 2) := by decide +kernel
theorem dX5_takeLosersBack_45 : decode cX5_takeLosersBack 45 = .ok (.aload_n 2, 1) := by decide +kernel
theorem dX5_takeLosersBack_46 : decode cX5_takeLosersBack 46 = .ok (.getfield 92, 3) := by decide +kernel
theorem dX5_takeLosersBack_49 : decode cX5_takeLosersBack 49 = .ok (.if_icmp .lt 162, 3) := by decide +kernel
theorem dX5_takeLosersBack_52 : decode cX5_takeLosersBack 52 = .ok (.iload_n 3, 1) := by decide +kernel
theorem dX5_takeLosersBack_53 : decode cX5_takeLosersBack 53 = .ok (.ifCond .eq 158, 3) := by decide +kernel
theorem dX5_takeLosersBack_56 : decode cX5_takeLosersBack 56 = .ok (.aload_n 2, 1) := by decide +kernel
theorem dX5_takeLosersBack_57 : decode cX5_takeLosersBack 57 = .ok (.aload_n 2, 1) := by decide +kernel
theorem dX5_takeLosersBack_58 : decode cX5_takeLosersBack 58 = .ok (.getfield 105, 3) := by decide +kernel
theorem dX5_takeLosersBack_61 : decode cX5_takeLosersBack 61 = .ok (.iload 4, 2) := by decide +kernel
theorem dX5_takeLosersBack_63 : decode cX5_takeLosersBack 63 = .ok (.invokevirtual 76, 3) := by decide +kernel
theorem dX5_takeLosersBack_66 : decode cX5_takeLosersBack 66 = .ok (.istore 5, 2) := by decide +kernel
theorem dX5_takeLosersBack_68 : decode cX5_takeLosersBack 68 = .ok (.aload_n 2, 1) := by decide +kernel
theorem dX5_takeLosersBack_69 : decode cX5_takeLosersBack 69 = .ok (.aload_n 2, 1) := by decide +kernel
theorem dX5_takeLosersBack_70 : decode cX5_takeLosersBack 70 = .ok (.getfield 99, 3) := by decide +kernel
theorem dX5_takeLosersBack_73 : decode cX5_takeLosersBack 73 = .ok (.iload 4, 2) := by decide +kernel
theorem dX5_takeLosersBack_75 : decode cX5_takeLosersBack 75 = .ok (.invokevirtual 76, 3) := by decide +kernel
theorem dX5_takeLosersBack_78 : decode cX5_takeLosersBack 78 = .ok (.istore 6, 2) := by decide +kernel
theorem dX5_takeLosersBack_80 : decode cX5_takeLosersBack 80 = .ok (.iload 6, 2) := by decide +kernel
theorem dX5_takeLosersBack_82 : decode cX5_takeLosersBack 82 = .ok (.ifCond .lt 23, 3) := by decide +kernel
theorem dX5_takeLosersBack_85 : decode cX5_takeLosersBack 85 = .ok (.iload 6, 2) := by decide +kernel
theorem dX5_takeLosersBack_87 : decode cX5_takeLosersBack 87 = .ok (.iconst 4, 1) := by decide +kernel
theorem dX5_takeLosersBack_88 : decode cX5_takeLosersBack 88 = .ok (.if_icmp .ge 17, 3) := by decide +kernel
theorem dX5_takeLosersBack_91 : decode cX5_takeLosersBack 91 = .ok (.iload_n 3, 1) := by decide +kernel
theorem dX5_takeLosersBack_92 : decode cX5_takeLosersBack 92 = .ok (.iload 6, 2) := by decide +kernel
theorem dX5_takeLosersBack_94 : decode cX5_takeLosersBack 94 = .ok (.ishr, 1) := by decide +kernel
theorem dX5_takeLosersBack_95 : decode cX5_takeLosersBack 95 = .ok (.iconst 1, 1) := by decide +kernel
theorem dX5_takeLosersBack_96 : decode cX5_takeLosersBack 96 = .ok (.iand, 1) := by decide +kernel
theorem dX5_takeLosersBack_97 : decode cX5_takeLosersBack 97 = .ok (.iconst 1, 1) := by decide +kernel
theorem dX5_takeLosersBack_98 : decode cX5_takeLosersBack 98 = .ok (.if_icmp .ne 7, 3) := by decide +kernel
theorem dX5_takeLosersBack_101 : decode cX5_takeLosersBack 101 = .ok (.iconst 1, 1) := by decide +kernel
theorem dX5_takeLosersBack_102 : decode cX5_takeLosersBack 102 = .ok (.goto 4, 3) := by decide +kernel
theorem dX5_takeLosersBack_105 : decode cX5_takeLosersBack 105 = .ok (.iconst 0, 1) := by decide +kernel
theorem dX5_takeLosersBack_106 : decode cX5_takeLosersBack 106 = .ok (.istore 7, 2) := by decide +kernel
theorem dX5_takeLosersBack_108 : decode cX5_takeLosersBack 108 = .ok (.iload 5, 2) := by decide +kernel
theorem dX5_takeLosersBack_110 : decode cX5_takeLosersBack 110 = .ok (.iconst 3, 1) := by decide +kernel
theorem dX5_takeLosersBack_111 : decode cX5_takeLosersBack 111 = .ok (.if_icmp .ne 25, 3) := by decide +kernel
theorem dX5_takeLosersBack_114 : decode cX5_takeLosersBack 114 = .ok (.aload_n 0, 1) := by decide +kernel
theorem dX5_takeLosersBack_115 : decode cX5_takeLosersBack 115 = .ok (.aload_n 2, 1) := by decide +kernel
theorem dX5_takeLosersBack_116 : decode cX5_takeLosersBack 116 = .ok (.aload_n 2, 1) := by decide +kernel
theorem dX5_takeLosersBack_117 : decode cX5_takeLosersBack 117 = .ok (.getfield 127, 3) := by decide +kernel
theorem dX5_takeLosersBack_120 : decode cX5_takeLosersBack 120 = .ok (.iload 4, 2) := by decide +kernel
theorem dX5_takeLosersBack_122 : decode cX5_takeLosersBack 122 = .ok (.invokevirtual 76, 3) := by decide +kernel
theorem dX5_takeLosersBack_125 : decode cX5_takeLosersBack 125 = .ok (.aload_n 2, 1) := by decide +kernel
theorem dX5_takeLosersBack_126 : decode cX5_takeLosersBack 126 = .ok (.getfield 92, 3) := by decide +kernel
theorem dX5_takeLosersBack_129 : decode cX5_takeLosersBack 129 = .ok (.isub, 1) := by decide +kernel
theorem dX5_takeLosersBack_130 : decode cX5_takeLosersBack 130 = .ok (.invokevirtual 130, 3) := by decide +kernel
theorem dX5_takeLosersBack_133 : decode cX5_takeLosersBack 133 = .ok (.goto 72, 3) := by decide +kernel
theorem dX5_takeLosersBack_136 : decode cX5_takeLosersBack 136 = .ok (.iload 7, 2) := by decide +kernel
theorem dX5_takeLosersBack_138 : decode cX5_takeLosersBack 138 = .ok (.ifCond .eq 26, 3) := by decide +kernel
theorem dX5_takeLosersBack_141 : decode cX5_takeLosersBack 141 = .ok (.iload 5, 2) := by decide +kernel
theorem dX5_takeLosersBack_143 : decode cX5_takeLosersBack 143 = .ok (.ifCond .ne 21, 3) := by decide +kernel
theorem dX5_takeLosersBack_146 : decode cX5_takeLosersBack 146 = .ok (.aload_n 1, 1) := by decide +kernel
theorem dX5_takeLosersBack_147 : decode cX5_takeLosersBack 147 = .ok (.iload 6, 2) := by decide +kernel
theorem dX5_takeLosersBack_149 : decode cX5_takeLosersBack 149 = .ok (.invokevirtual 134, 3) := by decide +kernel
theorem dX5_takeLosersBack_152 : decode cX5_takeLosersBack 152 = .ok (.iload_n 3, 1) := by decide +kernel
theorem dX5_takeLosersBack_153 : decode cX5_takeLosersBack 153 = .ok (.iconst 1, 1) := by decide +kernel
theorem dX5_takeLosersBack_154 : decode cX5_takeLosersBack 154 = .ok (.iload 6, 2) := by decide +kernel
theorem dX5_takeLosersBack_156 : decode cX5_takeLosersBack 156 = .ok (.ishl, 1) := by decide +kernel
theorem dX5_takeLosersBack_157 : decode cX5_takeLosersBack 157 = .ok (.iconst (-1), 1) := by decide +kernel
theorem dX5_takeLosersBack_158 : decode cX5_takeLosersBack 158 = .ok (.ixor, 1) := by decide +kernel
theorem dX5_takeLosersBack_159 : decode cX5_takeLosersBack 159 = .ok (.iand, 1) := by decide +kernel
theorem dX5_takeLosersBack_160 : decode cX5_takeLosersBack 160 = .ok (.istore_n 3, 1) := by decide +kernel
theorem dX5_takeLosersBack_161 : decode cX5_takeLosersBack 161 = .ok (.goto 44, 3) := by decide +kernel
theorem dX5_takeLosersBack_164 : decode cX5_takeLosersBack 164 = .ok (.iload 7, 2) := by decide +kernel
theorem dX5_takeLosersBack_166 : decode cX5_takeLosersBack 166 = .ok (.ifCond .eq 39, 3) := by decide +kernel
theorem dX5_takeLosersBack_169 : decode cX5_takeLosersBack 169 = .ok (.iload 5, 2) := by decide +kernel
theorem dX5_takeLosersBack_171 : decode cX5_takeLosersBack 171 = .ok (.iconst 1, 1) := by decide +kernel
theorem dX5_takeLosersBack_172 : decode cX5_takeLosersBack 172 = .ok (.if_icmp .ne 33, 3) := by decide +kernel
theorem dX5_takeLosersBack_175 : decode cX5_takeLosersBack 175 = .ok (.aload_n 0, 1) := by decide +kernel
theorem dX5_takeLosersBack_176 : decode cX5_takeLosersBack 176 = .ok (.iload 4, 2) := by decide +kernel
theorem dX5_takeLosersBack_178 : decode cX5_takeLosersBack 178 = .ok (.aload_n 2, 1) := by decide +kernel
theorem dX5_takeLosersBack_179 : decode cX5_takeLosersBack 179 = .ok (.getfield 92, 3) := by decide +kernel
theorem dX5_takeLosersBack_182 : decode cX5_takeLosersBack 182 = .ok (.isub, 1) := by decide +kernel
theorem dX5_takeLosersBack_183 : decode cX5_takeLosersBack 183 = .ok (.invokevirtual 137, 3) := by decide +kernel
theorem dX5_takeLosersBack_186 : decode cX5_takeLosersBack 186 = .ok (.ifCond .ne 19, 3) := by decide +kernel
theorem dX5_takeLosersBack_189 : decode cX5_takeLosersBack 189 = .ok (.aload_n 1, 1) := by decide +kernel
theorem dX5_takeLosersBack_190 : decode cX5_takeLosersBack 190 = .ok (.iload 4, 2) := by decide +kernel
theorem dX5_takeLosersBack_192 : decode cX5_takeLosersBack 192 = .ok (.invokevirtual 141, 3) := by decide +kernel
theorem dX5_takeLosersBack_195 : decode cX5_takeLosersBack 195 = .ok (.aload_n 0, 1) := by decide +kernel
theorem dX5_takeLosersBack_196 : decode cX5_takeLosersBack 196 = .ok (.dup, 1) := by decide +kernel
theorem dX5_takeLosersBack_197 : decode cX5_takeLosersBack 197 = .ok (.getfield 60, 3) := by decide +kernel
theorem dX5_takeLosersBack_200 : decode cX5_takeLosersBack 200 = .ok (.iconst 1, 1) := by decide +kernel
theorem dX5_takeLosersBack_201 : decode cX5_takeLosersBack 201 = .ok (.iadd, 1) := by decide +kernel
theorem dX5_takeLosersBack_202 : decode cX5_takeLosersBack 202 = .ok (.putfield 60, 3) := by decide +kernel
theorem dX5_takeLosersBack_205 : decode cX5_takeLosersBack 205 = .ok (.iinc 4 (-1), 3) := by decide +kernel
theorem dX5_takeLosersBack_208 : decode cX5_takeLosersBack 208 = .ok (.goto (-165), 3) := by decide +kernel
theorem dX5_takeLosersBack_211 : decode cX5_takeLosersBack 211 = .ok (.return_, 1) := by decide +kernel
theorem dX5_noteTakenBack_0 : decode cX5_noteTakenBack 0 = .ok (.iload_n 1, 1) := by decide +kernel
theorem dX5_noteTakenBack_1 : decode cX5_noteTakenBack 1 = .ok (.ifCond .lt 17, 3) := by decide +kernel
theorem dX5_noteTakenBack_4 : decode cX5_noteTakenBack 4 = .ok (.iload_n 1, 1) := by decide +kernel
theorem dX5_noteTakenBack_5 : decode cX5_noteTakenBack 5 = .ok (.sipush 128, 3) := by decide +kernel
theorem dX5_noteTakenBack_8 : decode cX5_noteTakenBack 8 = .ok (.if_icmp .ge 10, 3) := by decide +kernel
theorem dX5_noteTakenBack_11 : decode cX5_noteTakenBack 11 = .ok (.aload_n 0, 1) := by decide +kernel
theorem dX5_noteTakenBack_12 : decode cX5_noteTakenBack 12 = .ok (.getfield 15, 3) := by decide +kernel
theorem dX5_noteTakenBack_15 : decode cX5_noteTakenBack 15 = .ok (.iload_n 1, 1) := by decide +kernel
theorem dX5_noteTakenBack_16 : decode cX5_noteTakenBack 16 = .ok (.iconst 1, 1) := by decide +kernel
theorem dX5_noteTakenBack_17 : decode cX5_noteTakenBack 17 = .ok (.iastore, 1) := by decide +kernel
theorem dX5_noteTakenBack_18 : decode cX5_noteTakenBack 18 = .ok (.return_, 1) := by decide +kernel
theorem dX5_isTakenBack_0 : decode cX5_isTakenBack 0 = .ok (.iload_n 1, 1) := by decide +kernel
theorem dX5_isTakenBack_1 : decode cX5_isTakenBack 1 = .ok (.ifCond .lt 24, 3) := by decide +kernel
theorem dX5_isTakenBack_4 : decode cX5_isTakenBack 4 = .ok (.iload_n 1, 1) := by decide +kernel
theorem dX5_isTakenBack_5 : decode cX5_isTakenBack 5 = .ok (.sipush 128, 3) := by decide +kernel
theorem dX5_isTakenBack_8 : decode cX5_isTakenBack 8 = .ok (.if_icmp .ge 17, 3) := by decide +kernel
theorem dX5_isTakenBack_11 : decode cX5_isTakenBack 11 = .ok (.aload_n 0, 1) := by decide +kernel
theorem dX5_isTakenBack_12 : decode cX5_isTakenBack 12 = .ok (.getfield 15, 3) := by decide +kernel
theorem dX5_isTakenBack_15 : decode cX5_isTakenBack 15 = .ok (.iload_n 1, 1) := by decide +kernel
theorem dX5_isTakenBack_16 : decode cX5_isTakenBack 16 = .ok (.iaload, 1) := by decide +kernel
theorem dX5_isTakenBack_17 : decode cX5_isTakenBack 17 = .ok (.iconst 1, 1) := by decide +kernel
theorem dX5_isTakenBack_18 : decode cX5_isTakenBack 18 = .ok (.if_icmp .ne 7, 3) := by decide +kernel
theorem dX5_isTakenBack_21 : decode cX5_isTakenBack 21 = .ok (.iconst 1, 1) := by decide +kernel
theorem dX5_isTakenBack_22 : decode cX5_isTakenBack 22 = .ok (.goto 4, 3) := by decide +kernel
theorem dX5_isTakenBack_25 : decode cX5_isTakenBack 25 = .ok (.iconst 0, 1) := by decide +kernel
theorem dX5_isTakenBack_26 : decode cX5_isTakenBack 26 = .ok (.ireturn, 1) := by decide +kernel
theorem dX6_init_0 : decode cX6_init 0 = .ok (.aload_n 0, 1) := by decide +kernel
theorem dX6_init_1 : decode cX6_init 1 = .ok (.invokespecial 3, 3) := by decide +kernel
theorem dX6_init_4 : decode cX6_init 4 = .ok (.aload_n 0, 1) := by decide +kernel
theorem dX6_init_5 : decode cX6_init 5 = .ok (.new 9, 3) := by decide +kernel
theorem dX6_init_8 : decode cX6_init 8 = .ok (.dup, 1) := by decide +kernel
theorem dX6_init_9 : decode cX6_init 9 = .ok (.invokespecial 11, 3) := by decide +kernel
theorem dX6_init_12 : decode cX6_init 12 = .ok (.putfield 12, 3) := by decide +kernel
theorem dX6_init_15 : decode cX6_init 15 = .ok (.aload_n 0, 1) := by decide +kernel
theorem dX6_init_16 : decode cX6_init 16 = .ok (.new 18, 3) := by decide +kernel
theorem dX6_init_19 : decode cX6_init 19 = .ok (.dup, 1) := by decide +kernel
theorem dX6_init_20 : decode cX6_init 20 = .ok (.invokespecial 20, 3) := by decide +kernel
theorem dX6_init_23 : decode cX6_init 23 = .ok (.putfield 21, 3) := by decide +kernel
theorem dX6_init_26 : decode cX6_init 26 = .ok (.aload_n 0, 1) := by decide +kernel
theorem dX6_init_27 : decode cX6_init 27 = .ok (.new 25, 3) := by decide +kernel
theorem dX6_init_30 : decode cX6_init 30 = .ok (.dup, 1) := by decide +kernel
theorem dX6_init_31 : decode cX6_init 31 = .ok (.invokespecial 27, 3) := by decide +kernel
theorem dX6_init_34 : decode cX6_init 34 = .ok (.putfield 28, 3) := by decide +kernel
theorem dX6_init_37 : decode cX6_init 37 = .ok (.return_, 1) := by decide +kernel
theorem dX6_copyFrom_0 : decode cX6_copyFrom 0 = .ok (.aload_n 0, 1) := by decide +kernel
theorem dX6_copyFrom_1 : decode cX6_copyFrom 1 = .ok (.getfield 12, 3) := by decide +kernel
theorem dX6_copyFrom_4 : decode cX6_copyFrom 4 = .ok (.aload_n 1, 1) := by decide +kernel
theorem dX6_copyFrom_5 : decode cX6_copyFrom 5 = .ok (.getfield 12, 3) := by decide +kernel
theorem dX6_copyFrom_8 : decode cX6_copyFrom 8 = .ok (.invokevirtual 32, 3) := by decide +kernel
theorem dX6_copyFrom_11 : decode cX6_copyFrom 11 = .ok (.aload_n 0, 1) := by decide +kernel
theorem dX6_copyFrom_12 : decode cX6_copyFrom 12 = .ok (.getfield 21, 3) := by decide +kernel
theorem dX6_copyFrom_15 : decode cX6_copyFrom 15 = .ok (.aload_n 1, 1) := by decide +kernel
theorem dX6_copyFrom_16 : decode cX6_copyFrom 16 = .ok (.getfield 21, 3) := by decide +kernel
theorem dX6_copyFrom_19 : decode cX6_copyFrom 19 = .ok (.invokevirtual 36, 3) := by decide +kernel
theorem dX6_copyFrom_22 : decode cX6_copyFrom 22 = .ok (.aload_n 0, 1) := by decide +kernel
theorem dX6_copyFrom_23 : decode cX6_copyFrom 23 = .ok (.getfield 28, 3) := by decide +kernel
theorem dX6_copyFrom_26 : decode cX6_copyFrom 26 = .ok (.aload_n 1, 1) := by decide +kernel
theorem dX6_copyFrom_27 : decode cX6_copyFrom 27 = .ok (.getfield 28, 3) := by decide +kernel
theorem dX6_copyFrom_30 : decode cX6_copyFrom 30 = .ok (.invokevirtual 39, 3) := by decide +kernel
theorem dX6_copyFrom_33 : decode cX6_copyFrom 33 = .ok (.aload_n 0, 1) := by decide +kernel
theorem dX6_copyFrom_34 : decode cX6_copyFrom 34 = .ok (.aload_n 1, 1) := by decide +kernel
theorem dX6_copyFrom_35 : decode cX6_copyFrom 35 = .ok (.getfield 42, 3) := by decide +kernel
theorem dX6_copyFrom_38 : decode cX6_copyFrom 38 = .ok (.putfield 42, 3) := by decide +kernel
