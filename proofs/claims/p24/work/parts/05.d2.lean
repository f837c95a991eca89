theorem dX4_init_21 : decode cX4_init 21 = .ok (.bipush 8, 2) := by decide +kernel
theorem dX4_init_23 : decode cX4_init 23 = .ok (.newarray .int, 2) := by decide +kernel
theorem dX4_init_25 : decode cX4_init 25 = .ok (.putfield 18, 3) := by decide +kernel
theorem dX4_init_28 : decode cX4_init 28 = .ok (.aload_n 0, 1) := by decide +kernel
theorem dX4_init_29 : decode cX4_init 29 = .ok (.bipush 8, 2) := by decide +kernel
theorem dX4_init_31 : decode cX4_init 31 = .ok (.newarray .int, 2) := by decide +kernel
theorem dX4_init_33 : decode cX4_init 33 = .ok (.putfield 21, 3) := by decide +kernel
theorem dX4_init_36 : decode cX4_init 36 = .ok (.aload_n 0, 1) := by decide +kernel
theorem dX4_init_37 : decode cX4_init 37 = .ok (.bipush 8, 2) := by decide +kernel
theorem dX4_init_39 : decode cX4_init 39 = .ok (.newarray .int, 2) := by decide +kernel
theorem dX4_init_41 : decode cX4_init 41 = .ok (.putfield 24, 3) := by decide +kernel
theorem dX4_init_44 : decode cX4_init 44 = .ok (.return_, 1) := by decide +kernel
theorem dX4_copyFrom_0 : decode cX4_copyFrom 0 = .ok (.aload_n 1, 1) := by decide +kernel
theorem dX4_copyFrom_1 : decode cX4_copyFrom 1 = .ok (.getfield 9, 3) := by decide +kernel
theorem dX4_copyFrom_4 : decode cX4_copyFrom 4 = .ok (.iconst 0, 1) := by decide +kernel
theorem dX4_copyFrom_5 : decode cX4_copyFrom 5 = .ok (.aload_n 0, 1) := by decide +kernel
theorem dX4_copyFrom_6 : decode cX4_copyFrom 6 = .ok (.getfield 9, 3) := by decide +kernel
theorem dX4_copyFrom_9 : decode cX4_copyFrom 9 = .ok (.iconst 0, 1) := by decide +kernel
theorem dX4_copyFrom_10 : decode cX4_copyFrom 10 = .ok (.bipush 8, 2) := by decide +kernel
theorem dX4_copyFrom_12 : decode cX4_copyFrom 12 = .ok (.invokestatic 27, 3) := by decide +kernel
theorem dX4_copyFrom_15 : decode cX4_copyFrom 15 = .ok (.aload_n 1, 1) := by decide +kernel
theorem dX4_copyFrom_16 : decode cX4_copyFrom 16 = .ok (.getfield 15, 3) := by decide +kernel
theorem dX4_copyFrom_19 : decode cX4_copyFrom 19 = .ok (.iconst 0, 1) := by decide +kernel
theorem dX4_copyFrom_20 : decode cX4_copyFrom 20 = .ok (.aload_n 0, 1) := by decide +kernel
theorem dX4_copyFrom_21 : decode cX4_copyFrom 21 = .ok (.getfield 15, 3) := by decide +kernel
theorem dX4_copyFrom_24 : decode cX4_copyFrom 24 = .ok (.iconst 0, 1) := by decide +kernel
theorem dX4_copyFrom_25 : decode cX4_copyFrom 25 = .ok (.bipush 8, 2) := by decide +kernel
theorem dX4_copyFrom_27 : decode cX4_copyFrom 27 = .ok (.invokestatic 27, 3) := by decide +kernel
theorem dX4_copyFrom_30 : decode cX4_copyFrom 30 = .ok (.aload_n 1, 1) := by decide +kernel
theorem dX4_copyFrom_31 : decode cX4_copyFrom 31 = .ok (.getfield 18, 3) := by decide +kernel
theorem dX4_copyFrom_34 : decode cX4_copyFrom 34 = .ok (.iconst 0, 1) := by decide +kernel
theorem dX4_copyFrom_35 : decode cX4_copyFrom 35 = .ok (.aload_n 0, 1) := by decide +kernel
theorem dX4_copyFrom_36 : decode cX4_copyFrom 36 = .ok (.getfield 18, 3) := by decide +kernel
theorem dX4_copyFrom_39 : decode cX4_copyFrom 39 = .ok (.iconst 0, 1) := by decide +kernel
theorem dX4_copyFrom_40 : decode cX4_copyFrom 40 = .ok (.bipush 8, 2) := by decide +kernel
theorem dX4_copyFrom_42 : decode cX4_copyFrom 42 = .ok (.invokestatic 27, 3) := by decide +kernel
theorem dX4_copyFrom_45 : decode cX4_copyFrom 45 = .ok (.aload_n 1, 1) := by decide +kernel
theorem dX4_copyFrom_46 : decode cX4_copyFrom 46 = .ok (.getfield 21, 3) := by decide +kernel
theorem dX4_copyFrom_49 : decode cX4_copyFrom 49 = .ok (.iconst 0, 1) := by decide +kernel
theorem dX4_copyFrom_50 : decode cX4_copyFrom 50 = .ok (.aload_n 0, 1) := by decide +kernel
theorem dX4_copyFrom_51 : decode cX4_copyFrom 51 = .ok (.getfield 21, 3) := by decide +kernel
theorem dX4_copyFrom_54 : decode cX4_copyFrom 54 = .ok (.iconst 0, 1) := by decide +kernel
theorem dX4_copyFrom_55 : decode cX4_copyFrom 55 = .ok (.bipush 8, 2) := by decide +kernel
theorem dX4_copyFrom_57 : decode cX4_copyFrom 57 = .ok (.invokestatic 27, 3) := by decide +kernel
theorem dX4_copyFrom_60 : decode cX4_copyFrom 60 = .ok (.aload_n 1, 1) := by decide +kernel
theorem dX4_copyFrom_61 : decode cX4_copyFrom 61 = .ok (.getfield 24, 3) := by decide +kernel
theorem dX4_copyFrom_64 : decode cX4_copyFrom 64 = .ok (.iconst 0, 1) := by decide +kernel
theorem dX4_copyFrom_65 : decode cX4_copyFrom 65 = .ok (.aload_n 0, 1) := by decide +kernel
theorem dX4_copyFrom_66 : decode cX4_copyFrom 66 = .ok (.getfield 24, 3) := by decide +kernel
theorem dX4_copyFrom_69 : decode cX4_copyFrom 69 = .ok (.iconst 0, 1) := by decide +kernel
theorem dX4_copyFrom_70 : decode cX4_copyFrom 70 = .ok (.bipush 8, 2) := by decide +kernel
theorem dX4_copyFrom_72 : decode cX4_copyFrom 72 = .ok (.invokestatic 27, 3) := by decide +kernel
theorem dX4_copyFrom_75 : decode cX4_copyFrom 75 = .ok (.aload_n 0, 1) := by decide +kernel
theorem dX4_copyFrom_76 : decode cX4_copyFrom 76 = .ok (.aload_n 1, 1) := by decide +kernel
theorem dX4_copyFrom_77 : decode cX4_copyFrom 77 = .ok (.getfield 33, 3) := by decide +kernel
theorem dX4_copyFrom_80 : decode cX4_copyFrom 80 = .ok (.putfield 33, 3) := by decide +kernel
theorem dX4_copyFrom_83 : decode cX4_copyFrom 83 = .ok (.aload_n 0, 1) := by decide +kernel
theorem dX4_copyFrom_84 : decode cX4_copyFrom 84 = .ok (.aload_n 1, 1) := by decide +kernel
theorem dX4_copyFrom_85 : decode cX4_copyFrom 85 = .ok (.getfield 37, 3) := by decide +kernel
theorem dX4_copyFrom_88 : decode cX4_copyFrom 88 = .ok (.putfield 37, 3) := by decide +kernel
theorem dX4_copyFrom_91 : decode cX4_copyFrom 91 = .ok (.return_, 1) := by decide +kernel
theorem dX4_valueOf_0 : decode cX4_valueOf 0 = .ok (.iload_n 1, 1) := by decide +kernel
theorem dX4_valueOf_1 : decode cX4_valueOf 1 = .ok (.ifCond .lt 9, 3) := by decide +kernel
theorem dX4_valueOf_4 : decode cX4_valueOf 4 = .ok (.iload_n 1, 1) := by decide +kernel
theorem dX4_valueOf_5 : decode cX4_valueOf 5 = .ok (.bipush 8, 2) := by decide +kernel
theorem dX4_valueOf_7 : decode cX4_valueOf 7 = .ok (.if_icmp .lt 5, 3) := by decide +kernel
theorem dX4_valueOf_10 : decode cX4_valueOf 10 = .ok (.iconst 0, 1) := by decide +kernel
theorem dX4_valueOf_11 : decode cX4_valueOf 11 = .ok (.ireturn, 1) := by decide +kernel
theorem dX4_valueOf_12 : decode cX4_valueOf 12 = .ok (.aload_n 0, 1) := by decide +kernel
theorem dX4_valueOf_13 : decode cX4_valueOf 13 = .ok (.getfield 33, 3) := by decide +kernel
theorem dX4_valueOf_16 : decode cX4_valueOf 16 = .ok (.iload_n 1, 1) := by decide +kernel
theorem dX4_valueOf_17 : decode cX4_valueOf 17 = .ok (.ishr, 1) := by decide +kernel
theorem dX4_valueOf_18 : decode cX4_valueOf 18 = .ok (.iconst 1, 1) := by decide +kernel
theorem dX4_valueOf_19 : decode cX4_valueOf 19 = .ok (.iand, 1) := by decide +kernel
theorem dX4_valueOf_20 : decode cX4_valueOf 20 = .ok (.iconst 1, 1) := by decide +kernel
theorem dX4_valueOf_21 : decode cX4_valueOf 21 = .ok (.if_icmp .ne 12, 3) := by decide +kernel
theorem dX4_valueOf_24 : decode cX4_valueOf 24 = .ok (.aload_n 0, 1) := by decide +kernel
theorem dX4_valueOf_25 : decode cX4_valueOf 25 = .ok (.getfield 18, 3) := by decide +kernel
theorem dX4_valueOf_28 : decode cX4_valueOf 28 = .ok (.iload_n 1, 1) := by decide +kernel
theorem dX4_valueOf_29 : decode cX4_valueOf 29 = .ok (.iaload, 1) := by decide +kernel
theorem dX4_valueOf_30 : decode cX4_valueOf 30 = .ok (.goto 9, 3) := by decide +kernel
theorem dX4_valueOf_33 : decode cX4_valueOf 33 = .ok (.aload_n 0, 1) := by decide +kernel
theorem dX4_valueOf_34 : decode cX4_valueOf 34 = .ok (.getfield 9, 3) := by decide +kernel
theorem dX4_valueOf_37 : decode cX4_valueOf 37 = .ok (.iload_n 1, 1) := by decide +kernel
theorem dX4_valueOf_38 : decode cX4_valueOf 38 = .ok (.iaload, 1) := by decide +kernel
theorem dX4_valueOf_39 : decode cX4_valueOf 39 = .ok (.ireturn, 1) := by decide +kernel
theorem dX4_markOf_0 : decode cX4_markOf 0 = .ok (.iload_n 1, 1) := by decide +kernel
theorem dX4_markOf_1 : decode cX4_markOf 1 = .ok (.ifCond .lt 9, 3) := by decide +kernel
theorem dX4_markOf_4 : decode cX4_markOf 4 = .ok (.iload_n 1, 1) := by decide +kernel
theorem dX4_markOf_5 : decode cX4_markOf 5 = .ok (.bipush 8, 2) := by decide +kernel
theorem dX4_markOf_7 : decode cX4_markOf 7 = .ok (.if_icmp .lt 5, 3) := by decide +kernel
theorem dX4_markOf_10 : decode cX4_markOf 10 = .ok (.iconst 0, 1) := by decide +kernel
theorem dX4_markOf_11 : decode cX4_markOf 11 = .ok (.ireturn, 1) := by decide +kernel
theorem dX4_markOf_12 : decode cX4_markOf 12 = .ok (.aload_n 0, 1) := by decide +kernel
theorem dX4_markOf_13 : decode cX4_markOf 13 = .ok (.getfield 33, 3) := by decide +kernel
theorem dX4_markOf_16 : decode cX4_markOf 16 = .ok (.iload_n 1, 1) := by decide +kernel
theorem dX4_markOf_17 : decode cX4_markOf 17 = .ok (.ishr, 1) := by decide +kernel
theorem dX4_markOf_18 : decode cX4_markOf 18 = .ok (.iconst 1, 1) := by decide +kernel
theorem dX4_markOf_19 : decode cX4_markOf 19 = .ok (.iand, 1) := by decide +kernel
theorem dX4_markOf_20 : decode cX4_markOf 20 = .ok (.iconst 1, 1) := by decide +kernel
theorem dX4_markOf_21 : decode cX4_markOf 21 = .ok (.if_icmp .ne 12, 3) := by decide +kernel
theorem dX4_markOf_24 : decode cX4_markOf 24 = .ok (.aload_n 0, 1) := by decide +kernel
theorem dX4_markOf_25 : decode cX4_markOf 25 = .ok (.getfield 21, 3) := by decide +kernel
theorem dX4_markOf_28 : decode cX4_markOf 28 = .ok (.iload_n 1, 1) := by decide +kernel
theorem dX4_markOf_29 : decode cX4_markOf 29 = .ok (.iaload, 1) := by decide +kernel
theorem dX4_markOf_30 : decode cX4_markOf 30 = .ok (.goto 9, 3) := by decide +kernel
theorem dX4_markOf_33 : decode cX4_markOf 33 = .ok (.aload_n 0, 1) := by decide +kernel
theorem dX4_markOf_34 : decode cX4_markOf 34 = .ok (.getfield 15, 3) := by decide +kernel
theorem dX4_markOf_37 : decode cX4_markOf 37 = .ok (.iload_n 1, 1) := by decide +kernel
theorem dX4_markOf_38 : decode cX4_markOf 38 = .ok (.iaload, 1) := by decide +kernel
theorem dX4_markOf_39 : decode cX4_markOf 39 = .ok (.ireturn, 1) := by decide +kernel
theorem dX4_startOf_0 : decode cX4_startOf 0 = .ok (.iload_n 1, 1) := by decide +kernel
theorem dX4_startOf_1 : decode cX4_startOf 1 = .ok (.ifCond .lt 30, 3) := by decide +kernel
theorem dX4_startOf_4 : decode cX4_startOf 4 = .ok (.iload_n 1, 1) := by decide +kernel
theorem dX4_startOf_5 : decode cX4_startOf 5 = .ok (.bipush 8, 2) := by decide +kernel
theorem dX4_startOf_7 : decode cX4_startOf 7 = .ok (.if_icmp .ge 24, 3) := by decide +kernel
theorem dX4_startOf_10 : decode cX4_startOf 10 = .ok (.aload_n 0, 1) := by decide +kernel
theorem dX4_startOf_11 : decode cX4_startOf 11 = .ok (.getfield 37, 3) := by decide +kernel
theorem dX4_startOf_14 : decode cX4_startOf 14 = .ok (.iload_n 1, 1) := by decide +kernel
theorem dX4_startOf_15 : decode cX4_startOf 15 = .ok (.ishr, 1) := by decide +kernel
theorem dX4_startOf_16 : decode cX4_startOf 16 = .ok (.iconst 1, 1) := by decide +kernel
theorem dX4_startOf_17 : decode cX4_startOf 17 = .ok (.iand, 1) := by decide +kernel
theorem dX4_startOf_18 : decode cX4_startOf 18 = .ok (.iconst 1, 1) := by decide +kernel
theorem dX4_startOf_19 : decode cX4_startOf 19 = .ok (.if_icmp .ne 12, 3) := by decide +kernel
theorem dX4_startOf_22 : decode cX4_startOf 22 = .ok (.aload_n 0, 1) := by decide +kernel
theorem dX4_startOf_23 : decode cX4_startOf 23 = .ok (.getfield 24, 3) := by decide +kernel
theorem dX4_startOf_26 : decode cX4_startOf 26 = .ok (.iload_n 1, 1) := by decide +kernel
theorem dX4_startOf_27 : decode cX4_startOf 27 = .ok (.iaload, 1) := by decide +kernel
theorem dX4_startOf_28 : decode cX4_startOf 28 = .ok (.goto 5, 3) := by decide +kernel
theorem dX4_startOf_31 : decode cX4_startOf 31 = .ok (.ldc 40, 2) := by decide +kernel
theorem dX4_startOf_33 : decode cX4_startOf 33 = .ok (.ireturn, 1) := by decide +kernel
theorem dX4_put_0 : decode cX4_put 0 = .ok (.iload_n 1, 1) := by decide +kernel
theorem dX4_put_1 : decode cX4_put 1 = .ok (.ifCond .lt 9, 3) := by decide +kernel
theorem dX4_put_4 : decode cX4_put 4 = .ok (.iload_n 1, 1) := by decide +kernel
theorem dX4_put_5 : decode cX4_put 5 = .ok (.bipush 8, 2) := by decide +kernel
theorem dX4_put_7 : decode cX4_put 7 = .ok (.if_icmp .lt 4, 3) := by decide +kernel
theorem dX4_put_10 : decode cX4_put 10 = .ok (.return_, 1) := by decide +kernel
theorem dX4_put_11 : decode cX4_put 11 = .ok (.iconst 1, 1) := by decide +kernel
theorem dX4_put_12 : decode cX4_put 12 = .ok (.iload_n 1, 1) := by decide +kernel
theorem dX4_put_13 : decode cX4_put 13 = .ok (.ishl, 1) := by decide +kernel
theorem dX4_put_14 : decode cX4_put 14 = .ok (.istore 4, 2) := by decide +kernel
theorem dX4_put_16 : decode cX4_put 16 = .ok (.aload_n 0, 1) := by decide +kernel
theorem dX4_put_17 : decode cX4_put 17 = .ok (.getfield 37, 3) := by decide +kernel
theorem dX4_put_20 : decode cX4_put 20 = .ok (.iload 4, 2) := by decide +kernel
theorem dX4_put_22 : decode cX4_put 22 = .ok (.iand, 1) := by decide +kernel
theorem dX4_put_23 : decode cX4_put 23 = .ok (.ifCond .ne 10, 3) := by decide +kernel
theorem dX4_put_26 : decode cX4_put 26 = .ok (.aload_n 0, 1) := by decide +kernel
theorem dX4_put_27 : decode cX4_put 27 = .ok (.getfield 24, 3) := by decide +kernel
theorem dX4_put_30 : decode cX4_put 30 = .ok (.iload_n 1, 1) := by decide +kernel
theorem dX4_put_31 : decode cX4_put 31 = .ok (.iload_n 3, 1) := by decide +kernel
theorem dX4_put_32 : decode cX4_put 32 = .ok (.iastore, 1) := by decide +kernel
theorem dX4_put_33 : decode cX4_put 33 = .ok (.aload_n 0, 1) := by decide +kernel
theorem dX4_put_34 : decode cX4_put 34 = .ok (.getfield 18, 3) := by decide +kernel
theorem dX4_put_37 : decode cX4_put 37 = .ok (.iload_n 1, 1) := by decide +kernel
theorem dX4_put_38 : decode cX4_put 38 = .ok (.iload_n 2, 1) := by decide +kernel
theorem dX4_put_39 : decode cX4_put 39 = .ok (.iastore, 1) := by decide +kernel
theorem dX4_put_40 : decode cX4_put 40 = .ok (.aload_n 0, 1) := by decide +kernel
theorem dX4_put_41 : decode cX4_put 41 = .ok (.getfield 21, 3) := by decide +kernel
theorem dX4_put_44 : decode cX4_put 44 = .ok (.iload_n 1, 1) := by decide +kernel
theorem dX4_put_45 : decode cX4_put 45 = .ok (.iload_n 3, 1) := by decide +kernel
theorem dX4_put_46 : decode cX4_put 46 = .ok (.iastore, 1) := by decide +kernel
theorem dX4_put_47 : decode cX4_put 47 = .ok (.aload_n 0, 1) := by decide +kernel
theorem dX4_put_48 : decode cX4_put 48 = .ok (.dup, 1) := by decide +kernel
theorem dX4_put_49 : decode cX4_put 49 = .ok (.getfield 33, 3) := by decide +kernel
theorem dX4_put_52 : decode cX4_put 52 = .ok (.iload 4, 2) := by decide +kernel
theorem dX4_put_54 : decode cX4_put 54 = .ok (.ior, 1) := by decide +kernel
theorem dX4_put_55 : decode cX4_put 55 = .ok (.putfield 33, 3) := by decide +kernel
theorem dX4_put_58 : decode cX4_put 58 = .ok (.aload_n 0, 1) := by decide +kernel
theorem dX4_put_59 : decode cX4_put 59 = .ok (.dup, 1) := by decide +kernel
theorem dX4_put_60 : decode cX4_put 60 = .ok (.getfield 37, 3) := by decide +kernel
theorem dX4_put_63 : decode cX4_put 63 = .ok (.iload 4, 2) := by decide +kernel
theorem dX4_put_65 : decode cX4_put 65 = .ok (.ior, 1) := by decide +kernel
theorem dX4_put_66 : decode cX4_put 66 = .ok (.putfield 37, 3) := by decide +kernel
theorem dX4_put_69 : decode cX4_put 69 = .ok (.return_, 1) := by decide +kernel
theorem dX4_toDisk_0 : decode cX4_toDisk 0 = .ok (.iload_n 1, 1) := by decide +kernel
theorem dX4_toDisk_1 : decode cX4_toDisk 1 = .ok (.ifCond .lt 9, 3) := by decide +kernel
theorem dX4_toDisk_4 : decode cX4_toDisk 4 = .ok (.iload_n 1, 1) := by decide +kernel
theorem dX4_toDisk_5 : decode cX4_toDisk 5 = .ok (.bipush 8, 2) := by decide +kernel
theorem dX4_toDisk_7 : decode cX4_toDisk 7 = .ok (.if_icmp .lt 4, 3) := by decide +kernel
theorem dX4_toDisk_10 : decode cX4_toDisk 10 = .ok (.return_, 1) := by decide +kernel
theorem dX4_toDisk_11 : decode cX4_toDisk 11 = .ok (.aload_n 0, 1) := by decide +kernel
theorem dX4_toDisk_12 : decode cX4_toDisk 12 = .ok (.getfield 9, 3) := by decide +kernel
theorem dX4_toDisk_15 : decode cX4_toDisk 15 = .ok (.iload_n 1, 1) := by decide +kernel
theorem dX4_toDisk_16 : decode cX4_toDisk 16 = .ok (.aload_n 0, 1) := by decide +kernel
theorem dX4_toDisk_17 : decode cX4_toDisk 17 = .ok (.getfield 18, 3) := by decide +kernel
theorem dX4_toDisk_20 : decode cX4_toDisk 20 = .ok (.iload_n 1, 1) := by decide +kernel
theorem dX4_toDisk_21 : decode cX4_toDisk 21 = .ok (.iaload, 1) := by decide +kernel
theorem dX4_toDisk_22 : decode cX4_toDisk 22 = .ok (.iastore, 1) := by decide +kernel
theorem dX4_toDisk_23 : decode cX4_toDisk 23 = .ok (.aload_n 0, 1) := by decide +kernel
theorem dX4_toDisk_24 : decode cX4_toDisk 24 = .ok (.getfield 15, 3) := by decide +kernel
theorem dX4_toDisk_27 : decode cX4_toDisk 27 = .ok (.iload_n 1, 1) := by decide +kernel
theorem dX4_toDisk_28 : decode cX4_toDisk 28 = .ok (.aload_n 0, 1) := by decide +kernel
theorem dX4_toDisk_29 : decode cX4_toDisk 29 = .ok (.getfield 21, 3) := by decide +kernel
theorem dX4_toDisk_32 : decode cX4_toDisk 32 = .ok (.iload_n 1, 1) := by decide +kernel
theorem dX4_toDisk_33 : decode cX4_toDisk 33 = .ok (.iaload, 1) := by decide +kernel
theorem dX4_toDisk_34 : decode cX4_toDisk 34 = .ok (.iastore, 1) := by decide +kernel
theorem dX4_toDisk_35 : decode cX4_toDisk 35 = .ok (.aload_n 0, 1) := by decide +kernel
theorem dX4_toDisk_36 : decode cX4_toDisk 36 = .ok (.dup, 1) := by decide +kernel
theorem dX4_toDisk_37 : decode cX4_toDisk 37 = .ok (.getfield 37, 3) := by decide +kernel
theorem dX4_toDisk_40 : decode cX4_toDisk 40 = .ok (.iconst 1, 1) := by decide +kernel
theorem dX4_toDisk_41 : decode cX4_toDisk 41 = .ok (.iload_n 1, 1) := by decide +kernel
theorem dX4_toDisk_42 : decode cX4_toDisk 42 = .ok (.ishl, 1) := by decide +kernel
theorem dX4_toDisk_43 : decode cX4_toDisk 43 = .ok (.iconst (-1), 1) := by decide +kernel
theorem dX4_toDisk_44 : decode cX4_toDisk 44 = .ok (.ixor, 1) := by decide +kernel
theorem dX4_toDisk_45 : decode cX4_toDisk 45 = .ok (.iand, 1) := by decide +kernel
theorem dX4_toDisk_46 : decode cX4_toDisk 46 = .ok (.putfield 37, 3) := by decide +kernel
theorem dX4_toDisk_49 : decode cX4_toDisk 49 = .ok (.return_, 1) := by decide +kernel
theorem dX4_emptyCache_0 : decode cX4_emptyCache 0 = .ok (.aload_n 0, 1) := by decide +kernel
theorem dX4_emptyCache_1 : decode cX4_emptyCache 1 = .ok (.iconst 0, 1) := by decide +kernel
theorem dX4_emptyCache_2 : decode cX4_emptyCache 2 = .ok (.putfield 33, 3) := by decide +kernel
theorem dX4_emptyCache_5 : decode cX4_emptyCache 5 = .ok (.aload_n 0, 1) := by decide +kernel
theorem dX4_emptyCache_6 : decode cX4_emptyCache 6 = .ok (.iconst 0, 1) := by decide +kernel
theorem dX4_emptyCache_7 : decode cX4_emptyCache 7 = .ok (.putfield 37, 3) := by decide +kernel
theorem dX4_emptyCache_10 : decode cX4_emptyCache 10 = .ok (.return_, 1) := by decide +kernel
theorem dX4_highestDiskMark_0 : decode cX4_highestDiskMark 0 = .ok (.iconst 0, 1) := by decide +kernel
theorem dX4_highestDiskMark_1 : decode cX4_highestDiskMark 1 = .ok (.istore_n 1, 1) := by decide +kernel
theorem dX4_highestDiskMark_2 : decode cX4_highestDiskMark 2 = .ok (.iconst 0, 1) := by decide +kernel
theorem dX4_highestDiskMark_3 : decode cX4_highestDiskMark 3 = .ok (.istore_n 2, 1) := by decide +kernel
theorem dX4_highestDiskMark_4 : decode cX4_highestDiskMark 4 = .ok (.iload_n 2, 1) := by decide +kernel
theorem dX4_highestDiskMark_5 : decode cX4_highestDiskMark 5 = .ok (.bipush 8, 2) := by decide +kernel
theorem dX4_highestDiskMark_7 : decode cX4_highestDiskMark 7 = .ok (.if_icmp .ge 20, 3) := by decide +kernel
theorem dX4_highestDiskMark_10 : decode cX4_highestDiskMark 10 = .ok (.iload_n 1, 1) := by decide +kernel
theorem dX4_highestDiskMark_11 : decode cX4_highestDiskMark 11 = .ok (.aload_n 0, 1) := by decide +kernel
theorem dX4_highestDiskMark_12 : decode cX4_highestDiskMark 12 = .ok (.getfield 15, 3) := by decide +kernel
theorem dX4_highestDiskMark_15 : decode cX4_highestDiskMark 15 = .ok (.iload_n 2, 1) := by decide +kernel
theorem dX4_highestDiskMark_16 : decode cX4_highestDiskMark 16 = .ok (.iaload, 1) := by decide +kernel
theorem dX4_highestDiskMark_17 : decode cX4_highestDiskMark 17 = .ok (.invokestatic 41, 3) := by decide +kernel
theorem dX4_highestDiskMark_20 : decode cX4_highestDiskMark 20 = .ok (.istore_n 1, 1) := by decide +kernel
theorem dX4_highestDiskMark_21 : decode cX4_highestDiskMark 21 = .ok (.iinc 2 1, 3) := by decide +kernel
theorem dX4_highestDiskMark_24 : decode cX4_highestDiskMark 24 = .ok (.goto (-20), 3) := by decide +kernel
theorem dX4_highestDiskMark_27 : decode cX4_highestDiskMark 27 = .ok (.iload_n 1, 1) := by decide +kernel
theorem dX4_highestDiskMark_28 : decode cX4_highestDiskMark 28 = .ok (.ireturn, 1) := by decide +kernel
theorem dX4_tell_0 : decode cX4_tell 0 = .ok (.iload_n 1, 1) := by decide +kernel
theorem dX4_tell_1 : decode cX4_tell 1 = .ok (.ifCond .lt 9, 3) := by decide +kernel
theorem dX4_tell_4 : decode cX4_tell 4 = .ok (.iload_n 1, 1) := by decide +kernel
theorem dX4_tell_5 : decode cX4_tell 5 = .ok (.bipush 8, 2) := by decide +kernel
theorem dX4_tell_7 : decode cX4_tell 7 = .ok (.if_icmp .lt 6, 3) := by decide +kernel
theorem dX4_tell_10 : decode cX4_tell 10 = .ok (.ldc 47, 2) := by decide +kernel
theorem dX4_tell_12 : decode cX4_tell 12 = .ok (.ireturn, 1) := by decide +kernel
theorem dX4_tell_13 : decode cX4_tell 13 = .ok (.iload_n 2, 1) := by decide +kernel
theorem dX4_tell_14 : decode cX4_tell 14 = .ok (.tableswitch 82 0 5 #[38, 44, 50, 57, 64, 73], 38) := by decide +kernel
theorem dX4_tell_52 : decode cX4_tell 52 = .ok (.aload_n 0, 1) := by decide +kernel
theorem dX4_tell_53 : decode cX4_tell 53 = .ok (.iload_n 1, 1) := by decide +kernel
theorem dX4_tell_54 : decode cX4_tell 54 = .ok (.invokevirtual 48, 3) := by decide +kernel
theorem dX4_tell_57 : decode cX4_tell 57 = .ok (.ireturn, 1) := by decide +kernel
theorem dX4_tell_58 : decode cX4_tell 58 = .ok (.aload_n 0, 1) := by decide +kernel
theorem dX4_tell_59 : decode cX4_tell 59 = .ok (.iload_n 1, 1) := by decide +kernel
theorem dX4_tell_60 : decode cX4_tell 60 = .ok (.invokevirtual 52, 3) := by decide +kernel
theorem dX4_tell_63 : decode cX4_tell 63 = .ok (.ireturn, 1) := by decide +kernel
theorem dX4_tell_64 : decode cX4_tell 64 = .ok (.aload_n 0, 1) := by decide +kernel
theorem dX4_tell_65 : decode cX4_tell 65 = .ok (.getfield 9, 3) := by decide +kernel
theorem dX4_tell_68 : decode cX4_tell 68 = .ok (.iload_n 1, 1) := by decide +kernel
theorem dX4_tell_69 : decode cX4_tell 69 = .ok (.iaload, 1) := by decide +kernel
theorem dX4_tell_70 : decode cX4_tell 70 = .ok (.ireturn, 1) := by decide +kernel
theorem dX4_tell_71 : decode cX4_tell 71 = .ok (.aload_n 0, 1) := by decide +kernel
theorem dX4_tell_72 : decode cX4_tell 72 = .ok (.getfield 15, 3) := by decide +kernel
theorem dX4_tell_75 : decode cX4_tell 75 = .ok (.iload_n 1, 1) := by decide +kernel
theorem dX4_tell_76 : decode cX4_tell 76 = .ok (.iaload, 1) := by decide +kernel
theorem dX4_tell_77 : decode cX4_tell 77 = .ok (.ireturn, 1) := by decide +kernel
theorem dX4_tell_78 : decode cX4_tell 78 = .ok (.aload_n 0, 1) := by decide +kernel
theorem dX4_tell_79 : decode cX4_tell 79 = .ok (.getfield 33, 3) := by decide +kernel
theorem dX4_tell_82 : decode cX4_tell 82 = .ok (.iload_n 1, 1) := by decide +kernel
theorem dX4_tell_83 : decode cX4_tell 83 = .ok (.ishr, 1) := by decide +kernel
theorem dX4_tell_84 : decode cX4_tell 84 = .ok (.iconst 1, 1) := by decide +kernel
theorem dX4_tell_85 : decode cX4_tell 85 = .ok (.iand, 1) := by decide +kernel
theorem dX4_tell_86 : decode cX4_tell 86 = .ok (.ireturn, 1) := by decide +kernel
theorem dX4_tell_87 : decode cX4_tell 87 = .ok (.aload_n 0, 1) := by decide +kernel
theorem dX4_tell_88 : decode cX4_tell 88 = .ok (.getfield 37, 3) := by decide +kernel
theorem dX4_tell_91 : decode cX4_tell 91 = .ok (.iload_n 1, 1) := by decide +kernel
theorem dX4_tell_92 : decode cX4_tell 92 = .ok (.ishr, 1) := by decide +kernel
theorem dX4_tell_93 : decode cX4_tell 93 = .ok (.iconst 1, 1) := by decide +kernel
theorem dX4_tell_94 : decode cX4_tell 94 = .ok (.iand, 1) := by decide +kernel
theorem dX4_tell_95 : decode cX4_tell 95 = .ok (.ireturn, 1) := by decide +kernel
theorem dX4_tell_96 : decode cX4_tell 96 = .ok (.aload_n 0, 1) := by decide +kernel
theorem dX4_tell_97 : decode cX4_tell 97 = .ok (.iload_n 1, 1) := by decide +kernel
theorem dX4_tell_98 : decode cX4_tell 98 = .ok (.invokevirtual 55, 3) := by decide +kernel
theorem dX4_tell_101 : decode cX4_tell 101 = .ok (.ireturn, 1) := by decide +kernel
theorem dX5_init_0 : decode cX5_init 0 = .ok (.aload_n 0, 1) := by decide +kernel
theorem dX5_init_1 : decode cX5_init 1 = .ok (.invokespecial 3, 3) := by decide +kernel
theorem dX5_init_4 : decode cX5_init 4 = .ok (.aload_n 0, 1) := by decide +kernel
theorem dX5_init_5 : decode cX5_init 5 = .ok (.bipush 8, 2) := by decide +kernel
theorem dX5_init_7 : decode cX5_init 7 = .ok (.newarray .int, 2) := by decide +kernel
theorem dX5_init_9 : decode cX5_init 9 = .ok (.putfield 9, 3) := by decide +kernel
theorem dX5_init_12 : decode cX5_init 12 = .ok (.aload_n 0, 1) := by decide +kernel
theorem dX5_init_13 : decode cX5_init 13 = .ok (.sipush 128, 3) := by decide +kernel
theorem dX5_init_16 : decode cX5_init 16 = .ok (.newarray .int, 2) := by decide +kernel
theorem dX5_init_18 : decode cX5_init 18 = .ok (.putfield 15, 3) := by decide +kernel
theorem dX5_init_21 : decode cX5_init 21 = .ok (.return_, 1) := by decide +kernel
theorem dX5_run_0 : decode cX5_run 0 = .ok (.aload_n 1, 1) := by decide +kernel
theorem dX5_run_1 : decode cX5_run 1 = .ok (.getfield 18, 3) := by decide +kernel
theorem dX5_run_4 : decode cX5_run 4 = .ok (.ifCond .ne 6, 3) := by decide +kernel
theorem dX5_run_7 : decode cX5_run 7 = .ok (.ldc 24, 2) := by decide +kernel
theorem dX5_run_9 : decode cX5_run 9 = .ok (.ireturn, 1) := by decide +kernel
theorem dX5_run_10 : decode cX5_run 10 = .ok (.aload_n 0, 1) := by decide +kernel
theorem dX5_run_11 : decode cX5_run 11 = .ok (.aload_n 1, 1) := by decide +kernel
theorem dX5_run_12 : decode cX5_run 12 = .ok (.getfield 25, 3) := by decide +kernel
theorem dX5_run_15 : decode cX5_run 15 = .ok (.invokevirtual 29, 3) := by decide +kernel
theorem dX5_run_18 : decode cX5_run 18 = .ok (.aload_n 0, 1) := by decide +kernel
theorem dX5_run_19 : decode cX5_run 19 = .ok (.aload_n 1, 1) := by decide +kernel
theorem dX5_run_20 : decode cX5_run 20 = .ok (.getfield 25, 3) := by decide +kernel
theorem dX5_run_23 : decode cX5_run 23 = .ok (.aload_n 1, 1) := by decide +kernel
theorem dX5_run_24 : decode cX5_run 24 = .ok (.getfield 33, 3) := by decide +kernel
theorem dX5_run_27 : decode cX5_run 27 = .ok (.invokevirtual 37, 3) := by decide +kernel
theorem dX5_run_30 : decode cX5_run 30 = .ok (.aload_n 0, 1) := by decide +kernel
theorem dX5_run_31 : decode cX5_run 31 = .ok (.aload_n 1, 1) := by decide +kernel
theorem dX5_run_32 : decode cX5_run 32 = .ok (.invokevirtual 41, 3) := by decide +kernel
theorem dX5_run_35 : decode cX5_run 35 = .ok (.aload_n 1, 1) := by decide +kernel
theorem dX5_run_36 : decode cX5_run 36 = .ok (.getfield 25, 3) := by decide +kernel
theorem dX5_run_39 : decode cX5_run 39 = .ok (.aload_n 1, 1) := by decide +kernel
theorem dX5_run_40 : decode cX5_run 40 = .ok (.getfield 25, 3) := by decide +kernel
theorem dX5_run_43 : decode cX5_run 43 = .ok (.invokevirtual 45, 3) := by decide +kernel
theorem dX5_run_46 : decode cX5_run 46 = .ok (.invokevirtual 51, 3) := by decide +kernel
theorem dX5_run_49 : decode cX5_run 49 = .ok (.pop, 1) := by decide +kernel
theorem dX5_run_50 : decode cX5_run 50 = .ok (.aload_n 1, 1) := by decide +kernel
theorem dX5_run_51 : decode cX5_run 51 = .ok (.iconst 0, 1) := by decide +kernel
theorem dX5_run_52 : decode cX5_run 52 = .ok (.putfield 18, 3) := by decide +kernel
theorem dX5_run_55 : decode cX5_run 55 = .ok (.aload_n 1, 1) := by decide +kernel
theorem dX5_run_56 : decode cX5_run 56 = .ok (.dup, 1) := by decide +kernel
theorem dX5_run_57 : decode cX5_run 57 = .ok (.getfield 55, 3) := by decide +kernel
theorem dX5_run_60 : decode cX5_run 60 = .ok (.aload_n 0, 1) := by decide +kernel
theorem dX5_run_61 : decode cX5_run 61 = .ok (.getfield 59, 3) := by decide +kernel
theorem dX5_run_64 : decode cX5_run 64 = .ok (.iadd, 1) := by decide +kernel
theorem dX5_run_65 : decode cX5_run 65 = .ok (.putfield 55, 3) := by decide +kernel
theorem dX5_run_68 : decode cX5_run 68 = .ok (.aload_n 0, 1) := by decide +kernel
theorem dX5_run_69 : decode cX5_run 69 = .ok (.getfield 59, 3) := by decide +kernel
theorem dX5_run_72 : decode cX5_run 72 = .ok (.ireturn, 1) := by decide +kernel
theorem dX5_tell_0 : decode cX5_tell 0 = .ok (.iload_n 1, 1) := by decide +kernel
theorem dX5_tell_1 : decode cX5_tell 1 = .ok (.tableswitch 42 1 3 #[27, 32, 37], 27) := by decide +kernel
theorem dX5_tell_28 : decode cX5_tell 28 = .ok (.aload_n 0, 1) := by decide +kernel
theorem dX5_tell_29 : decode cX5_tell 29 = .ok (.getfield 59, 3) := by decide +kernel
theorem dX5_tell_32 : decode cX5_tell 32 = .ok (.ireturn, 1) := by decide +kernel
theorem dX5_tell_33 : decode cX5_tell 33 = .ok (.aload_n 0, 1) := by decide +kernel
theorem dX5_tell_34 : decode cX5_tell 34 = .ok (.getfield 60, 3) := by decide +kernel
theorem dX5_tell_37 : decode cX5_tell 37 = .ok (.ireturn, 1) := by decide +kernel
theorem dX5_tell_38 : decode cX5_tell 38 = .ok (.aload_n 0, 1) := by decide +kernel
theorem dX5_tell_39 : decode cX5_tell 39 = .ok (.getfield 63, 3) := by decide +kernel
theorem dX5_tell_42 : decode cX5_tell 42 = .ok (.ireturn, 1) := by decide +kernel
theorem dX5_tell_43 : decode cX5_tell 43 = .ok (.aload_n 0, 1) := by decide +kernel
theorem dX5_tell_44 : decode cX5_tell 44 = .ok (.getfield 66, 3) := by decide +kernel
theorem dX5_tell_47 : decode cX5_tell 47 = .ok (.ifCond .ne 8, 3) := by decide +kernel
theorem dX5_tell_50 : decode cX5_tell 50 = .ok (.ldc 69, 2) := by decide +kernel
theorem dX5_tell_52 : decode cX5_tell 52 = .ok (.goto 7, 3) := by decide +kernel
theorem dX5_tell_55 : decode cX5_tell 55 = .ok (.aload_n 0, 1) := by decide +kernel
theorem dX5_tell_56 : decode cX5_tell 56 = .ok (.getfield 66, 3) := by decide +kernel
theorem dX5_tell_59 : decode cX5_tell 59 = .ok (.ireturn, 1) := by decide +kernel
theorem dX5_look_0 : decode cX5_look 0 = .ok (.aload_n 1, 1) := by decide +kernel
theorem dX5_look_1 : decode cX5_look 1 = .ok (.getfield 70, 3) := by decide +kernel
theorem dX5_look_4 : decode cX5_look 4 = .ok (.istore_n 2, 1) := by decide +kernel
theorem dX5_look_5 : decode cX5_look 5 = .ok (.iload_n 2, 1) := by decide +kernel
theorem dX5_look_6 : decode cX5_look 6 = .ok (.ifCond .eq 7, 3) := by decide +kernel
theorem dX5_look_9 : decode cX5_look 9 = .ok (.iconst 1, 1) := by decide +kernel
theorem dX5_look_10 : decode cX5_look 10 = .ok (.goto 4, 3) := by decide +kernel
theorem dX5_look_13 : decode cX5_look 13 = .ok (.iconst 0, 1) := by decide +kernel
theorem dX5_look_14 : decode cX5_look 14 = .ok (.istore_n 3, 1) := by decide +kernel
theorem dX5_look_15 : decode cX5_look 15 = .ok (.aload_n 0, 1) := by decide +kernel
theorem dX5_look_16 : decode cX5_look 16 = .ok (.iload_n 3, 1) := by decide +kernel
theorem dX5_look_17 : decode cX5_look 17 = .ok (.ifCond .eq 19, 3) := by decide +kernel
theorem dX5_look_20 : decode cX5_look 20 = .ok (.iconst 0, 1) := by decide +kernel
theorem dX5_look_21 : decode cX5_look 21 = .ok (.aload_n 1, 1) := by decide +kernel
theorem dX5_look_22 : decode cX5_look 22 = .ok (.aload_n 1, 1) := by decide +kernel
theorem dX5_look_23 : decode cX5_look 23 = .ok (.getfield 73, 3) := by decide +kernel
theorem dX5_look_26 : decode cX5_look 26 = .ok (.iload_n 2, 1) := by decide +kernel
theorem dX5_look_27 : decode cX5_look 27 = .ok (.invokevirtual 76, 3) := by decide +kernel
theorem dX5_look_30 : decode cX5_look 30 = .ok (.invokestatic 80, 3) := by decide +kernel
theorem dX5_look_33 : decode cX5_look 33 = .ok (.goto 4, 3) := by decide +kernel
theorem dX5_look_36 : decode cX5_look 36 = .ok (.iconst 0, 1) := by decide +kernel
theorem dX5_look_37 : decode cX5_look 37 = .ok (.putfield 63, 3) := by decide +kernel
theorem dX5_look_40 : decode cX5_look 40 = .ok (.aload_n 0, 1) := by decide +kernel
theorem dX5_look_41 : decode cX5_look 41 = .ok (.iload_n 3, 1) := by decide +kernel
theorem dX5_look_42 : decode cX5_look 42 = .ok (.ifCond .eq 7, 3) := by decide +kernel
theorem dX5_look_45 : decode cX5_look 45 = .ok (.iload_n 2, 1) := by decide +kernel
theorem dX5_look_46 : decode cX5_look 46 = .ok (.goto 8, 3) := by decide +kernel
theorem dX5_look_49 : decode cX5_look 49 = .ok (.aload_n 1, 1) := by decide +kernel
theorem dX5_look_50 : decode cX5_look 50 = .ok (.iconst 1, 1) := by decide +kernel
theorem dX5_look_51 : decode cX5_look 51 = .ok (.invokevirtual 86, 3) := by decide +kernel
theorem dX5_look_54 : decode cX5_look 54 = .ok (.putfield 66, 3) := by decide +kernel
theorem dX5_look_57 : decode cX5_look 57 = .ok (.iconst 0, 1) := by decide +kernel
theorem dX5_look_58 : decode cX5_look 58 = .ok (.istore 4, 2) := by decide +kernel
theorem dX5_look_60 : decode cX5_look 60 = .ok (.iload 4, 2) := by decide +kernel
theorem dX5_look_62 : decode cX5_look 62 = .ok (.bipush 8, 2) := by decide +kernel
theorem dX5_look_64 : decode cX5_look 64 = .ok (.if_icmp .ge 31, 3) := by decide +kernel
theorem dX5_look_67 : decode cX5_look 67 = .ok (.aload_n 0, 1) := by decide +kernel
theorem dX5_look_68 : decode cX5_look 68 = .ok (.getfield 9, 3) := by decide +kernel
theorem dX5_look_71 : decode cX5_look 71 = .ok (.iload 4, 2) := by decide +kernel
theorem dX5_look_73 : decode cX5_look 73 = .ok (.iload_n 3, 1) := by decide +kernel
theorem dX5_look_74 : decode cX5_look 74 = .ok (.ifCond .eq 13, 3) := by decide +kernel
theorem dX5_look_77 : decode cX5_look 77 = .ok (.aload_n 1, 1) := by decide +kernel
theorem dX5_look_78 : decode cX5_look 78 = .ok (.getfield 89, 3) := by decide +kernel
theorem dX5_look_81 : decode cX5_look 81 = .ok (.iload 4, 2) := by decide +kernel
theorem dX5_look_83 : decode cX5_look 83 = .ok (.iaload, 1) := by decide +kernel
theorem dX5_look_84 : decode cX5_look 84 = .ok (.goto 4, 3) := by decide +kernel
theorem dX5_look_87 : decode cX5_look 87 = .ok (.iconst 0, 1) := by decide +kernel
theorem dX5_look_88 : decode cX5_look 88 = .ok (.iastore, 1) := by decide +kernel
theorem dX5_look_89 : decode cX5_look 89 = .ok (.iinc 4 1, 3) := by decide +kernel
theorem dX5_look_92 : decode cX5_look 92 = .ok (.goto (-32), 3) := by decide +kernel
theorem dX5_look_95 : decode cX5_look 95 = .ok (.aload_n 1, 1) := by decide +kernel
theorem dX5_look_96 : decode cX5_look 96 = .ok (.invokevirtual 45, 3) := by decide +kernel
theorem dX5_look_99 : decode cX5_look 99 = .ok (.istore 4, 2) := by decide +kernel
theorem dX5_look_101 : decode cX5_look 101 = .ok (.aload_n 1, 1) := by decide +kernel
theorem dX5_look_102 : decode cX5_look 102 = .ok (.getfield 92, 3) := by decide +kernel
theorem dX5_look_105 : decode cX5_look 105 = .ok (.aload_n 0, 1) := by decide +kernel
theorem dX5_look_106 : decode cX5_look 106 = .ok (.getfield 66, 3) := by decide +kernel
theorem dX5_look_109 : decode cX5_look 109 = .ok (.invokestatic 80, 3) := by decide +kernel
theorem dX5_look_112 : decode cX5_look 112 = .ok (.istore 5, 2) := by decide +kernel
theorem dX5_look_114 : decode cX5_look 114 = .ok (.iload 5, 2) := by decide +kernel
theorem dX5_look_116 : decode cX5_look 116 = .ok (.iload 4, 2) := by decide +kernel
theorem dX5_look_118 : decode cX5_look 118 = .ok (.if_icmp .gt 16, 3) := by decide +kernel
theorem dX5_look_121 : decode cX5_look 121 = .ok (.aload_n 0, 1) := by decide +kernel
theorem dX5_look_122 : decode cX5_look 122 = .ok (.aload_n 1, 1) := by decide +kernel
theorem dX5_look_123 : decode cX5_look 123 = .ok (.iload 5, 2) := by decide +kernel
theorem dX5_look_125 : decode cX5_look 125 = .ok (.invokevirtual 95, 3) := by decide +kernel
theorem dX5_look_128 : decode cX5_look 128 = .ok (.iinc 5 1, 3) := by decide +kernel
theorem dX5_look_131 : decode cX5_look 131 = .ok (.goto (-17), 3) := by decide +kernel
theorem dX5_look_134 : decode cX5_look 134 = .ok (.return_, 1) := by decide +kernel
theorem dX5_lookAt_0 : decode cX5_lookAt 0 = .ok (.aload_n 1, 1) := by decide +kernel
theorem dX5_lookAt_1 : decode cX5_lookAt 1 = .ok (.aload_n 1, 1) := by decide +kernel
theorem dX5_lookAt_2 : decode cX5_lookAt 2 = .ok (.getfield 99, 3) := by decide +kernel
theorem dX5_lookAt_5 : decode cX5_lookAt 5 = .ok (.iload_n 2, 1) := by decide +kernel
theorem dX5_lookAt_6 : decode cX5_lookAt 6 = .ok (.invokevirtual 76, 3) := by decide +kernel
theorem dX5_lookAt_9 : decode cX5_lookAt 9 = .ok (.istore_n 3, 1) := by decide +kernel
theorem dX5_lookAt_10 : decode cX5_lookAt 10 = .ok (.aload_n 1, 1) := by decide +kernel
theorem dX5_lookAt_11 : decode cX5_lookAt 11 = .ok (.aload_n 1, 1) := by decide +kernel
theorem dX5_lookAt_12 : decode cX5_lookAt 12 = .ok (.getfield 102, 3) := by decide +kernel
theorem dX5_lookAt_15 : decode cX5_lookAt 15 = .ok (.iload_n 2, 1) := by decide +kernel
theorem dX5_lookAt_16 : decode cX5_lookAt 16 = .ok (.invokevirtual 76, 3) := by decide +kernel
theorem dX5_lookAt_19 : decode cX5_lookAt 19 = .ok (.istore 4, 2) := by decide +kernel
theorem dX5_lookAt_21 : decode cX5_lookAt 21 = .ok (.iload_n 3, 1) := by decide +kernel
theorem dX5_lookAt_22 : decode cX5_lookAt 22 = .ok (.ifCond .lt 14, 3) := by decide +kernel
theorem dX5_lookAt_25 : decode cX5_lookAt 25 = .ok (.iload_n 3, 1) := by decide +kernel
theorem dX5_lookAt_26 : decode cX5_lookAt 26 = .ok (.iconst 4, 1) := by decide +kernel
theorem dX5_lookAt_27 : decode cX5_lookAt 27 = .ok (.if_icmp .ge 9, 3) := by decide +kernel
theorem dX5_lookAt_30 : decode cX5_lookAt 30 = .ok (.iconst 1, 1) := by decide +kernel
theorem dX5_lookAt_31 : decode cX5_lookAt 31 = .ok (.iload_n 3, 1) := by decide +kernel
theorem dX5_lookAt_32 : decode cX5_lookAt 32 = .ok (.ishl, 1) := by decide +kernel
theorem dX5_lookAt_33 : decode cX5_lookAt 33 = .ok (.goto 4, 3) := by decide +kernel
theorem dX5_lookAt_36 : decode cX5_lookAt 36 = .ok (.iconst 0, 1) := by decide +kernel
theorem dX5_lookAt_37 : decode cX5_lookAt 37 = .ok (.istore 5, 2) := by decide +kernel
theorem dX5_lookAt_39 : decode cX5_lookAt 39 = .ok (.aload_n 1, 1) := by decide +kernel
theorem dX5_lookAt_40 : decode cX5_lookAt 40 = .ok (.aload_n 1, 1) := by decide +kernel
theorem dX5_lookAt_41 : decode cX5_lookAt 41 = .ok (.getfield 105, 3) := by decide +kernel
theorem dX5_lookAt_44 : decode cX5_lookAt 44 = .ok (.iload_n 2, 1) := by decide +kernel
theorem dX5_lookAt_45 : decode cX5_lookAt 45 = .ok (.invokevirtual 76, 3) := by decide +kernel
theorem dX5_lookAt_48 : decode cX5_lookAt 48 = .ok (.tableswitch 99 0 4 #[36, 66, 50, 66, 50], 36) := by decide +kernel
theorem dX5_lookAt_84 : decode cX5_lookAt 84 = .ok (.aload_n 0, 1) := by decide +kernel
theorem dX5_lookAt_85 : decode cX5_lookAt 85 = .ok (.dup, 1) := by decide +kernel
theorem dX5_lookAt_86 : decode cX5_lookAt 86 = .ok (.getfield 63, 3) := by decide +kernel
theorem dX5_lookAt_89 : decode cX5_lookAt 89 = .ok (.iload 5, 2) := by decide +kernel
theorem dX5_lookAt_91 : decode cX5_lookAt 91 = .ok (.ior, 1) := by decide +kernel
theorem dX5_lookAt_92 : decode cX5_lookAt 92 = .ok (.putfield 63, 3) := by decide +kernel
theorem dX5_lookAt_95 : decode cX5_lookAt 95 = .ok (.goto 52, 3) := by decide +kernel
theorem dX5_lookAt_98 : decode cX5_lookAt 98 = .ok (.aload_n 0, 1) := by decide +kernel
theorem dX5_lookAt_99 : decode cX5_lookAt 99 = .ok (.dup, 1) := by decide +kernel
theorem dX5_lookAt_100 : decode cX5_lookAt 100 = .ok (.getfield 63, 3) := by decide +kernel
theorem dX5_lookAt_103 : decode cX5_lookAt 103 = .ok (.iload 5, 2) := by decide +kernel
theorem dX5_lookAt_105 : decode cX5_lookAt 105 = .ok (.iconst (-1), 1) := by decide +kernel
theorem dX5_lookAt_106 : decode cX5_lookAt 106 = .ok (.ixor, 1) := by decide +kernel
theorem dX5_lookAt_107 : decode cX5_lookAt 107 = .ok (.iand, 1) := by decide +kernel
theorem dX5_lookAt_108 : decode cX5_lookAt 108 = .ok (.putfield 63, 3) := by decide +kernel
theorem dX5_lookAt_111 : decode cX5_lookAt 111 = .ok (.goto 36, 3) := by decide +kernel
theorem dX5_lookAt_114 : decode cX5_lookAt 114 = .ok (.iload 4, 2) := by decide +kernel
theorem dX5_lookAt_116 : decode cX5_lookAt 116 = .ok (.ifCond .lt 31, 3) := by decide +kernel
theorem dX5_lookAt_119 : decode cX5_lookAt 119 = .ok (.iload 4, 2) := by decide +kernel
theorem dX5_lookAt_121 : decode cX5_lookAt 121 = .ok (.bipush 8, 2) := by decide +kernel
theorem dX5_lookAt_123 : decode cX5_lookAt 123 = .ok (.if_icmp .ge 24, 3) := by decide +kernel
theorem dX5_lookAt_126 : decode cX5_lookAt 126 = .ok (.aload_n 0, 1) := by decide +kernel
theorem dX5_lookAt_127 : decode cX5_lookAt 127 = .ok (.getfield 9, 3) := by decide +kernel
theorem dX5_lookAt_130 : decode cX5_lookAt 130 = .ok (.iload 4, 2) := by decide +kernel
theorem dX5_lookAt_132 : decode cX5_lookAt 132 = .ok (.iaload, 1) := by decide +kernel
theorem dX5_lookAt_133 : decode cX5_lookAt 133 = .ok (.ifCond .ne 14, 3) := by decide +kernel
theorem dX5_lookAt_136 : decode cX5_lookAt 136 = .ok (.aload_n 0, 1) := by decide +kernel
theorem dX5_lookAt_137 : decode cX5_lookAt 137 = .ok (.getfield 9, 3) := by decide +kernel
theorem dX5_lookAt_140 : decode cX5_lookAt 140 = .ok (.iload 4, 2) := by decide +kernel
theorem dX5_lookAt_142 : decode cX5_lookAt 142 = .ok (.iload_n 2, 1) := by decide +kernel
theorem dX5_lookAt_143 : decode cX5_lookAt 143 = .ok (.iastore, 1) := by decide +kernel
theorem dX5_lookAt_144 : decode cX5_lookAt 144 = .ok (.goto 3, 3) := by decide +kernel
theorem dX5_lookAt_147 : decode cX5_lookAt 147 = .ok (.return_, 1) := by decide +kernel
theorem dX5_doAgain_0 : decode cX5_doAgain 0 = .ok (.aload_n 0, 1) := by decide +kernel
theorem dX5_doAgain_1 : decode cX5_doAgain 1 = .ok (.iconst 0, 1) := by decide +kernel
theorem dX5_doAgain_2 : decode cX5_doAgain 2 = .ok (.putfield 59, 3) := by decide +kernel
theorem dX5_doAgain_5 : decode cX5_doAgain 5 = .ok (.aload_n 0, 1) := by decide +kernel
theorem dX5_doAgain_6 : decode cX5_doAgain 6 = .ok (.invokevirtual 108, 3) := by decide +kernel
theorem dX5_doAgain_9 : decode cX5_doAgain 9 = .ok (.istore_n 3, 1) := by decide +kernel
theorem dX5_doAgain_10 : decode cX5_doAgain 10 = .ok (.iload_n 3, 1) := by decide +kernel
theorem dX5_doAgain_11 : decode cX5_doAgain 11 = .ok (.ifCond .ne 4, 3) := by decide +kernel
theorem dX5_doAgain_14 : decode cX5_doAgain 14 = .ok (.return_, 1) := by decide +kernel
theorem dX5_doAgain_15 : decode cX5_doAgain 15 = .ok (.aload_n 1, 1) := by decide +kernel
theorem dX5_doAgain_16 : decode cX5_doAgain 16 = .ok (.invokevirtual 45, 3) := by decide +kernel
theorem dX5_doAgain_19 : decode cX5_doAgain 19 = .ok (.istore 4, 2) := by decide +kernel
theorem dX5_doAgain_21 : decode cX5_doAgain 21 = .ok (.iload_n 3, 1) := by decide +kernel
theorem dX5_doAgain_22 : decode cX5_doAgain 22 = .ok (.istore 5, 2) := by decide +kernel
theorem dX5_doAgain_24 : decode cX5_doAgain 24 = .ok (.iload 5, 2) := by decide +kernel
theorem dX5_doAgain_26 : decode cX5_doAgain 26 = .ok (.iload 4, 2) := by decide +kernel
theorem dX5_doAgain_28 : decode cX5_doAgain 28 = .ok (.if_icmp .gt 107, 3) := by decide +kernel
theorem dX5_doAgain_31 : decode cX5_doAgain 31 = .ok (.aload_n 1, 1) := by decide +kernel
theorem dX5_doAgain_32 : decode cX5_doAgain 32 = .ok (.aload_n 1, 1) := by decide +kernel
theorem dX5_doAgain_33 : decode cX5_doAgain 33 = .ok (.getfield 105, 3) := by decide +kernel
theorem dX5_doAgain_36 : decode cX5_doAgain 36 = .ok (.iload 5, 2) := by decide +kernel
theorem dX5_doAgain_38 : decode cX5_doAgain 38 = .ok (.invokevirtual 76, 3) := by decide +kernel
theorem dX5_doAgain_41 : decode cX5_doAgain 41 = .ok (.istore 6, 2) := by decide +kernel
theorem dX5_doAgain_43 : decode cX5_doAgain 43 = .ok (.aload_n 1, 1) := by decide +kernel
theorem dX5_doAgain_44 : decode cX5_doAgain 44 = .ok (.aload_n 1, 1) := by decide +kernel
theorem dX5_doAgain_45 : decode cX5_doAgain 45 = .ok (.getfield 102, 3) := by decide +kernel
theorem dX5_doAgain_48 : decode cX5_doAgain 48 = .ok (.iload 5, 2) := by decide +kernel
theorem dX5_doAgain_50 : decode cX5_doAgain 50 = .ok (.invokevirtual 76, 3) := by decide +kernel
theorem dX5_doAgain_53 : decode cX5_doAgain 53 = .ok (.istore 7, 2) := by decide +kernel
theorem dX5_doAgain_55 : decode cX5_doAgain 55 = .ok (.iload 6, 2) := by decide +kernel
theorem dX5_doAgain_57 : decode cX5_doAgain 57 = .ok (.iconst 1, 1) := by decide +kernel
theorem dX5_doAgain_58 : decode cX5_doAgain 58 = .ok (.if_icmp .eq 9, 3) := by decide +kernel
theorem dX5_doAgain_61 : decode cX5_doAgain 61 = .ok (.iload 6, 2) := by decide +kernel
theorem dX5_doAgain_63 : decode cX5_doAgain 63 = .ok (.iconst 3, 1) := by decide +kernel
theorem dX5_doAgain_64 : decode cX5_doAgain 64 = .ok (.if_icmp .ne 7, 3) := by decide +kernel
theorem dX5_doAgain_67 : decode cX5_doAgain 67 = .ok (.iconst 1, 1) := by decide +kernel
theorem dX5_doAgain_68 : decode cX5_doAgain 68 = .ok (.goto 4, 3) := by decide +kernel
theorem dX5_doAgain_71 : decode cX5_doAgain 71 = .ok (.iconst 0, 1) := by decide +kernel
theorem dX5_doAgain_72 : decode cX5_doAgain 72 = .ok (.istore 8, 2) := by decide +kernel
theorem dX5_doAgain_74 : decode cX5_doAgain 74 = .ok (.iload 8, 2) := by decide +kernel
theorem dX5_doAgain_76 : decode cX5_doAgain 76 = .ok (.ifCond .eq 53, 3) := by decide +kernel
theorem dX5_doAgain_79 : decode cX5_doAgain 79 = .ok (.aload_n 0, 1) := by decide +kernel
theorem dX5_doAgain_80 : decode cX5_doAgain 80 = .ok (.iload 7, 2) := by decide +kernel
theorem dX5_doAgain_82 : decode cX5_doAgain 82 = .ok (.iload 5, 2) := by decide +kernel
theorem dX5_doAgain_84 : decode cX5_doAgain 84 = .ok (.invokevirtual 111, 3) := by decide +kernel
theorem dX5_doAgain_87 : decode cX5_doAgain 87 = .ok (.ifCond .eq 42, 3) := by decide +kernel
theorem dX5_doAgain_90 : decode cX5_doAgain 90 = .ok (.aload_n 2, 1) := by decide +kernel
theorem dX5_doAgain_91 : decode cX5_doAgain 91 = .ok (.iload 7, 2) := by decide +kernel
theorem dX5_doAgain_93 : decode cX5_doAgain 93 = .ok (.invokevirtual 115, 3) := by decide +kernel
theorem dX5_doAgain_96 : decode cX5_doAgain 96 = .ok (.iload 5, 2) := by decide +kernel
theorem dX5_doAgain_98 : decode cX5_doAgain 98 = .ok (.if_icmp .ge 31, 3) := by decide +kernel
theorem dX5_doAgain_101 : decode cX5_doAgain 101 = .ok (.aload_n 2, 1) := by decide +kernel
theorem dX5_doAgain_102 : decode cX5_doAgain 102 = .ok (.iload 7, 2) := by decide +kernel
theorem dX5_doAgain_104 : decode cX5_doAgain 104 = .ok (.aload_n 1, 1) := by decide +kernel
theorem dX5_doAgain_105 : decode cX5_doAgain 105 = .ok (.aload_n 1, 1) := by decide +kernel
theorem dX5_doAgain_106 : decode cX5_doAgain 106 = .ok (.getfield 120, 3) := by decide +kernel
theorem dX5_doAgain_109 : decode cX5_doAgain 109 = .ok (.iload 5, 2) := by decide +kernel
theorem dX5_doAgain_111 : decode cX5_doAgain 111 = .ok (.invokevirtual 76, 3) := by decide +kernel
theorem dX5_doAgain_114 : decode cX5_doAgain 114 = .ok (.iload 5, 2) := by decide +kernel
theorem dX5_doAgain_116 : decode cX5_doAgain 116 = .ok (.invokevirtual 123, 3) := by decide +kernel
theorem dX5_doAgain_119 : decode cX5_doAgain 119 = .ok (.aload_n 0, 1) := by decide +kernel
theorem dX5_doAgain_120 : decode cX5_doAgain 120 = .ok (.dup, 1) := by decide +kernel
theorem dX5_doAgain_121 : decode cX5_doAgain 121 = .ok (.getfield 59, 3) := by decide +kernel
theorem dX5_doAgain_124 : decode cX5_doAgain 124 = .ok (.iconst 1, 1) := by decide +kernel
theorem dX5_doAgain_125 : decode cX5_doAgain 125 = .ok (.iadd, 1) := by decide +kernel
theorem dX5_doAgain_126 : decode cX5_doAgain 126 = .ok (.putfield 59, 3) := by decide +kernel
theorem dX5_doAgain_129 : decode cX5_doAgain 129 = .ok (.iinc 5 1, 3) := by decide +kernel
theorem dX5_doAgain_132 : decode cX5_doAgain 132 = .ok (.goto (-108), 3) := by decide +kernel
theorem dX5_doAgain_135 : decode cX5_doAgain 135 = .ok (.return_, 1) := by decide +kernel
theorem dX5_isAfterStart_0 : decode cX5_isAfterStart 0 = .ok (.iload_n 1, 1) := by decide +kernel
theorem dX5_isAfterStart_1 : decode cX5_isAfterStart 1 = .ok (.ifCond .lt 32, 3) := by decide +kernel
theorem dX5_isAfterStart_4 : decode cX5_isAfterStart 4 = .ok (.iload_n 1, 1) := by decide +kernel
theorem dX5_isAfterStart_5 : decode cX5_isAfterStart 5 = .ok (.bipush 8, 2) := by decide +kernel
theorem dX5_isAfterStart_7 : decode cX5_isAfterStart 7 = .ok (.if_icmp .ge 26, 3) := by decide +kernel
theorem dX5_isAfterStart_10 : decode cX5_isAfterStart 10 = .ok (.aload_n 0, 1) := by decide +kernel
theorem dX5_isAfterStart_11 : decode cX5_isAfterStart 11 = .ok (.getfield 9, 3) := by decide +kernel
theorem dX5_isAfterStart_14 : decode cX5_isAfterStart 14 = .ok (.iload_n 1, 1) := by decide +kernel
theorem dX5_isAfterStart_15 : decode cX5_isAfterStart 15 = .ok (.iaload, 1) := by decide +kernel
theorem dX5_isAfterStart_16 : decode cX5_isAfterStart 16 = .ok (.ifCond .eq 17, 3) := by decide +kernel
theorem dX5_isAfterStart_19 : decode cX5_isAfterStart 19 = .ok (.aload_n 0, 1) := by decide +kernel
theorem dX5_isAfterStart_20 : decode cX5_isAfterStart 20 = .ok (.getfield 9, 3) := by decide +kernel
theorem dX5_isAfterStart_23 : decode cX5_isAfterStart 23 = .ok (.iload_n 1, 1) := by decide +kernel
theorem dX5_isAfterStart_24 : decode cX5_isAfterStart 24 = .ok (.iaload, 1) := by decide +kernel
theorem dX5_isAfterStart_25 : decode cX5_isAfterStart 25 = .ok (.iload_n 2, 1) := by decide +kernel
theorem dX5_isAfterStart_26 : decode cX5_isAfterStart 26 = .ok (.if_icmp .gt 7, 3) := by decide +kernel
theorem dX5_isAfterStart_29 : decode cX5_isAfterStart 29 = .ok (.iconst 1, 1) := by decide +kernel
theorem dX5_isAfterStart_30 : decode cX5_isAfterStart 30 = .ok (.goto 4, 3) := by decide +kernel
theorem dX5_isAfterStart_33 : decode cX5_isAfterStart 33 = .ok (.iconst 0, 1) := by decide +kernel
theorem dX5_isAfterStart_34 : decode cX5_isAfterStart 34 = .ok (.ireturn, 1) := by decide +kernel
theorem dX5_leastStart_0 : decode cX5_leastStart 0 = .ok (.iconst 0, 1) := by decide +kernel
theorem dX5_leastStart_1 : decode cX5_leastStart 1 = .ok (.istore_n 1, 1) := by decide +kernel
theorem dX5_leastStart_2 : decode cX5_leastStart 2 = .ok (.iconst 0, 1) := by decide +kernel
theorem dX5_leastStart_3 : decode cX5_leastStart 3 = .ok (.istore_n 2, 1) := by decide +kernel
theorem dX5_leastStart_4 : decode cX5_leastStart 4 = .ok (.iload_n 2, 1) := by decide +kernel
theorem dX5_leastStart_5 : decode cX5_leastStart 5 = .ok (.bipush 8, 2) := by decide +kernel
theorem dX5_leastStart_7 : decode cX5_leastStart 7 = .ok (.if_icmp .ge 39, 3) := by decide +kernel
theorem dX5_leastStart_10 : decode cX5_leastStart 10 = .ok (.aload_n 0, 1) := by decide +kernel
theorem dX5_leastStart_11 : decode cX5_leastStart 11 = .ok (.getfield 9, 3) := by decide +kernel
theorem dX5_leastStart_14 : decode cX5_leastStart 14 = .ok (.iload_n 2, 1) := by decide +kernel
theorem dX5_leastStart_15 : decode cX5_leastStart 15 = .ok (.iaload, 1) := by decide +kernel
theorem dX5_leastStart_16 : decode cX5_leastStart 16 = .ok (.ifCond .eq 24, 3) := by decide +kernel
theorem dX5_leastStart_19 : decode cX5_leastStart 19 = .ok (.iload_n 1, 1) := by decide +kernel
theorem dX5_leastStart_20 : decode cX5_leastStart 20 = .ok (.ifCond .eq 13, 3) := by decide +kernel
theorem dX5_leastStart_23 : decode cX5_leastStart 23 = .ok (.aload_n 0, 1) := by decide +kernel
theorem dX5_leastStart_24 : decode cX5_leastStart 24 = .ok (.getfield 9, 3) := by decide +kernel
theorem dX5_leastStart_27 : decode cX5_leastStart 27 = .ok (.iload_n 2, 1) := by decide +kernel
theorem dX5_leastStart_28 : decode cX5_leastStart 28 = .ok (.iaload, 1) := by decide +kernel
theorem dX5_leastStart_29 : decode cX5_leastStart 29 = .ok (.iload_n 1, 1) := by decide +kernel
theorem dX5_leastStart_30 : decode cX5_leastStart 30 = .ok (.if_icmp .ge 10, 3) := by decide +kernel
theorem dX5_leastStart_33 : decode cX5_leastStart 33 = .ok (.aload_n 0, 1) := by decide +kernel
theorem dX5_leastStart_34 : decode cX5_leastStart 34 = .ok (.getfield 9, 3) := by decide +kernel
theorem dX5_leastStart_37 : decode cX5_leastStart 37 = .ok (.iload_n 2, 1) := by decide +kernel
theorem dX5_leastStart_38 : decode cX5_leastStart 38 = .ok (.iaload, 1) := by decide +kernel
theorem dX5_leastStart_39 : decode cX5_leastStart 39 = .ok (.istore_n 1, 1) := by decide +kernel
theorem dX5_leastStart_40 : decode cX5_leastStart 40 = .ok (.iinc 2 1, 3) := by decide +kernel
theorem dX5_leastStart_43 : decode cX5_leastStart 43 = .ok (.goto (-39), 3) := by decide +kernel
theorem dX5_leastStart_46 : decode cX5_leastStart 46 = .ok (.iload_n 1, 1) := by decide +kernel
theorem dX5_leastStart_47 : decode cX5_leastStart 47 = .ok (.ireturn, 1) := by decide +kernel
theorem dX5_takeLosersBack_0 : decode cX5_takeLosersBack 0 = .ok (.aload_n 1, 1) := by decide +kernel
theorem dX5_takeLosersBack_1 : decode cX5_takeLosersBack 1 = .ok (.getfield 25, 3) := by decide +kernel
theorem dX5_takeLosersBack_4 : decode cX5_takeLosersBack 4 = .ok (.astore_n 2, 1) := by decide +kernel
theorem dX5_takeLosersBack_5 : decode cX5_takeLosersBack 5 = .ok (.aload_n 0, 1) := by decide +kernel
theorem dX5_takeLosersBack_6 : decode cX5_takeLosersBack 6 = .ok (.iconst 0, 1) := by decide +kernel
theorem dX5_takeLosersBack_7 : decode cX5_takeLosersBack 7 = .ok (.putfield 60, 3) := by decide +kernel
theorem dX5_takeLosersBack_10 : decode cX5_takeLosersBack 10 = .ok (.iconst 0, 1) := by decide +kernel
theorem dX5_takeLosersBack_11 : decode cX5_takeLosersBack 11 = .ok (.istore_n 3, 1) := by decide +kernel
theorem dX5_takeLosersBack_12 : decode cX5_takeLosersBack 12 = .ok (.iload_n 3, 1) := by decide +kernel
theorem dX5_takeLosersBack_13 : decode cX5_takeLosersBack 13 = .ok (.sipush 128, 3) := by decide +kernel
theorem dX5_takeLosersBack_16 : decode cX5_takeLosersBack 16 = .ok (.if_icmp .ge 16, 3) := by decide +kernel
theorem dX5_takeLosersBack_19 : decode cX5_takeLosersBack 19 = .ok (.aload_n 0, 1) := by decide +kernel
theorem dX5_takeLosersBack_20 : decode cX5_takeLosersBack 20 = .ok (.getfield 15, 3) := by decide +kernel
theorem dX5_takeLosersBack_23 : decode cX5_takeLosersBack 23 = .ok (.iload_n 3, 1) := by decide +kernel
theorem dX5_takeLosersBack_24 : decode cX5_takeLosersBack 24 = .ok (.iconst 0, 1) := by decide +kernel
theorem dX5_takeLosersBack_25 : decode cX5_takeLosersBack 25 = .ok (.iastore, 1) := by decide +kernel
theorem dX5_takeLosersBack_26 : decode cX5_takeLosersBack 26 = .ok (.iinc 3 1, 3) := by decide +kernel
theorem dX5_takeLosersBack_29 : decode cX5_takeLosersBack 29 = .ok (.goto (-17), 3) := by decide +kernel
theorem dX5_takeLosersBack_32 : decode cX5_takeLosersBack 32 = .ok (.aload_n 0, 1) := by decide +kernel
theorem dX5_takeLosersBack_33 : decode cX5_takeLosersBack 33 = .ok (.getfield 63, 3) := by decide +kernel
theorem dX5_takeLosersBack_36 : decode cX5_takeLosersBack 36 = .ok (.istore_n 3, 1) := by decide +kernel
theorem dX5_takeLosersBack_37 : decode cX5_takeLosersBack 37 = .ok (.aload_n 2, 1) := by decide +kernel
theorem dX5_takeLosersBack_38 : decode cX5_takeLosersBack 38 = .ok (.invokevirtual 45, 3) := by decide +kernel
theorem dX5_takeLosersBack_41 : decode cX5_takeLosersBack 41 = .ok (.istore 4, 2) := by decide +kernel
theorem dX5_takeLosersBack_43 : decode cX5_takeLosersBack 43 = .ok (.iload 4, 2) := by decide +kernel
theorem dX5_takeLosersBack_45 : decode cX5_takeLosersBack 45 = .ok (.aload_n 2, 1) := by decide +kernel
theorem dX5_takeLosersBack_46 : decode cX5_takeLosersBack 46 = .ok (.getfield 92, 3) := by decide +kernel
theorem dX5_takeLosersBack_49 : decode cX5_takeLosersBack 49 = .ok (.if_icmp .lt 162, 3) := by decide +kernel
theorem dX5_takeLosersBack_52 : decode cX5_takeLosersBack 52 = .ok (.iload_n 3, 1) := by decide +kernel
theorem dX5_takeLosersBack_53 : decode cX5_takeLosersBack 53 = .ok (.ifCond .eq 158, 3) := by decide +kernel
theorem dX5_takeLosersBack_56 : decode cX5_takeLosersBack 56 = .ok (.aload_n 2, 1) := by decide +kernel
theorem dX5_takeLosersBack_57 : decode cX5_takeLosersBack 57 = .ok (.aload_n 2, 1) := by decide +kernel
theorem dX5_takeLosersBack_58 : decode cX5_takeLosersBack 58 = .ok (.getfield 105, 3) := by decide +kernel
theorem dX5_takeLosersBack_61 : decode cX5_takeLosersBack 61 = .ok (.iload 4, 2) := by decide +kernel
theorem dX5_takeLosersBack_63 : decode cX5_takeLosersBack 63 = .ok (.invokevirtual 76, 3) := by decide +kernel
theorem dX5_takeLosersBack_66 : decode cX5_takeLosersBack 66 = .ok (.istore 5, 2) := by decide +kernel
theorem dX5_takeLosersBack_68 : decode cX5_takeLosersBack 68 = .ok (.aload_n 2, 1) := by decide +kernel
theorem dX5_takeLosersBack_69 : decode cX5_takeLosersBack 69 = .ok (.aload_n 2, 1) := by decide +kernel
theorem dX5_takeLosersBack_70 : decode cX5_takeLosersBack 70 = .ok (.getfield 99, 3) := by decide +kernel
theorem dX5_takeLosersBack_73 : decode cX5_takeLosersBack 73 = .ok (.iload 4, 2) := by decide +kernel
theorem dX5_takeLosersBack_75 : decode cX5_takeLosersBack 75 = .ok (.invokevirtual 76, 3) := by decide +kernel
theorem dX5_takeLosersBack_78 : decode cX5_takeLosersBack 78 = .ok (.istore 6, 2) := by decide +kernel
theorem dX5_takeLosersBack_80 : decode cX5_takeLosersBack 80 = .ok (.iload 6, 2) := by decide +kernel
theorem dX5_takeLosersBack_82 : decode cX5_takeLosersBack 82 = .ok (.ifCond .lt 23, 3) := by decide +kernel
theorem dX5_takeLosersBack_85 : decode cX5_takeLosersBack 85 = .ok (.iload 6, 2) := by decide +kernel
theorem dX5_takeLosersBack_87 : decode cX5_takeLosersBack 87 = .ok (.iconst 4, 1) := by decide +kernel
theorem dX5_takeLosersBack_88 : decode cX5_takeLosersBack 88 = .ok (.if_icmp .ge 17, 3) := by decide +kernel
theorem dX5_takeLosersBack_91 : decode cX5_takeLosersBack 91 = .ok (.iload_n 3, 1) := by decide +kernel
theorem dX5_takeLosersBack_92 : decode cX5_takeLosersBack 92 = .ok (.iload 6, 2) := by decide +kernel
theorem dX5_takeLosersBack_94 : decode cX5_takeLosersBack 94 = .ok (.ishr, 1) := by decide +kernel
theorem dX5_takeLosersBack_95 : decode cX5_takeLosersBack 95 = .ok (.iconst 1, 1) := by decide +kernel
theorem dX5_takeLosersBack_96 : decode cX5_takeLosersBack 96 = .ok (.iand, 1) := by decide +kernel
theorem dX5_takeLosersBack_97 : decode cX5_takeLosersBack 97 = .ok (.iconst 1, 1) := by decide +kernel
theorem dX5_takeLosersBack_98 : decode cX5_takeLosersBack 98 = .ok (.if_icmp .ne 7, 3) := by decide +kernel
theorem dX5_takeLosersBack_101 : decode cX5_takeLosersBack 101 = .ok (.iconst 1, 1) := by decide +kernel
theorem dX5_takeLosersBack_102 : decode cX5_takeLosersBack 102 = .ok (.goto 4, 3) := by decide +kernel
theorem dX5_takeLosersBack_105 : decode cX5_takeLosersBack 105 = .ok (.iconst 0, 1) := by decide +kernel
theorem dX5_takeLosersBack_106 : decode cX5_takeLosersBack 106 = .ok (.istore 7, 2) := by decide +kernel
theorem dX5_takeLosersBack_108 : decode cX5_takeLosersBack 108 = .ok (.iload 5, 2) := by decide +kernel
theorem dX5_takeLosersBack_110 : decode cX5_takeLosersBack 110 = .ok (.iconst 3, 1) := by decide +kernel
theorem dX5_takeLosersBack_111 : decode cX5_takeLosersBack 111 = .ok (.if_icmp .ne 25, 3) := by decide +kernel
theorem dX5_takeLosersBack_114 : decode cX5_takeLosersBack 114 = .ok (.aload_n 0, 1) := by decide +kernel
theorem dX5_takeLosersBack_115 : decode cX5_takeLosersBack 115 = .ok (.aload_n 2, 1) := by decide +kernel
theorem dX5_takeLosersBack_116 : decode cX5_takeLosersBack 116 = .ok (.aload_n 2, 1) := by decide +kernel
theorem dX5_takeLosersBack_117 : decode cX5_takeLosersBack 117 = .ok (.getfield 127, 3) := by decide +kernel
theorem dX5_takeLosersBack_120 : decode cX5_takeLosersBack 120 = .ok (.iload 4, 2) := by decide +kernel
theorem dX5_takeLosersBack_122 : decode cX5_takeLosersBack 122 = .ok (.invokevirtual 76, 3) := by decide +kernel
theorem dX5_takeLosersBack_125 : decode cX5_takeLosersBack 125 = .ok (.aload_n 2, 1) := by decide +kernel
theorem dX5_takeLosersBack_126 : decode cX5_takeLosersBack 126 = .ok (.getfield 92, 3) := by decide +kernel
theorem dX5_takeLosersBack_129 : decode cX5_takeLosersBack 129 = .ok (.isub, 1) := by decide +kernel
theorem dX5_takeLosersBack_130 : decode cX5_takeLosersBack 130 = .ok (.invokevirtual 130, 3) := by decide +kernel
theorem dX5_takeLosersBack_133 : decode cX5_takeLosersBack 133 = .ok (.goto 72, 3) := by decide +kernel
theorem dX5_takeLosersBack_136 : decode cX5_takeLosersBack 136 = .ok (.iload 7, 2) := by decide +kernel
theorem dX5_takeLosersBack_138 : decode cX5_takeLosersBack 138 = .ok (.ifCond .eq 26, 3) := by decide +kernel
theorem dX5_takeLosersBack_141 : decode cX5_takeLosersBack 141 = .ok (.iload 5, 2) := by decide +kernel
theorem dX5_takeLosersBack_143 : decode cX5_takeLosersBack 143 = .ok (.ifCond .ne 21, 3) := by decide +kernel
theorem dX5_takeLosersBack_146 : decode cX5_takeLosersBack 146 = .ok (.aload_n 1, 1) := by decide +kernel
theorem dX5_takeLosersBack_147 : decode cX5_takeLosersBack 147 = .ok (.iload 6, 2) := by decide +kernel
theorem dX5_takeLosersBack_149 : decode cX5_takeLosersBack 149 = .ok (.invokevirtual 134, 3) := by decide +kernel
theorem dX5_takeLosersBack_152 : decode cX5_takeLosersBack 152 = .ok (.iload_n 3, 1) := by decide +kernel
theorem dX5_takeLosersBack_153 : decode cX5_takeLosersBack 153 = .ok (.iconst 1, 1) := by decide +kernel
theorem dX5_takeLosersBack_154 : decode cX5_takeLosersBack 154 = .ok (.iload 6, 2) := by decide +kernel
theorem dX5_takeLosersBack_156 : decode cX5_takeLosersBack 156 = .ok (.ishl, 1) := by decide +kernel
theorem dX5_takeLosersBack_157 : decode cX5_takeLosersBack 157 = .ok (.iconst (-1), 1) := by decide +kernel
theorem dX5_takeLosersBack_158 : decode cX5_takeLosersBack 158 = .ok (.ixor, 1) := by decide +kernel
theorem dX5_takeLosersBack_159 : decode cX5_takeLosersBack 159 = .ok (.iand, 1) := by decide +kernel
theorem dX5_takeLosersBack_160 : decode cX5_takeLosersBack 160 = .ok (.istore_n 3, 1) := by decide +kernel
theorem dX5_takeLosersBack_161 : decode cX5_takeLosersBack 161 = .ok (.goto 44, 3) := by decide +kernel
theorem dX5_takeLosersBack_164 : decode cX5_takeLosersBack 164 = .ok (.iload 7, 2) := by decide +kernel
theorem dX5_takeLosersBack_166 : decode cX5_takeLosersBack 166 = .ok (.ifCond .eq 39, 3) := by decide +kernel
theorem dX5_takeLosersBack_169 : decode cX5_takeLosersBack 169 = .ok (.iload 5, 2) := by decide +kernel
theorem dX5_takeLosersBack_171 : decode cX5_takeLosersBack 171 = .ok (.iconst 1, 1) := by decide +kernel
theorem dX5_takeLosersBack_172 : decode cX5_takeLosersBack 172 = .ok (.if_icmp .ne 33, 3) := by decide +kernel
theorem dX5_takeLosersBack_175 : decode cX5_takeLosersBack 175 = .ok (.aload_n 0, 1) := by decide +kernel
theorem dX5_takeLosersBack_176 : decode cX5_takeLosersBack 176 = .ok (.iload 4, 2) := by decide +kernel
theorem dX5_takeLosersBack_178 : decode cX5_takeLosersBack 178 = .ok (.aload_n 2, 1) := by decide +kernel
theorem dX5_takeLosersBack_179 : decode cX5_takeLosersBack 179 = .ok (.getfield 92, 3) := by decide +kernel
theorem dX5_takeLosersBack_182 : decode cX5_takeLosersBack 182 = .ok (.isub, 1) := by decide +kernel
theorem dX5_takeLosersBack_183 : decode cX5_takeLosersBack 183 = .ok (.invokevirtual 137, 3) := by decide +kernel
theorem dX5_takeLosersBack_186 : decode cX5_takeLosersBack 186 = .ok (.ifCond .ne 19, 3) := by decide +kernel
theorem dX5_takeLosersBack_189 : decode cX5_takeLosersBack 189 = .ok (.aload_n 1, 1) := by decide +kernel
theorem dX5_takeLosersBack_190 : decode cX5_takeLosersBack 190 = .ok (.iload 4, 2) := by decide +kernel
theorem dX5_takeLosersBack_192 : decode cX5_takeLosersBack 192 = .ok (.invokevirtual 141, 3) := by decide +kernel
theorem dX5_takeLosersBack_195 : decode cX5_takeLosersBack 195 = .ok (.aload_n 0, 1) := by decide +kernel
theorem dX5_takeLosersBack_196 : decode cX5_takeLosersBack 196 = .ok (.dup, 1) := by decide +kernel
theorem dX5_takeLosersBack_197 : decode cX5_takeLosersBack 197 = .ok (.getfield 60, 3) := by decide +kernel
theorem dX5_takeLosersBack_200 : decode cX5_takeLosersBack 200 = .ok (.iconst 1, 1) := by decide +kernel
theorem dX5_takeLosersBack_201 : decode cX5_takeLosersBack 201 = .ok (.iadd, 1) := by decide +kernel
theorem dX5_takeLosersBack_202 : decode cX5_takeLosersBack 202 = .ok (.putfield 60, 3) := by decide +kernel
theorem dX5_takeLosersBack_205 : decode cX5_takeLosersBack 205 = .ok (.iinc 4 (-1), 3) := by decide +kernel
theorem dX5_takeLosersBack_208 : decode cX5_takeLosersBack 208 = .ok (.goto (-165), 3) := by decide +kernel
theorem dX5_takeLosersBack_211 : decode cX5_takeLosersBack 211 = .ok (.return_, 1) := by decide +kernel
theorem dX5_noteTakenBack_0 : decode cX5_noteTakenBack 0 = .ok (.iload_n 1, 1) := by decide +kernel
theorem dX5_noteTakenBack_1 : decode cX5_noteTakenBack 1 = .ok (.ifCond .lt 17, 3) := by decide +kernel
theorem dX5_noteTakenBack_4 : decode cX5_noteTakenBack 4 = .ok (.iload_n 1, 1) := by decide +kernel
theorem dX5_noteTakenBack_5 : decode cX5_noteTakenBack 5 = .ok (.sipush 128, 3) := by decide +kernel
theorem dX5_noteTakenBack_8 : decode cX5_noteTakenBack 8 = .ok (.if_icmp .ge 10, 3) := by decide +kernel
theorem dX5_noteTakenBack_11 : decode cX5_noteTakenBack 11 = .ok (.aload_n 0, 1) := by decide +kernel
theorem dX5_noteTakenBack_12 : decode cX5_noteTakenBack 12 = .ok (.getfield 15, 3) := by decide +kernel
theorem dX5_noteTakenBack_15 : decode cX5_noteTakenBack 15 = .ok (.iload_n 1, 1) := by decide +kernel
theorem dX5_noteTakenBack_16 : decode cX5_noteTakenBack 16 = .ok (.iconst 1, 1) := by decide +kernel
theorem dX5_noteTakenBack_17 : decode cX5_noteTakenBack 17 = .ok (.iastore, 1) := by decide +kernel
theorem dX5_noteTakenBack_18 : decode cX5_noteTakenBack 18 = .ok (.return_, 1) := by decide +kernel
theorem dX5_isTakenBack_0 : decode cX5_isTakenBack 0 = .ok (.iload_n 1, 1) := by decide +kernel
theorem dX5_isTakenBack_1 : decode cX5_isTakenBack 1 = .ok (.ifCond .lt 24, 3) := by decide +kernel
theorem dX5_isTakenBack_4 : decode cX5_isTakenBack 4 = .ok (.iload_n 1, 1) := by decide +kernel
theorem dX5_isTakenBack_5 : decode cX5_isTakenBack 5 = .ok (.sipush 128, 3) := by decide +kernel
theorem dX5_isTakenBack_8 : decode cX5_isTakenBack 8 = .ok (.if_icmp .ge 17, 3) := by decide +kernel
theorem dX5_isTakenBack_11 : decode cX5_isTakenBack 11 = .ok (.aload_n 0, 1) := by decide +kernel
theorem dX5_isTakenBack_12 : decode cX5_isTakenBack 12 = .ok (.getfield 15, 3) := by decide +kernel
theorem dX5_isTakenBack_15 : decode cX5_isTakenBack 15 = .ok (.iload_n 1, 1) := by decide +kernel
theorem dX5_isTakenBack_16 : decode cX5_isTakenBack 16 = .ok (.iaload, 1) := by decide +kernel
theorem dX5_isTakenBack_17 : decode cX5_isTakenBack 17 = .ok (.iconst 1, 1) := by decide +kernel
theorem dX5_isTakenBack_18 : decode cX5_isTakenBack 18 = .ok (.if_icmp .ne 7, 3) := by decide +kernel
theorem dX5_isTakenBack_21 : decode cX5_isTakenBack 21 = .ok (.iconst 1, 1) := by decide +kernel
theorem dX5_isTakenBack_22 : decode cX5_isTakenBack 22 = .ok (.goto 4, 3) := by decide +kernel
theorem dX5_isTakenBack_25 : decode cX5_isTakenBack 25 = .ok (.iconst 0, 1) := by decide +kernel
theorem dX5_isTakenBack_26 : decode cX5_isTakenBack 26 = .ok (.ireturn, 1) := by decide +kernel
theorem dX6_init_0 : decode cX6_init 0 = .ok (.aload_n 0, 1) := by decide +kernel
theorem dX6_init_1 : decode cX6_init 1 = .ok (.invokespecial 3, 3) := by decide +kernel
theorem dX6_init_4 : decode cX6_init 4 = .ok (.aload_n 0, 1) := by decide +kernel
theorem dX6_init_5 : decode cX6_init 5 = .ok (.new 9, 3) := by decide +kernel
theorem dX6_init_8 : decode cX6_init 8 = .ok (.dup, 1) := by decide +kernel
theorem dX6_init_9 : decode cX6_init 9 = .ok (.invokespecial 11, 3) := by decide +kernel
theorem dX6_init_12 : decode cX6_init 12 = .ok (.putfield 12, 3) := by decide +kernel
theorem dX6_init_15 : decode cX6_init 15 = .ok (.aload_n 0, 1) := by decide +kernel
theorem dX6_init_16 : decode cX6_init 16 = .ok (.new 18, 3) := by decide +kernel
theorem dX6_init_19 : decode cX6_init 19 = .ok (.dup, 1) := by decide +kernel
theorem dX6_init_20 : decode cX6_init 20 = .ok (.invokespecial 20, 3) := by decide +kernel
theorem dX6_init_23 : decode cX6_init 23 = .ok (.putfield 21, 3) := by decide +kernel
theorem dX6_init_26 : decode cX6_init 26 = .ok (.aload_n 0, 1) := by decide +kernel
theorem dX6_init_27 : decode cX6_init 27 = .ok (.new 25, 3) := by decide +kernel
theorem dX6_init_30 : decode cX6_init 30 = .ok (.dup, 1) := by decide +kernel
theorem dX6_init_31 : decode cX6_init 31 = .ok (.invokespecial 27, 3) := by decide +kernel
theorem dX6_init_34 : decode cX6_init 34 = .ok (.putfield 28, 3) := by decide +kernel
theorem dX6_init_37 : decode cX6_init 37 = .ok (.return_, 1) := by decide +kernel
theorem dX6_copyFrom_0 : decode cX6_copyFrom 0 = .ok (.aload_n 0, 1) := by decide +kernel
theorem dX6_copyFrom_1 : decode cX6_copyFrom 1 = .ok (.getfield 12, 3) := by decide +kernel
theorem dX6_copyFrom_4 : decode cX6_copyFrom 4 = .ok (.aload_n 1, 1) := by decide +kernel
theorem dX6_copyFrom_5 : decode cX6_copyFrom 5 = .ok (.getfield 12, 3) := by decide +kernel
theorem dX6_copyFrom_8 : decode cX6_copyFrom 8 = .ok (.invokevirtual 32, 3) := by decide +kernel
theorem dX6_copyFrom_11 : decode cX6_copyFrom 11 = .ok (.aload_n 0, 1) := by decide +kernel
theorem dX6_copyFrom_12 : decode cX6_copyFrom 12 = .ok (.getfield 21, 3) := by decide +kernel
theorem dX6_copyFrom_15 : decode cX6_copyFrom 15 = .ok (.aload_n 1, 1) := by decide +kernel
theorem dX6_copyFrom_16 : decode cX6_copyFrom 16 = .ok (.getfield 21, 3) := by decide +kernel
theorem dX6_copyFrom_19 : decode cX6_copyFrom 19 = .ok (.invokevirtual 36, 3) := by decide +kernel
theorem dX6_copyFrom_22 : decode cX6_copyFrom 22 = .ok (.aload_n 0, 1) := by decide +kernel
theorem dX6_copyFrom_23 : decode cX6_copyFrom 23 = .ok (.getfield 28, 3) := by decide +kernel
theorem dX6_copyFrom_26 : decode cX6_copyFrom 26 = .ok (.aload_n 1, 1) := by decide +kernel
theorem dX6_copyFrom_27 : decode cX6_copyFrom 27 = .ok (.getfield 28, 3) := by decide +kernel
theorem dX6_copyFrom_30 : decode cX6_copyFrom 30 = .ok (.invokevirtual 39, 3) := by decide +kernel
theorem dX6_copyFrom_33 : decode cX6_copyFrom 33 = .ok (.aload_n 0, 1) := by decide +kernel
theorem dX6_copyFrom_34 : decode cX6_copyFrom 34 = .ok (.aload_n 1, 1) := by decide +kernel
theorem dX6_copyFrom_35 : decode cX6_copyFrom 35 = .ok (.getfield 42, 3) := by decide +kernel
theorem dX6_copyFrom_38 : decode cX6_copyFrom 38 = .ok (.putfield 42, 3) := by decide +kernel
theorem dX6_copyFrom_41 : decode cX6_copyFrom 41 = .ok (.aload_n 0, 1) := by decide +kernel
theorem dX6_copyFrom_42 : decode cX6_copyFrom 42 = .ok (.aload_n 1, 1) := by decide +kernel
theorem dX6_copyFrom_43 : decode cX6_copyFrom 43 = .ok (.getfield 46, 3) := by decide +kernel
theorem dX6_copyFrom_46 : decode cX6_copyFrom 46 = .ok (.putfield 46, 3) := by decide +kernel
theorem dX6_copyFrom_49 : decode cX6_copyFrom 49 = .ok (.return_, 1) := by decide +kernel
theorem dX6_beginGroup_0 : decode cX6_beginGroup 0 = .ok (.iload_n 1, 1) := by decide +kernel
theorem dX6_beginGroup_1 : decode cX6_beginGroup 1 = .ok (.ifCond .lt 8, 3) := by decide +kernel
theorem dX6_beginGroup_4 : decode cX6_beginGroup 4 = .ok (.iload_n 1, 1) := by decide +kernel
theorem dX6_beginGroup_5 : decode cX6_beginGroup 5 = .ok (.iconst 4, 1) := by decide +kernel
theorem dX6_beginGroup_6 : decode cX6_beginGroup 6 = .ok (.if_icmp .lt 6, 3) := by decide +kernel
theorem dX6_beginGroup_9 : decode cX6_beginGroup 9 = .ok (.ldc 50, 2) := by decide +kernel
theorem dX6_beginGroup_11 : decode cX6_beginGroup 11 = .ok (.ireturn, 1) := by decide +kernel
theorem dX6_beginGroup_12 : decode cX6_beginGroup 12 = .ok (.aload_n 0, 1) := by decide +kernel
theorem dX6_beginGroup_13 : decode cX6_beginGroup 13 = .ok (.getfield 42, 3) := by decide +kernel
theorem dX6_beginGroup_16 : decode cX6_beginGroup 16 = .ok (.ifCond .ne 14, 3) := by decide +kernel
theorem dX6_beginGroup_19 : decode cX6_beginGroup 19 = .ok (.aload_n 0, 1) := by decide +kernel
theorem dX6_beginGroup_20 : decode cX6_beginGroup 20 = .ok (.getfield 21, 3) := by decide +kernel
theorem dX6_beginGroup_23 : decode cX6_beginGroup 23 = .ok (.iload_n 1, 1) := by decide +kernel
theorem dX6_beginGroup_24 : decode cX6_beginGroup 24 = .ok (.invokevirtual 51, 3) := by decide +kernel
theorem dX6_beginGroup_27 : decode cX6_beginGroup 27 = .ok (.ifCond .eq 6, 3) := by decide +kernel
theorem dX6_beginGroup_30 : decode cX6_beginGroup 30 = .ok (.ldc 55, 2) := by decide +kernel
theorem dX6_beginGroup_32 : decode cX6_beginGroup 32 = .ok (.ireturn, 1) := by decide +kernel
theorem dX6_beginGroup_33 : decode cX6_beginGroup 33 = .ok (.aload_n 0, 1) := by decide +kernel
theorem dX6_beginGroup_34 : decode cX6_beginGroup 34 = .ok (.getfield 28, 3) := by decide +kernel
theorem dX6_beginGroup_37 : decode cX6_beginGroup 37 = .ok (.invokevirtual 56, 3) := by decide +kernel
theorem dX6_beginGroup_40 : decode cX6_beginGroup 40 = .ok (.ifCond .eq 6, 3) := by decide +kernel
theorem dX6_beginGroup_43 : decode cX6_beginGroup 43 = .ok (.ldc 60, 2) := by decide +kernel
theorem dX6_beginGroup_45 : decode cX6_beginGroup 45 = .ok (.ireturn, 1) := by decide +kernel
theorem dX6_beginGroup_46 : decode cX6_beginGroup 46 = .ok (.aload_n 0, 1) := by decide +kernel
theorem dX6_beginGroup_47 : decode cX6_beginGroup 47 = .ok (.getfield 28, 3) := by decide +kernel
theorem dX6_beginGroup_50 : decode cX6_beginGroup 50 = .ok (.iconst 0, 1) := by decide +kernel
theorem dX6_beginGroup_51 : decode cX6_beginGroup 51 = .ok (.iload_n 1, 1) := by decide +kernel
theorem dX6_beginGroup_52 : decode cX6_beginGroup 52 = .ok (.ldc 61, 2) := by decide +kernel
theorem dX6_beginGroup_54 : decode cX6_beginGroup 54 = .ok (.iconst 0, 1) := by decide +kernel
theorem dX6_beginGroup_55 : decode cX6_beginGroup 55 = .ok (.iconst 0, 1) := by decide +kernel
theorem dX6_beginGroup_56 : decode cX6_beginGroup 56 = .ok (.iconst 0, 1) := by decide +kernel
theorem dX6_beginGroup_57 : decode cX6_beginGroup 57 = .ok (.invokevirtual 62, 3) := by decide +kernel
theorem dX6_beginGroup_60 : decode cX6_beginGroup 60 = .ok (.istore_n 2, 1) := by decide +kernel
theorem dX6_beginGroup_61 : decode cX6_beginGroup 61 = .ok (.aload_n 0, 1) := by decide +kernel
theorem dX6_beginGroup_62 : decode cX6_beginGroup 62 = .ok (.getfield 21, 3) := by decide +kernel
theorem dX6_beginGroup_65 : decode cX6_beginGroup 65 = .ok (.iload_n 1, 1) := by decide +kernel
theorem dX6_beginGroup_66 : decode cX6_beginGroup 66 = .ok (.iload_n 2, 1) := by decide +kernel
theorem dX6_beginGroup_67 : decode cX6_beginGroup 67 = .ok (.invokevirtual 66, 3) := by decide +kernel
theorem dX6_beginGroup_70 : decode cX6_beginGroup 70 = .ok (.iload_n 2, 1) := by decide +kernel
theorem dX6_beginGroup_71 : decode cX6_beginGroup 71 = .ok (.ireturn, 1) := by decide +kernel
theorem dX6_writePage_0 : decode cX6_writePage 0 = .ok (.iload_n 1, 1) := by decide +kernel
theorem dX6_writePage_1 : decode cX6_writePage 1 = .ok (.ifCond .lt 18, 3) := by decide +kernel
theorem dX6_writePage_4 : decode cX6_writePage 4 = .ok (.iload_n 1, 1) := by decide +kernel
theorem dX6_writePage_5 : decode cX6_writePage 5 = .ok (.iconst 4, 1) := by decide +kernel
theorem dX6_writePage_6 : decode cX6_writePage 6 = .ok (.if_icmp .ge 13, 3) := by decide +kernel
theorem dX6_writePage_9 : decode cX6_writePage 9 = .ok (.iload_n 2, 1) := by decide +kernel
theorem dX6_writePage_10 : decode cX6_writePage 10 = .ok (.ifCond .lt 9, 3) := by decide +kernel
theorem dX6_writePage_13 : decode cX6_writePage 13 = .ok (.iload_n 2, 1) := by decide +kernel
theorem dX6_writePage_14 : decode cX6_writePage 14 = .ok (.bipush 8, 2) := by decide +kernel
theorem dX6_writePage_16 : decode cX6_writePage 16 = .ok (.if_icmp .lt 6, 3) := by decide +kernel
theorem dX6_writePage_19 : decode cX6_writePage 19 = .ok (.ldc 50, 2) := by decide +kernel
theorem dX6_writePage_21 : decode cX6_writePage 21 = .ok (.ireturn, 1) := by decide +kernel
theorem dX6_writePage_22 : decode cX6_writePage 22 = .ok (.iload_n 3, 1) := by decide +kernel
theorem dX6_writePage_23 : decode cX6_writePage 23 = .ok (.ifCond .lt 9, 3) := by decide +kernel
theorem dX6_writePage_26 : decode cX6_writePage 26 = .ok (.iload_n 3, 1) := by decide +kernel
theorem dX6_writePage_27 : decode cX6_writePage 27 = .ok (.bipush 100, 2) := by decide +kernel
theorem dX6_writePage_29 : decode cX6_writePage 29 = .ok (.if_icmp .lt 6, 3) := by decide +kernel
theorem dX6_writePage_32 : decode cX6_writePage 32 = .ok (.ldc 50, 2) := by decide +kernel
theorem dX6_writePage_34 : decode cX6_writePage 34 = .ok (.ireturn, 1) := by decide +kernel
theorem dX6_writePage_35 : decode cX6_writePage 35 = .ok (.aload_n 0, 1) := by decide +kernel
theorem dX6_writePage_36 : decode cX6_writePage 36 = .ok (.getfield 21, 3) := by decide +kernel
theorem dX6_writePage_39 : decode cX6_writePage 39 = .ok (.iload_n 2, 1) := by decide +kernel
theorem dX6_writePage_40 : decode cX6_writePage 40 = .ok (.invokevirtual 70, 3) := by decide +kernel
theorem dX6_writePage_43 : decode cX6_writePage 43 = .ok (.istore 4, 2) := by decide +kernel
theorem dX6_writePage_45 : decode cX6_writePage 45 = .ok (.aload_n 0, 1) := by decide +kernel
theorem dX6_writePage_46 : decode cX6_writePage 46 = .ok (.getfield 42, 3) := by decide +kernel
theorem dX6_writePage_49 : decode cX6_writePage 49 = .ok (.ifCond .ne 25, 3) := by decide +kernel
theorem dX6_writePage_52 : decode cX6_writePage 52 = .ok (.aload_n 0, 1) := by decide +kernel
theorem dX6_writePage_53 : decode cX6_writePage 53 = .ok (.getfield 21, 3) := by decide +kernel
theorem dX6_writePage_56 : decode cX6_writePage 56 = .ok (.iload_n 1, 1) := by decide +kernel
theorem dX6_writePage_57 : decode cX6_writePage 57 = .ok (.invokevirtual 51, 3) := by decide +kernel
theorem dX6_writePage_60 : decode cX6_writePage 60 = .ok (.ifCond .eq 14, 3) := by decide +kernel
theorem dX6_writePage_63 : decode cX6_writePage 63 = .ok (.iload 4, 2) := by decide +kernel
theorem dX6_writePage_65 : decode cX6_writePage 65 = .ok (.ifCond .lt 12, 3) := by decide +kernel
theorem dX6_writePage_68 : decode cX6_writePage 68 = .ok (.iload 4, 2) := by decide +kernel
theorem dX6_writePage_70 : decode cX6_writePage 70 = .ok (.iload_n 1, 1) := by decide +kernel
theorem dX6_writePage_71 : decode cX6_writePage 71 = .ok (.if_icmp .eq 6, 3) := by decide +kernel
theorem dX6_writePage_74 : decode cX6_writePage 74 = .ok (.ldc 55, 2) := by decide +kernel
theorem dX6_writePage_76 : decode cX6_writePage 76 = .ok (.ireturn, 1) := by decide +kernel
theorem dX6_writePage_77 : decode cX6_writePage 77 = .ok (.aload_n 0, 1) := by decide +kernel
theorem dX6_writePage_78 : decode cX6_writePage 78 = .ok (.getfield 28, 3) := by decide +kernel
theorem dX6_writePage_81 : decode cX6_writePage 81 = .ok (.invokevirtual 56, 3) := by decide +kernel
theorem dX6_writePage_84 : decode cX6_writePage 84 = .ok (.ifCond .eq 6, 3) := by decide +kernel
theorem dX6_writePage_87 : decode cX6_writePage 87 = .ok (.ldc 60, 2) := by decide +kernel
theorem dX6_writePage_89 : decode cX6_writePage 89 = .ok (.ireturn, 1) := by decide +kernel
theorem dX6_writePage_90 : decode cX6_writePage 90 = .ok (.aload_n 0, 1) := by decide +kernel
theorem dX6_writePage_91 : decode cX6_writePage 91 = .ok (.getfield 12, 3) := by decide +kernel
theorem dX6_writePage_94 : decode cX6_writePage 94 = .ok (.iload_n 2, 1) := by decide +kernel
theorem dX6_writePage_95 : decode cX6_writePage 95 = .ok (.invokevirtual 74, 3) := by decide +kernel
theorem dX6_writePage_98 : decode cX6_writePage 98 = .ok (.istore 5, 2) := by decide +kernel
theorem dX6_writePage_100 : decode cX6_writePage 100 = .ok (.aload_n 0, 1) := by decide +kernel
theorem dX6_writePage_101 : decode cX6_writePage 101 = .ok (.getfield 28, 3) := by decide +kernel
theorem dX6_writePage_104 : decode cX6_writePage 104 = .ok (.iconst 1, 1) := by decide +kernel
theorem dX6_writePage_105 : decode cX6_writePage 105 = .ok (.iload_n 1, 1) := by decide +kernel
theorem dX6_writePage_106 : decode cX6_writePage 106 = .ok (.iload_n 2, 1) := by decide +kernel
theorem dX6_writePage_107 : decode cX6_writePage 107 = .ok (.iload 5, 2) := by decide +kernel
theorem dX6_writePage_109 : decode cX6_writePage 109 = .ok (.iload_n 3, 1) := by decide +kernel
theorem dX6_writePage_110 : decode cX6_writePage 110 = .ok (.iconst 0, 1) := by decide +kernel
theorem dX6_writePage_111 : decode cX6_writePage 111 = .ok (.invokevirtual 62, 3) := by decide +kernel
theorem dX6_writePage_114 : decode cX6_writePage 114 = .ok (.istore 6, 2) := by decide +kernel
theorem dX6_writePage_116 : decode cX6_writePage 116 = .ok (.aload_n 0, 1) := by decide +kernel
theorem dX6_writePage_117 : decode cX6_writePage 117 = .ok (.getfield 12, 3) := by decide +kernel
theorem dX6_writePage_120 : decode cX6_writePage 120 = .ok (.iload_n 2, 1) := by decide +kernel
theorem dX6_writePage_121 : decode cX6_writePage 121 = .ok (.iload_n 3, 1) := by decide +kernel
theorem dX6_writePage_122 : decode cX6_writePage 122 = .ok (.iload 6, 2) := by decide +kernel
theorem dX6_writePage_124 : decode cX6_writePage 124 = .ok (.invokevirtual 77, 3) := by decide +kernel
theorem dX6_writePage_127 : decode cX6_writePage 127 = .ok (.aload_n 0, 1) := by decide +kernel
theorem dX6_writePage_128 : decode cX6_writePage 128 = .ok (.getfield 21, 3) := by decide +kernel
theorem dX6_writePage_131 : decode cX6_writePage 131 = .ok (.iload_n 1, 1) := by decide +kernel
theorem dX6_writePage_132 : decode cX6_writePage 132 = .ok (.iload_n 2, 1) := by decide +kernel
theorem dX6_writePage_133 : decode cX6_writePage 133 = .ok (.invokevirtual 81, 3) := by decide +kernel
theorem dX6_writePage_136 : decode cX6_writePage 136 = .ok (.iload 5, 2) := by decide +kernel
theorem dX6_writePage_138 : decode cX6_writePage 138 = .ok (.ireturn, 1) := by decide +kernel
theorem dX6_errorOfEnding_0 : decode cX6_errorOfEnding 0 = .ok (.iload_n 1, 1) := by decide +kernel
theorem dX6_errorOfEnding_1 : decode cX6_errorOfEnding 1 = .ok (.ifCond .lt 8, 3) := by decide +kernel
theorem dX6_errorOfEnding_4 : decode cX6_errorOfEnding 4 = .ok (.iload_n 1, 1) := by decide +kernel
theorem dX6_errorOfEnding_5 : decode cX6_errorOfEnding 5 = .ok (.iconst 4, 1) := by decide +kernel
theorem dX6_errorOfEnding_6 : decode cX6_errorOfEnding 6 = .ok (.if_icmp .lt 6, 3) := by decide +kernel
theorem dX6_errorOfEnding_9 : decode cX6_errorOfEnding 9 = .ok (.ldc 50, 2) := by decide +kernel
theorem dX6_errorOfEnding_11 : decode cX6_errorOfEnding 11 = .ok (.ireturn, 1) := by decide +kernel
theorem dX6_errorOfEnding_12 : decode cX6_errorOfEnding 12 = .ok (.aload_n 0, 1) := by decide +kernel
theorem dX6_errorOfEnding_13 : decode cX6_errorOfEnding 13 = .ok (.getfield 42, 3) := by decide +kernel
theorem dX6_errorOfEnding_16 : decode cX6_errorOfEnding 16 = .ok (.ifCond .ne 14, 3) := by decide +kernel
theorem dX6_errorOfEnding_19 : decode cX6_errorOfEnding 19 = .ok (.aload_n 0, 1) := by decide +kernel
theorem dX6_errorOfEnding_20 : decode cX6_errorOfEnding 20 = .ok (.getfield 21, 3) := by decide +kernel
theorem dX6_errorOfEnding_23 : decode cX6_errorOfEnding 23 = .ok (.iload_n 1, 1) := by decide +kernel
theorem dX6_errorOfEnding_24 : decode cX6_errorOfEnding 24 = .ok (.invokevirtual 51, 3) := by decide +kernel
theorem dX6_errorOfEnding_27 : decode cX6_errorOfEnding 27 = .ok (.ifCond .ne 6, 3) := by decide +kernel
theorem dX6_errorOfEnding_30 : decode cX6_errorOfEnding 30 = .ok (.ldc 55, 2) := by decide +kernel
theorem dX6_errorOfEnding_32 : decode cX6_errorOfEnding 32 = .ok (.ireturn, 1) := by decide +kernel
theorem dX6_errorOfEnding_33 : decode cX6_errorOfEnding 33 = .ok (.aload_n 0, 1) := by decide +kernel
theorem dX6_errorOfEnding_34 : decode cX6_errorOfEnding 34 = .ok (.getfield 28, 3) := by decide +kernel
theorem dX6_errorOfEnding_37 : decode cX6_errorOfEnding 37 = .ok (.getfield 84, 3) := by decide +kernel
theorem dX6_errorOfEnding_40 : decode cX6_errorOfEnding 40 = .ok (.iload_n 2, 1) := by decide +kernel
theorem dX6_errorOfEnding_41 : decode cX6_errorOfEnding 41 = .ok (.iadd, 1) := by decide +kernel
theorem dX6_errorOfEnding_42 : decode cX6_errorOfEnding 42 = .ok (.bipush 60, 2) := by decide +kernel
theorem dX6_errorOfEnding_44 : decode cX6_errorOfEnding 44 = .ok (.if_icmp .le 8, 3) := by decide +kernel
theorem dX6_errorOfEnding_47 : decode cX6_errorOfEnding 47 = .ok (.ldc 60, 2) := by decide +kernel
theorem dX6_errorOfEnding_49 : decode cX6_errorOfEnding 49 = .ok (.goto 4, 3) := by decide +kernel
theorem dX6_errorOfEnding_52 : decode cX6_errorOfEnding 52 = .ok (.iconst 0, 1) := by decide +kernel
theorem dX6_errorOfEnding_53 : decode cX6_errorOfEnding 53 = .ok (.ireturn, 1) := by decide +kernel
theorem dX6_settleGroup_0 : decode cX6_settleGroup 0 = .ok (.aload_n 0, 1) := by decide +kernel
theorem dX6_settleGroup_1 : decode cX6_settleGroup 1 = .ok (.iload_n 1, 1) := by decide +kernel
theorem dX6_settleGroup_2 : decode cX6_settleGroup 2 = .ok (.iconst 1, 1) := by decide +kernel
theorem dX6_settleGroup_3 : decode cX6_settleGroup 3 = .ok (.invokevirtual 87, 3) := by decide +kernel
theorem dX6_settleGroup_6 : decode cX6_settleGroup 6 = .ok (.istore_n 2, 1) := by decide +kernel
theorem dX6_settleGroup_7 : decode cX6_settleGroup 7 = .ok (.iload_n 2, 1) := by decide +kernel
theorem dX6_settleGroup_8 : decode cX6_settleGroup 8 = .ok (.ifCond .eq 5, 3) := by decide +kernel
theorem dX6_settleGroup_11 : decode cX6_settleGroup 11 = .ok (.iload_n 2, 1) := by decide +kernel
theorem dX6_settleGroup_12 : decode cX6_settleGroup 12 = .ok (.ireturn, 1) := by decide +kernel
theorem dX6_settleGroup_13 : decode cX6_settleGroup 13 = .ok (.aload_n 0, 1) := by decide +kernel
theorem dX6_settleGroup_14 : decode cX6_settleGroup 14 = .ok (.getfield 28, 3) := by decide +kernel
theorem dX6_settleGroup_17 : decode cX6_settleGroup 17 = .ok (.aload_n 0, 1) := by decide +kernel
theorem dX6_settleGroup_18 : decode cX6_settleGroup 18 = .ok (.getfield 28, 3) := by decide +kernel
theorem dX6_settleGroup_21 : decode cX6_settleGroup 21 = .ok (.iconst 2, 1) := by decide +kernel
theorem dX6_settleGroup_22 : decode cX6_settleGroup 22 = .ok (.iload_n 1, 1) := by decide +kernel
theorem dX6_settleGroup_23 : decode cX6_settleGroup 23 = .ok (.ldc 61, 2) := by decide +kernel
theorem dX6_settleGroup_25 : decode cX6_settleGroup 25 = .ok (.iconst 0, 1) := by decide +kernel
theorem dX6_settleGroup_26 : decode cX6_settleGroup 26 = .ok (.iconst 0, 1) := by decide +kernel
theorem dX6_settleGroup_27 : decode cX6_settleGroup 27 = .ok (.iconst 0, 1) := by decide +kernel
theorem dX6_settleGroup_28 : decode cX6_settleGroup 28 = .ok (.invokevirtual 62, 3) := by decide +kernel
theorem dX6_settleGroup_31 : decode cX6_settleGroup 31 = .ok (.invokevirtual 91, 3) := by decide +kernel
theorem dX6_settleGroup_34 : decode cX6_settleGroup 34 = .ok (.pop, 1) := by decide +kernel
theorem dX6_settleGroup_35 : decode cX6_settleGroup 35 = .ok (.aload_n 0, 1) := by decide +kernel
theorem dX6_settleGroup_36 : decode cX6_settleGroup 36 = .ok (.getfield 21, 3) := by decide +kernel
theorem dX6_settleGroup_39 : decode cX6_settleGroup 39 = .ok (.iload_n 1, 1) := by decide +kernel
theorem dX6_settleGroup_40 : decode cX6_settleGroup 40 = .ok (.invokevirtual 94, 3) := by decide +kernel
theorem dX6_settleGroup_43 : decode cX6_settleGroup 43 = .ok (.aload_n 0, 1) := by decide +kernel
theorem dX6_settleGroup_44 : decode cX6_settleGroup 44 = .ok (.getfield 21, 3) := by decide +kernel
theorem dX6_settleGroup_47 : decode cX6_settleGroup 47 = .ok (.iload_n 1, 1) := by decide +kernel
theorem dX6_settleGroup_48 : decode cX6_settleGroup 48 = .ok (.invokevirtual 98, 3) := by decide +kernel
theorem dX6_settleGroup_51 : decode cX6_settleGroup 51 = .ok (.invokestatic 101, 3) := by decide +kernel
theorem dX6_settleGroup_54 : decode cX6_settleGroup 54 = .ok (.ireturn, 1) := by decide +kernel
theorem dX6_takeGroupBack_0 : decode cX6_takeGroupBack 0 = .ok (.aload_n 0, 1) := by decide +kernel
theorem dX6_takeGroupBack_1 : decode cX6_takeGroupBack 1 = .ok (.getfield 21, 3) := by decide +kernel
theorem dX6_takeGroupBack_4 : decode cX6_takeGroupBack 4 = .ok (.iload_n 1, 1) := by decide +kernel
theorem dX6_takeGroupBack_5 : decode cX6_takeGroupBack 5 = .ok (.invokevirtual 106, 3) := by decide +kernel
theorem dX6_takeGroupBack_8 : decode cX6_takeGroupBack 8 = .ok (.istore_n 2, 1) := by decide +kernel
theorem dX6_takeGroupBack_9 : decode cX6_takeGroupBack 9 = .ok (.aload_n 0, 1) := by decide +kernel
theorem dX6_takeGroupBack_10 : decode cX6_takeGroupBack 10 = .ok (.iload_n 1, 1) := by decide +kernel
theorem dX6_takeGroupBack_11 : decode cX6_takeGroupBack 11 = .ok (.iload_n 2, 1) := by decide +kernel
theorem dX6_takeGroupBack_12 : decode cX6_takeGroupBack 12 = .ok (.iconst 1, 1) := by decide +kernel
theorem dX6_takeGroupBack_13 : decode cX6_takeGroupBack 13 = .ok (.iadd, 1) := by decide +kernel
theorem dX6_takeGroupBack_14 : decode cX6_takeGroupBack 14 = .ok (.invokevirtual 87, 3) := by decide +kernel
theorem dX6_takeGroupBack_17 : decode cX6_takeGroupBack 17 = .ok (.istore_n 3, 1) := by decide +kernel
theorem dX6_takeGroupBack_18 : decode cX6_takeGroupBack 18 = .ok (.iload_n 3, 1) := by decide +kernel
theorem dX6_takeGroupBack_19 : decode cX6_takeGroupBack 19 = .ok (.ifCond .eq 5, 3) := by decide +kernel
theorem dX6_takeGroupBack_22 : decode cX6_takeGroupBack 22 = .ok (.iload_n 3, 1) := by decide +kernel
theorem dX6_takeGroupBack_23 : decode cX6_takeGroupBack 23 = .ok (.ireturn, 1) := by decide +kernel
theorem dX6_takeGroupBack_24 : decode cX6_takeGroupBack 24 = .ok (.aload_n 0, 1) := by decide +kernel
theorem dX6_takeGroupBack_25 : decode cX6_takeGroupBack 25 = .ok (.getfield 21, 3) := by decide +kernel
theorem dX6_takeGroupBack_28 : decode cX6_takeGroupBack 28 = .ok (.iload_n 1, 1) := by decide +kernel
theorem dX6_takeGroupBack_29 : decode cX6_takeGroupBack 29 = .ok (.invokevirtual 109, 3) := by decide +kernel
theorem dX6_takeGroupBack_32 : decode cX6_takeGroupBack 32 = .ok (.istore 4, 2) := by decide +kernel
theorem dX6_takeGroupBack_34 : decode cX6_takeGroupBack 34 = .ok (.aload_n 0, 1) := by decide +kernel
theorem dX6_takeGroupBack_35 : decode cX6_takeGroupBack 35 = .ok (.getfield 28, 3) := by decide +kernel
theorem dX6_takeGroupBack_38 : decode cX6_takeGroupBack 38 = .ok (.invokevirtual 112, 3) := by decide +kernel
theorem dX6_takeGroupBack_41 : decode cX6_takeGroupBack 41 = .ok (.istore 5, 2) := by decide +kernel
theorem dX6_takeGroupBack_43 : decode cX6_takeGroupBack 43 = .ok (.iload 5, 2) := by decide +kernel
theorem dX6_takeGroupBack_45 : decode cX6_takeGroupBack 45 = .ok (.iload 4, 2) := by decide +kernel
theorem dX6_takeGroupBack_47 : decode cX6_takeGroupBack 47 = .ok (.if_icmp .le 67, 3) := by decide +kernel
theorem dX6_takeGroupBack_50 : decode cX6_takeGroupBack 50 = .ok (.aload_n 0, 1) := by decide +kernel
theorem dX6_takeGroupBack_51 : decode cX6_takeGroupBack 51 = .ok (.getfield 28, 3) := by decide +kernel
theorem dX6_takeGroupBack_54 : decode cX6_takeGroupBack 54 = .ok (.aload_n 0, 1) := by decide +kernel
theorem dX6_takeGroupBack_55 : decode cX6_takeGroupBack 55 = .ok (.getfield 28, 3) := by decide +kernel
theorem dX6_takeGroupBack_58 : decode cX6_takeGroupBack 58 = .ok (.getfield 116, 3) := by decide +kernel
theorem dX6_takeGroupBack_61 : decode cX6_takeGroupBack 61 = .ok (.iload 5, 2) := by decide +kernel
theorem dX6_takeGroupBack_63 : decode cX6_takeGroupBack 63 = .ok (.invokevirtual 120, 3) := by decide +kernel
theorem dX6_takeGroupBack_66 : decode cX6_takeGroupBack 66 = .ok (.iload_n 1, 1) := by decide +kernel
theorem dX6_takeGroupBack_67 : decode cX6_takeGroupBack 67 = .ok (.if_icmp .ne 7, 3) := by decide +kernel
theorem dX6_takeGroupBack_70 : decode cX6_takeGroupBack 70 = .ok (.iconst 1, 1) := by decide +kernel
theorem dX6_takeGroupBack_71 : decode cX6_takeGroupBack 71 = .ok (.goto 4, 3) := by decide +kernel
theorem dX6_takeGroupBack_74 : decode cX6_takeGroupBack 74 = .ok (.iconst 0, 1) := by decide +kernel
theorem dX6_takeGroupBack_75 : decode cX6_takeGroupBack 75 = .ok (.istore 6, 2) := by decide +kernel
theorem dX6_takeGroupBack_77 : decode cX6_takeGroupBack 77 = .ok (.iload 6, 2) := by decide +kernel
theorem dX6_takeGroupBack_79 : decode cX6_takeGroupBack 79 = .ok (.ifCond .eq 29, 3) := by decide +kernel
theorem dX6_takeGroupBack_82 : decode cX6_takeGroupBack 82 = .ok (.aload_n 0, 1) := by decide +kernel
theorem dX6_takeGroupBack_83 : decode cX6_takeGroupBack 83 = .ok (.getfield 28, 3) := by decide +kernel
theorem dX6_takeGroupBack_86 : decode cX6_takeGroupBack 86 = .ok (.aload_n 0, 1) := by decide +kernel
theorem dX6_takeGroupBack_87 : decode cX6_takeGroupBack 87 = .ok (.getfield 28, 3) := by decide +kernel
theorem dX6_takeGroupBack_90 : decode cX6_takeGroupBack 90 = .ok (.getfield 124, 3) := by decide +kernel
theorem dX6_takeGroupBack_93 : decode cX6_takeGroupBack 93 = .ok (.iload 5, 2) := by decide +kernel
theorem dX6_takeGroupBack_95 : decode cX6_takeGroupBack 95 = .ok (.invokevirtual 120, 3) := by decide +kernel
theorem dX6_takeGroupBack_98 : decode cX6_takeGroupBack 98 = .ok (.iconst 1, 1) := by decide +kernel
theorem dX6_takeGroupBack_99 : decode cX6_takeGroupBack 99 = .ok (.if_icmp .ne 9, 3) := by decide +kernel
theorem dX6_takeGroupBack_102 : decode cX6_takeGroupBack 102 = .ok (.aload_n 0, 1) := by decide +kernel
