theorem dX0_init_0 : decode cX0_init 0 = .ok (.aload_n 0, 1) := by decide +kernel
theorem dX0_init_1 : decode cX0_init 1 = .ok (.invokespecial 3, 3) := by decide +kernel
theorem dX0_init_4 : decode cX0_init 4 = .ok (.aload_n 0, 1) := by decide +kernel
theorem dX0_init_5 : decode cX0_init 5 = .ok (.iconst 4, 1) := by decide +kernel
theorem dX0_init_6 : decode cX0_init 6 = .ok (.newarray .int, 2) := by decide +kernel
theorem dX0_init_8 : decode cX0_init 8 = .ok (.putfield 9, 3) := by decide +kernel
theorem dX0_init_11 : decode cX0_init 11 = .ok (.aload_n 0, 1) := by decide +kernel
theorem dX0_init_12 : decode cX0_init 12 = .ok (.iconst 4, 1) := by decide +kernel
theorem dX0_init_13 : decode cX0_init 13 = .ok (.newarray .int, 2) := by decide +kernel
theorem dX0_init_15 : decode cX0_init 15 = .ok (.putfield 15, 3) := by decide +kernel
theorem dX0_init_18 : decode cX0_init 18 = .ok (.aload_n 0, 1) := by decide +kernel
theorem dX0_init_19 : decode cX0_init 19 = .ok (.iconst 4, 1) := by decide +kernel
theorem dX0_init_20 : decode cX0_init 20 = .ok (.newarray .int, 2) := by decide +kernel
theorem dX0_init_22 : decode cX0_init 22 = .ok (.putfield 18, 3) := by decide +kernel
theorem dX0_init_25 : decode cX0_init 25 = .ok (.return_, 1) := by decide +kernel
theorem dX0_copyFrom_0 : decode cX0_copyFrom 0 = .ok (.aload_n 1, 1) := by decide +kernel
theorem dX0_copyFrom_1 : decode cX0_copyFrom 1 = .ok (.getfield 9, 3) := by decide +kernel
theorem dX0_copyFrom_4 : decode cX0_copyFrom 4 = .ok (.iconst 0, 1) := by decide +kernel
theorem dX0_copyFrom_5 : decode cX0_copyFrom 5 = .ok (.aload_n 0, 1) := by decide +kernel
theorem dX0_copyFrom_6 : decode cX0_copyFrom 6 = .ok (.getfield 9, 3) := by decide +kernel
theorem dX0_copyFrom_9 : decode cX0_copyFrom 9 = .ok (.iconst 0, 1) := by decide +kernel
theorem dX0_copyFrom_10 : decode cX0_copyFrom 10 = .ok (.iconst 4, 1) := by decide +kernel
theorem dX0_copyFrom_11 : decode cX0_copyFrom 11 = .ok (.invokestatic 21, 3) := by decide +kernel
theorem dX0_copyFrom_14 : decode cX0_copyFrom 14 = .ok (.aload_n 1, 1) := by decide +kernel
theorem dX0_copyFrom_15 : decode cX0_copyFrom 15 = .ok (.getfield 15, 3) := by decide +kernel
theorem dX0_copyFrom_18 : decode cX0_copyFrom 18 = .ok (.iconst 0, 1) := by decide +kernel
theorem dX0_copyFrom_19 : decode cX0_copyFrom 19 = .ok (.aload_n 0, 1) := by decide +kernel
theorem dX0_copyFrom_20 : decode cX0_copyFrom 20 = .ok (.getfield 15, 3) := by decide +kernel
theorem dX0_copyFrom_23 : decode cX0_copyFrom 23 = .ok (.iconst 0, 1) := by decide +kernel
theorem dX0_copyFrom_24 : decode cX0_copyFrom 24 = .ok (.iconst 4, 1) := by decide +kernel
theorem dX0_copyFrom_25 : decode cX0_copyFrom 25 = .ok (.invokestatic 21, 3) := by decide +kernel
theorem dX0_copyFrom_28 : decode cX0_copyFrom 28 = .ok (.aload_n 1, 1) := by decide +kernel
theorem dX0_copyFrom_29 : decode cX0_copyFrom 29 = .ok (.getfield 18, 3) := by decide +kernel
theorem dX0_copyFrom_32 : decode cX0_copyFrom 32 = .ok (.iconst 0, 1) := by decide +kernel
theorem dX0_copyFrom_33 : decode cX0_copyFrom 33 = .ok (.aload_n 0, 1) := by decide +kernel
theorem dX0_copyFrom_34 : decode cX0_copyFrom 34 = .ok (.getfield 18, 3) := by decide +kernel
theorem dX0_copyFrom_37 : decode cX0_copyFrom 37 = .ok (.iconst 0, 1) := by decide +kernel
theorem dX0_copyFrom_38 : decode cX0_copyFrom 38 = .ok (.iconst 4, 1) := by decide +kernel
theorem dX0_copyFrom_39 : decode cX0_copyFrom 39 = .ok (.invokestatic 21, 3) := by decide +kernel
theorem dX0_copyFrom_42 : decode cX0_copyFrom 42 = .ok (.aload_n 0, 1) := by decide +kernel
theorem dX0_copyFrom_43 : decode cX0_copyFrom 43 = .ok (.aload_n 1, 1) := by decide +kernel
theorem dX0_copyFrom_44 : decode cX0_copyFrom 44 = .ok (.getfield 27, 3) := by decide +kernel
theorem dX0_copyFrom_47 : decode cX0_copyFrom 47 = .ok (.putfield 27, 3) := by decide +kernel
theorem dX0_copyFrom_50 : decode cX0_copyFrom 50 = .ok (.return_, 1) := by decide +kernel
theorem dX0_isOpen_0 : decode cX0_isOpen 0 = .ok (.iload_n 1, 1) := by decide +kernel
theorem dX0_isOpen_1 : decode cX0_isOpen 1 = .ok (.ifCond .lt 24, 3) := by decide +kernel
theorem dX0_isOpen_4 : decode cX0_isOpen 4 = .ok (.iload_n 1, 1) := by decide +kernel
theorem dX0_isOpen_5 : decode cX0_isOpen 5 = .ok (.iconst 4, 1) := by decide +kernel
theorem dX0_isOpen_6 : decode cX0_isOpen 6 = .ok (.if_icmp .ge 19, 3) := by decide +kernel
theorem dX0_isOpen_9 : decode cX0_isOpen 9 = .ok (.aload_n 0, 1) := by decide +kernel
theorem dX0_isOpen_10 : decode cX0_isOpen 10 = .ok (.getfield 27, 3) := by decide +kernel
theorem dX0_isOpen_13 : decode cX0_isOpen 13 = .ok (.iload_n 1, 1) := by decide +kernel
theorem dX0_isOpen_14 : decode cX0_isOpen 14 = .ok (.ishr, 1) := by decide +kernel
theorem dX0_isOpen_15 : decode cX0_isOpen 15 = .ok (.iconst 1, 1) := by decide +kernel
theorem dX0_isOpen_16 : decode cX0_isOpen 16 = .ok (.iand, 1) := by decide +kernel
theorem dX0_isOpen_17 : decode cX0_isOpen 17 = .ok (.iconst 1, 1) := by decide +kernel
theorem dX0_isOpen_18 : decode cX0_isOpen 18 = .ok (.if_icmp .ne 7, 3) := by decide +kernel
theorem dX0_isOpen_21 : decode cX0_isOpen 21 = .ok (.iconst 1, 1) := by decide +kernel
theorem dX0_isOpen_22 : decode cX0_isOpen 22 = .ok (.goto 4, 3) := by decide +kernel
theorem dX0_isOpen_25 : decode cX0_isOpen 25 = .ok (.iconst 0, 1) := by decide +kernel
theorem dX0_isOpen_26 : decode cX0_isOpen 26 = .ok (.ireturn, 1) := by decide +kernel
theorem dX0_enter_0 : decode cX0_enter 0 = .ok (.iload_n 1, 1) := by decide +kernel
theorem dX0_enter_1 : decode cX0_enter 1 = .ok (.ifCond .lt 8, 3) := by decide +kernel
theorem dX0_enter_4 : decode cX0_enter 4 = .ok (.iload_n 1, 1) := by decide +kernel
theorem dX0_enter_5 : decode cX0_enter 5 = .ok (.iconst 4, 1) := by decide +kernel
theorem dX0_enter_6 : decode cX0_enter 6 = .ok (.if_icmp .lt 4, 3) := by decide +kernel
theorem dX0_enter_9 : decode cX0_enter 9 = .ok (.return_, 1) := by decide +kernel
theorem dX0_enter_10 : decode cX0_enter 10 = .ok (.aload_n 0, 1) := by decide +kernel
theorem dX0_enter_11 : decode cX0_enter 11 = .ok (.getfield 9, 3) := by decide +kernel
theorem dX0_enter_14 : decode cX0_enter 14 = .ok (.iload_n 1, 1) := by decide +kernel
theorem dX0_enter_15 : decode cX0_enter 15 = .ok (.iload_n 2, 1) := by decide +kernel
theorem dX0_enter_16 : decode cX0_enter 16 = .ok (.iastore, 1) := by decide +kernel
theorem dX0_enter_17 : decode cX0_enter 17 = .ok (.aload_n 0, 1) := by decide +kernel
theorem dX0_enter_18 : decode cX0_enter 18 = .ok (.getfield 15, 3) := by decide +kernel
theorem dX0_enter_21 : decode cX0_enter 21 = .ok (.iload_n 1, 1) := by decide +kernel
theorem dX0_enter_22 : decode cX0_enter 22 = .ok (.iconst 0, 1) := by decide +kernel
theorem dX0_enter_23 : decode cX0_enter 23 = .ok (.iastore, 1) := by decide +kernel
theorem dX0_enter_24 : decode cX0_enter 24 = .ok (.aload_n 0, 1) := by decide +kernel
theorem dX0_enter_25 : decode cX0_enter 25 = .ok (.getfield 18, 3) := by decide +kernel
theorem dX0_enter_28 : decode cX0_enter 28 = .ok (.iload_n 1, 1) := by decide +kernel
theorem dX0_enter_29 : decode cX0_enter 29 = .ok (.iconst 0, 1) := by decide +kernel
theorem dX0_enter_30 : decode cX0_enter 30 = .ok (.iastore, 1) := by decide +kernel
theorem dX0_enter_31 : decode cX0_enter 31 = .ok (.aload_n 0, 1) := by decide +kernel
theorem dX0_enter_32 : decode cX0_enter 32 = .ok (.dup, 1) := by decide +kernel
theorem dX0_enter_33 : decode cX0_enter 33 = .ok (.getfield 27, 3) := by decide +kernel
theorem dX0_enter_36 : decode cX0_enter 36 = .ok (.iconst 1, 1) := by decide +kernel
theorem dX0_enter_37 : decode cX0_enter 37 = .ok (.iload_n 1, 1) := by decide +kernel
theorem dX0_enter_38 : decode cX0_enter 38 = .ok (.ishl, 1) := by decide +kernel
theorem dX0_enter_39 : decode cX0_enter 39 = .ok (.ior, 1) := by decide +kernel
theorem dX0_enter_40 : decode cX0_enter 40 = .ok (.putfield 27, 3) := by decide +kernel
theorem dX0_enter_43 : decode cX0_enter 43 = .ok (.return_, 1) := by decide +kernel
theorem dX0_hold_0 : decode cX0_hold 0 = .ok (.iload_n 1, 1) := by decide +kernel
theorem dX0_hold_1 : decode cX0_hold 1 = .ok (.ifCond .lt 8, 3) := by decide +kernel
theorem dX0_hold_4 : decode cX0_hold 4 = .ok (.iload_n 1, 1) := by decide +kernel
theorem dX0_hold_5 : decode cX0_hold 5 = .ok (.iconst 4, 1) := by decide +kernel
theorem dX0_hold_6 : decode cX0_hold 6 = .ok (.if_icmp .lt 4, 3) := by decide +kernel
theorem dX0_hold_9 : decode cX0_hold 9 = .ok (.return_, 1) := by decide +kernel
theorem dX0_hold_10 : decode cX0_hold 10 = .ok (.aload_n 0, 1) := by decide +kernel
theorem dX0_hold_11 : decode cX0_hold 11 = .ok (.getfield 15, 3) := by decide +kernel
theorem dX0_hold_14 : decode cX0_hold 14 = .ok (.iload_n 1, 1) := by decide +kernel
theorem dX0_hold_15 : decode cX0_hold 15 = .ok (.dup2, 1) := by decide +kernel
theorem dX0_hold_16 : decode cX0_hold 16 = .ok (.iaload, 1) := by decide +kernel
theorem dX0_hold_17 : decode cX0_hold 17 = .ok (.iconst 1, 1) := by decide +kernel
theorem dX0_hold_18 : decode cX0_hold 18 = .ok (.iadd, 1) := by decide +kernel
theorem dX0_hold_19 : decode cX0_hold 19 = .ok (.iastore, 1) := by decide +kernel
theorem dX0_hold_20 : decode cX0_hold 20 = .ok (.aload_n 0, 1) := by decide +kernel
theorem dX0_hold_21 : decode cX0_hold 21 = .ok (.getfield 18, 3) := by decide +kernel
theorem dX0_hold_24 : decode cX0_hold 24 = .ok (.iload_n 1, 1) := by decide +kernel
theorem dX0_hold_25 : decode cX0_hold 25 = .ok (.dup2, 1) := by decide +kernel
theorem dX0_hold_26 : decode cX0_hold 26 = .ok (.iaload, 1) := by decide +kernel
theorem dX0_hold_27 : decode cX0_hold 27 = .ok (.iconst 1, 1) := by decide +kernel
theorem dX0_hold_28 : decode cX0_hold 28 = .ok (.iload_n 2, 1) := by decide +kernel
theorem dX0_hold_29 : decode cX0_hold 29 = .ok (.ishl, 1) := by decide +kernel
theorem dX0_hold_30 : decode cX0_hold 30 = .ok (.ior, 1) := by decide +kernel
theorem dX0_hold_31 : decode cX0_hold 31 = .ok (.iastore, 1) := by decide +kernel
theorem dX0_hold_32 : decode cX0_hold 32 = .ok (.return_, 1) := by decide +kernel
theorem dX0_leave_0 : decode cX0_leave 0 = .ok (.iload_n 1, 1) := by decide +kernel
theorem dX0_leave_1 : decode cX0_leave 1 = .ok (.ifCond .lt 22, 3) := by decide +kernel
theorem dX0_leave_4 : decode cX0_leave 4 = .ok (.iload_n 1, 1) := by decide +kernel
theorem dX0_leave_5 : decode cX0_leave 5 = .ok (.iconst 4, 1) := by decide +kernel
theorem dX0_leave_6 : decode cX0_leave 6 = .ok (.if_icmp .ge 17, 3) := by decide +kernel
theorem dX0_leave_9 : decode cX0_leave 9 = .ok (.aload_n 0, 1) := by decide +kernel
theorem dX0_leave_10 : decode cX0_leave 10 = .ok (.dup, 1) := by decide +kernel
theorem dX0_leave_11 : decode cX0_leave 11 = .ok (.getfield 27, 3) := by decide +kernel
theorem dX0_leave_14 : decode cX0_leave 14 = .ok (.iconst 1, 1) := by decide +kernel
theorem dX0_leave_15 : decode cX0_leave 15 = .ok (.iload_n 1, 1) := by decide +kernel
theorem dX0_leave_16 : decode cX0_leave 16 = .ok (.ishl, 1) := by decide +kernel
theorem dX0_leave_17 : decode cX0_leave 17 = .ok (.iconst (-1), 1) := by decide +kernel
theorem dX0_leave_18 : decode cX0_leave 18 = .ok (.ixor, 1) := by decide +kernel
theorem dX0_leave_19 : decode cX0_leave 19 = .ok (.iand, 1) := by decide +kernel
theorem dX0_leave_20 : decode cX0_leave 20 = .ok (.putfield 27, 3) := by decide +kernel
theorem dX0_leave_23 : decode cX0_leave 23 = .ok (.return_, 1) := by decide +kernel
theorem dX0_holderOf_0 : decode cX0_holderOf 0 = .ok (.iconst 0, 1) := by decide +kernel
theorem dX0_holderOf_1 : decode cX0_holderOf 1 = .ok (.istore_n 2, 1) := by decide +kernel
theorem dX0_holderOf_2 : decode cX0_holderOf 2 = .ok (.iload_n 2, 1) := by decide +kernel
theorem dX0_holderOf_3 : decode cX0_holderOf 3 = .ok (.iconst 4, 1) := by decide +kernel
theorem dX0_holderOf_4 : decode cX0_holderOf 4 = .ok (.if_icmp .ge 37, 3) := by decide +kernel
theorem dX0_holderOf_7 : decode cX0_holderOf 7 = .ok (.aload_n 0, 1) := by decide +kernel
theorem dX0_holderOf_8 : decode cX0_holderOf 8 = .ok (.getfield 27, 3) := by decide +kernel
theorem dX0_holderOf_11 : decode cX0_holderOf 11 = .ok (.iload_n 2, 1) := by decide +kernel
theorem dX0_holderOf_12 : decode cX0_holderOf 12 = .ok (.ishr, 1) := by decide +kernel
theorem dX0_holderOf_13 : decode cX0_holderOf 13 = .ok (.iconst 1, 1) := by decide +kernel
theorem dX0_holderOf_14 : decode cX0_holderOf 14 = .ok (.iand, 1) := by decide +kernel
theorem dX0_holderOf_15 : decode cX0_holderOf 15 = .ok (.iconst 1, 1) := by decide +kernel
theorem dX0_holderOf_16 : decode cX0_holderOf 16 = .ok (.if_icmp .ne 19, 3) := by decide +kernel
theorem dX0_holderOf_19 : decode cX0_holderOf 19 = .ok (.aload_n 0, 1) := by decide +kernel
theorem dX0_holderOf_20 : decode cX0_holderOf 20 = .ok (.getfield 18, 3) := by decide +kernel
theorem dX0_holderOf_23 : decode cX0_holderOf 23 = .ok (.iload_n 2, 1) := by decide +kernel
theorem dX0_holderOf_24 : decode cX0_holderOf 24 = .ok (.iaload, 1) := by decide +kernel
theorem dX0_holderOf_25 : decode cX0_holderOf 25 = .ok (.iload_n 1, 1) := by decide +kernel
theorem dX0_holderOf_26 : decode cX0_holderOf 26 = .ok (.ishr, 1) := by decide +kernel
theorem dX0_holderOf_27 : decode cX0_holderOf 27 = .ok (.iconst 1, 1) := by decide +kernel
theorem dX0_holderOf_28 : decode cX0_holderOf 28 = .ok (.iand, 1) := by decide +kernel
theorem dX0_holderOf_29 : decode cX0_holderOf 29 = .ok (.iconst 1, 1) := by decide +kernel
theorem dX0_holderOf_30 : decode cX0_holderOf 30 = .ok (.if_icmp .ne 5, 3) := by decide +kernel
theorem dX0_holderOf_33 : decode cX0_holderOf 33 = .ok (.iload_n 2, 1) := by decide +kernel
theorem dX0_holderOf_34 : decode cX0_holderOf 34 = .ok (.ireturn, 1) := by decide +kernel
theorem dX0_holderOf_35 : decode cX0_holderOf 35 = .ok (.iinc 2 1, 3) := by decide +kernel
theorem dX0_holderOf_38 : decode cX0_holderOf 38 = .ok (.goto (-36), 3) := by decide +kernel
theorem dX0_holderOf_41 : decode cX0_holderOf 41 = .ok (.ldc 31, 2) := by decide +kernel
theorem dX0_holderOf_43 : decode cX0_holderOf 43 = .ok (.ireturn, 1) := by decide +kernel
theorem dX0_beginOf_0 : decode cX0_beginOf 0 = .ok (.iload_n 1, 1) := by decide +kernel
theorem dX0_beginOf_1 : decode cX0_beginOf 1 = .ok (.ifCond .lt 17, 3) := by decide +kernel
theorem dX0_beginOf_4 : decode cX0_beginOf 4 = .ok (.iload_n 1, 1) := by decide +kernel
theorem dX0_beginOf_5 : decode cX0_beginOf 5 = .ok (.iconst 4, 1) := by decide +kernel
theorem dX0_beginOf_6 : decode cX0_beginOf 6 = .ok (.if_icmp .ge 12, 3) := by decide +kernel
theorem dX0_beginOf_9 : decode cX0_beginOf 9 = .ok (.aload_n 0, 1) := by decide +kernel
theorem dX0_beginOf_10 : decode cX0_beginOf 10 = .ok (.getfield 9, 3) := by decide +kernel
theorem dX0_beginOf_13 : decode cX0_beginOf 13 = .ok (.iload_n 1, 1) := by decide +kernel
theorem dX0_beginOf_14 : decode cX0_beginOf 14 = .ok (.iaload, 1) := by decide +kernel
theorem dX0_beginOf_15 : decode cX0_beginOf 15 = .ok (.goto 4, 3) := by decide +kernel
theorem dX0_beginOf_18 : decode cX0_beginOf 18 = .ok (.iconst 0, 1) := by decide +kernel
theorem dX0_beginOf_19 : decode cX0_beginOf 19 = .ok (.ireturn, 1) := by decide +kernel
theorem dX0_writesOf_0 : decode cX0_writesOf 0 = .ok (.iload_n 1, 1) := by decide +kernel
theorem dX0_writesOf_1 : decode cX0_writesOf 1 = .ok (.ifCond .lt 17, 3) := by decide +kernel
theorem dX0_writesOf_4 : decode cX0_writesOf 4 = .ok (.iload_n 1, 1) := by decide +kernel
theorem dX0_writesOf_5 : decode cX0_writesOf 5 = .ok (.iconst 4, 1) := by decide +kernel
theorem dX0_writesOf_6 : decode cX0_writesOf 6 = .ok (.if_icmp .ge 12, 3) := by decide +kernel
theorem dX0_writesOf_9 : decode cX0_writesOf 9 = .ok (.aload_n 0, 1) := by decide +kernel
theorem dX0_writesOf_10 : decode cX0_writesOf 10 = .ok (.getfield 15, 3) := by decide +kernel
theorem dX0_writesOf_13 : decode cX0_writesOf 13 = .ok (.iload_n 1, 1) := by decide +kernel
theorem dX0_writesOf_14 : decode cX0_writesOf 14 = .ok (.iaload, 1) := by decide +kernel
theorem dX0_writesOf_15 : decode cX0_writesOf 15 = .ok (.goto 4, 3) := by decide +kernel
theorem dX0_writesOf_18 : decode cX0_writesOf 18 = .ok (.iconst 0, 1) := by decide +kernel
theorem dX0_writesOf_19 : decode cX0_writesOf 19 = .ok (.ireturn, 1) := by decide +kernel
theorem dX0_heldBy_0 : decode cX0_heldBy 0 = .ok (.iload_n 1, 1) := by decide +kernel
theorem dX0_heldBy_1 : decode cX0_heldBy 1 = .ok (.ifCond .lt 17, 3) := by decide +kernel
theorem dX0_heldBy_4 : decode cX0_heldBy 4 = .ok (.iload_n 1, 1) := by decide +kernel
theorem dX0_heldBy_5 : decode cX0_heldBy 5 = .ok (.iconst 4, 1) := by decide +kernel
theorem dX0_heldBy_6 : decode cX0_heldBy 6 = .ok (.if_icmp .ge 12, 3) := by decide +kernel
theorem dX0_heldBy_9 : decode cX0_heldBy 9 = .ok (.aload_n 0, 1) := by decide +kernel
theorem dX0_heldBy_10 : decode cX0_heldBy 10 = .ok (.getfield 18, 3) := by decide +kernel
theorem dX0_heldBy_13 : decode cX0_heldBy 13 = .ok (.iload_n 1, 1) := by decide +kernel
theorem dX0_heldBy_14 : decode cX0_heldBy 14 = .ok (.iaload, 1) := by decide +kernel
theorem dX0_heldBy_15 : decode cX0_heldBy 15 = .ok (.goto 4, 3) := by decide +kernel
theorem dX0_heldBy_18 : decode cX0_heldBy 18 = .ok (.iconst 0, 1) := by decide +kernel
theorem dX0_heldBy_19 : decode cX0_heldBy 19 = .ok (.ireturn, 1) := by decide +kernel
theorem dX0_tell_0 : decode cX0_tell 0 = .ok (.iload_n 2, 1) := by decide +kernel
theorem dX0_tell_1 : decode cX0_tell 1 = .ok (.ifCond .ne 17, 3) := by decide +kernel
theorem dX0_tell_4 : decode cX0_tell 4 = .ok (.aload_n 0, 1) := by decide +kernel
theorem dX0_tell_5 : decode cX0_tell 5 = .ok (.iload_n 1, 1) := by decide +kernel
theorem dX0_tell_6 : decode cX0_tell 6 = .ok (.invokevirtual 32, 3) := by decide +kernel
theorem dX0_tell_9 : decode cX0_tell 9 = .ok (.ifCond .eq 7, 3) := by decide +kernel
theorem dX0_tell_12 : decode cX0_tell 12 = .ok (.iconst 1, 1) := by decide +kernel
theorem dX0_tell_13 : decode cX0_tell 13 = .ok (.goto 4, 3) := by decide +kernel
theorem dX0_tell_16 : decode cX0_tell 16 = .ok (.iconst 0, 1) := by decide +kernel
theorem dX0_tell_17 : decode cX0_tell 17 = .ok (.ireturn, 1) := by decide +kernel
theorem dX0_tell_18 : decode cX0_tell 18 = .ok (.aload_n 0, 1) := by decide +kernel
theorem dX0_tell_19 : decode cX0_tell 19 = .ok (.iload_n 1, 1) := by decide +kernel
theorem dX0_tell_20 : decode cX0_tell 20 = .ok (.invokevirtual 32, 3) := by decide +kernel
theorem dX0_tell_23 : decode cX0_tell 23 = .ok (.ifCond .ne 6, 3) := by decide +kernel
theorem dX0_tell_26 : decode cX0_tell 26 = .ok (.ldc 31, 2) := by decide +kernel
theorem dX0_tell_28 : decode cX0_tell 28 = .ok (.ireturn, 1) := by decide +kernel
theorem dX0_tell_29 : decode cX0_tell 29 = .ok (.iload_n 2, 1) := by decide +kernel
theorem dX0_tell_30 : decode cX0_tell 30 = .ok (.lookupswitch 38 #[(1, 26), (2, 32)], 26) := by decide +kernel
theorem dX0_tell_56 : decode cX0_tell 56 = .ok (.aload_n 0, 1) := by decide +kernel
theorem dX0_tell_57 : decode cX0_tell 57 = .ok (.iload_n 1, 1) := by decide +kernel
theorem dX0_tell_58 : decode cX0_tell 58 = .ok (.invokevirtual 36, 3) := by decide +kernel
theorem dX0_tell_61 : decode cX0_tell 61 = .ok (.ireturn, 1) := by decide +kernel
theorem dX0_tell_62 : decode cX0_tell 62 = .ok (.aload_n 0, 1) := by decide +kernel
theorem dX0_tell_63 : decode cX0_tell 63 = .ok (.iload_n 1, 1) := by decide +kernel
theorem dX0_tell_64 : decode cX0_tell 64 = .ok (.invokevirtual 40, 3) := by decide +kernel
theorem dX0_tell_67 : decode cX0_tell 67 = .ok (.ireturn, 1) := by decide +kernel
theorem dX0_tell_68 : decode cX0_tell 68 = .ok (.aload_n 0, 1) := by decide +kernel
theorem dX0_tell_69 : decode cX0_tell 69 = .ok (.iload_n 1, 1) := by decide +kernel
theorem dX0_tell_70 : decode cX0_tell 70 = .ok (.invokevirtual 43, 3) := by decide +kernel
theorem dX0_tell_73 : decode cX0_tell 73 = .ok (.ireturn, 1) := by decide +kernel
theorem dX1_init_0 : decode cX1_init 0 = .ok (.aload_n 0, 1) := by decide +kernel
theorem dX1_init_1 : decode cX1_init 1 = .ok (.invokespecial 3, 3) := by decide +kernel
theorem dX1_init_4 : decode cX1_init 4 = .ok (.aload_n 0, 1) := by decide +kernel
theorem dX1_init_5 : decode cX1_init 5 = .ok (.iconst 5, 1) := by decide +kernel
theorem dX1_init_6 : decode cX1_init 6 = .ok (.anewarray 9, 3) := by decide +kernel
theorem dX1_init_9 : decode cX1_init 9 = .ok (.putfield 11, 3) := by decide +kernel
theorem dX1_init_12 : decode cX1_init 12 = .ok (.iconst 0, 1) := by decide +kernel
theorem dX1_init_13 : decode cX1_init 13 = .ok (.istore_n 1, 1) := by decide +kernel
theorem dX1_init_14 : decode cX1_init 14 = .ok (.iload_n 1, 1) := by decide +kernel
theorem dX1_init_15 : decode cX1_init 15 = .ok (.iconst 5, 1) := by decide +kernel
theorem dX1_init_16 : decode cX1_init 16 = .ok (.if_icmp .ge 22, 3) := by decide +kernel
theorem dX1_init_19 : decode cX1_init 19 = .ok (.aload_n 0, 1) := by decide +kernel
theorem dX1_init_20 : decode cX1_init 20 = .ok (.getfield 11, 3) := by decide +kernel
theorem dX1_init_23 : decode cX1_init 23 = .ok (.iload_n 1, 1) := by decide +kernel
theorem dX1_init_24 : decode cX1_init 24 = .ok (.new 9, 3) := by decide +kernel
theorem dX1_init_27 : decode cX1_init 27 = .ok (.dup, 1) := by decide +kernel
theorem dX1_init_28 : decode cX1_init 28 = .ok (.invokespecial 17, 3) := by decide +kernel
theorem dX1_init_31 : decode cX1_init 31 = .ok (.aastore, 1) := by decide +kernel
theorem dX1_init_32 : decode cX1_init 32 = .ok (.iinc 1 1, 3) := by decide +kernel
theorem dX1_init_35 : decode cX1_init 35 = .ok (.goto (-21), 3) := by decide +kernel
theorem dX1_init_38 : decode cX1_init 38 = .ok (.return_, 1) := by decide +kernel
theorem dX1_rowAt_0 : decode cX1_rowAt 0 = .ok (.aload_n 0, 1) := by decide +kernel
theorem dX1_rowAt_1 : decode cX1_rowAt 1 = .ok (.getfield 18, 3) := by decide +kernel
theorem dX1_rowAt_4 : decode cX1_rowAt 4 = .ok (.iload_n 1, 1) := by decide +kernel
theorem dX1_rowAt_5 : decode cX1_rowAt 5 = .ok (.iadd, 1) := by decide +kernel
theorem dX1_rowAt_6 : decode cX1_rowAt 6 = .ok (.iconst 5, 1) := by decide +kernel
theorem dX1_rowAt_7 : decode cX1_rowAt 7 = .ok (.invokestatic 22, 3) := by decide +kernel
theorem dX1_rowAt_10 : decode cX1_rowAt 10 = .ok (.istore_n 2, 1) := by decide +kernel
theorem dX1_rowAt_11 : decode cX1_rowAt 11 = .ok (.iload_n 2, 1) := by decide +kernel
theorem dX1_rowAt_12 : decode cX1_rowAt 12 = .ok (.iconst 5, 1) := by decide +kernel
theorem dX1_rowAt_13 : decode cX1_rowAt 13 = .ok (.if_icmp .ge 12, 3) := by decide +kernel
theorem dX1_rowAt_16 : decode cX1_rowAt 16 = .ok (.aload_n 0, 1) := by decide +kernel
theorem dX1_rowAt_17 : decode cX1_rowAt 17 = .ok (.getfield 11, 3) := by decide +kernel
theorem dX1_rowAt_20 : decode cX1_rowAt 20 = .ok (.iload_n 2, 1) := by decide +kernel
theorem dX1_rowAt_21 : decode cX1_rowAt 21 = .ok (.aaload, 1) := by decide +kernel
theorem dX1_rowAt_22 : decode cX1_rowAt 22 = .ok (.goto 4, 3) := by decide +kernel
theorem dX1_rowAt_25 : decode cX1_rowAt 25 = .ok (.aconst_null, 1) := by decide +kernel
theorem dX1_rowAt_26 : decode cX1_rowAt 26 = .ok (.areturn, 1) := by decide +kernel
theorem dX1_prepare_0 : decode cX1_prepare 0 = .ok (.aload_n 0, 1) := by decide +kernel
theorem dX1_prepare_1 : decode cX1_prepare 1 = .ok (.aload_n 0, 1) := by decide +kernel
theorem dX1_prepare_2 : decode cX1_prepare 2 = .ok (.getfield 28, 3) := by decide +kernel
theorem dX1_prepare_5 : decode cX1_prepare 5 = .ok (.invokevirtual 31, 3) := by decide +kernel
theorem dX1_prepare_8 : decode cX1_prepare 8 = .ok (.astore_n 2, 1) := by decide +kernel
theorem dX1_prepare_9 : decode cX1_prepare 9 = .ok (.aload_n 2, 1) := by decide +kernel
theorem dX1_prepare_10 : decode cX1_prepare 10 = .ok (.ifnull 8, 3) := by decide +kernel
theorem dX1_prepare_13 : decode cX1_prepare 13 = .ok (.aload_n 2, 1) := by decide +kernel
theorem dX1_prepare_14 : decode cX1_prepare 14 = .ok (.aload_n 1, 1) := by decide +kernel
theorem dX1_prepare_15 : decode cX1_prepare 15 = .ok (.invokevirtual 35, 3) := by decide +kernel
theorem dX1_prepare_18 : decode cX1_prepare 18 = .ok (.return_, 1) := by decide +kernel
theorem dX1_keepUnlessError_0 : decode cX1_keepUnlessError 0 = .ok (.iload_n 1, 1) := by decide +kernel
theorem dX1_keepUnlessError_1 : decode cX1_keepUnlessError 1 = .ok (.ifCond .ge 5, 3) := by decide +kernel
theorem dX1_keepUnlessError_4 : decode cX1_keepUnlessError 4 = .ok (.iload_n 1, 1) := by decide +kernel
theorem dX1_keepUnlessError_5 : decode cX1_keepUnlessError 5 = .ok (.ireturn, 1) := by decide +kernel
theorem dX1_keepUnlessError_6 : decode cX1_keepUnlessError 6 = .ok (.aload_n 0, 1) := by decide +kernel
theorem dX1_keepUnlessError_7 : decode cX1_keepUnlessError 7 = .ok (.getfield 28, 3) := by decide +kernel
theorem dX1_keepUnlessError_10 : decode cX1_keepUnlessError 10 = .ok (.iconst 4, 1) := by decide +kernel
theorem dX1_keepUnlessError_11 : decode cX1_keepUnlessError 11 = .ok (.if_icmp .ge 16, 3) := by decide +kernel
theorem dX1_keepUnlessError_14 : decode cX1_keepUnlessError 14 = .ok (.aload_n 0, 1) := by decide +kernel
theorem dX1_keepUnlessError_15 : decode cX1_keepUnlessError 15 = .ok (.dup, 1) := by decide +kernel
theorem dX1_keepUnlessError_16 : decode cX1_keepUnlessError 16 = .ok (.getfield 28, 3) := by decide +kernel
theorem dX1_keepUnlessError_19 : decode cX1_keepUnlessError 19 = .ok (.iconst 1, 1) := by decide +kernel
theorem dX1_keepUnlessError_20 : decode cX1_keepUnlessError 20 = .ok (.iadd, 1) := by decide +kernel
theorem dX1_keepUnlessError_21 : decode cX1_keepUnlessError 21 = .ok (.putfield 28, 3) := by decide +kernel
theorem dX1_keepUnlessError_24 : decode cX1_keepUnlessError 24 = .ok (.goto 15, 3) := by decide +kernel
theorem dX1_keepUnlessError_27 : decode cX1_keepUnlessError 27 = .ok (.aload_n 0, 1) := by decide +kernel
theorem dX1_keepUnlessError_28 : decode cX1_keepUnlessError 28 = .ok (.aload_n 0, 1) := by decide +kernel
theorem dX1_keepUnlessError_29 : decode cX1_keepUnlessError 29 = .ok (.getfield 18, 3) := by decide +kernel
theorem dX1_keepUnlessError_32 : decode cX1_keepUnlessError 32 = .ok (.iconst 1, 1) := by decide +kernel
theorem dX1_keepUnlessError_33 : decode cX1_keepUnlessError 33 = .ok (.iadd, 1) := by decide +kernel
theorem dX1_keepUnlessError_34 : decode cX1_keepUnlessError 34 = .ok (.iconst 5, 1) := by decide +kernel
theorem dX1_keepUnlessError_35 : decode cX1_keepUnlessError 35 = .ok (.irem, 1) := by decide +kernel
theorem dX1_keepUnlessError_36 : decode cX1_keepUnlessError 36 = .ok (.putfield 18, 3) := by decide +kernel
theorem dX1_keepUnlessError_39 : decode cX1_keepUnlessError 39 = .ok (.iload_n 1, 1) := by decide +kernel
theorem dX1_keepUnlessError_40 : decode cX1_keepUnlessError 40 = .ok (.ireturn, 1) := by decide +kernel
theorem dX2_init_0 : decode cX2_init 0 = .ok (.aload_n 0, 1) := by decide +kernel
theorem dX2_init_1 : decode cX2_init 1 = .ok (.invokespecial 3, 3) := by decide +kernel
theorem dX2_init_4 : decode cX2_init 4 = .ok (.aload_n 0, 1) := by decide +kernel
theorem dX2_init_5 : decode cX2_init 5 = .ok (.sipush 128, 3) := by decide +kernel
theorem dX2_init_8 : decode cX2_init 8 = .ok (.newarray .int, 2) := by decide +kernel
theorem dX2_init_10 : decode cX2_init 10 = .ok (.putfield 9, 3) := by decide +kernel
theorem dX2_init_13 : decode cX2_init 13 = .ok (.aload_n 0, 1) := by decide +kernel
theorem dX2_init_14 : decode cX2_init 14 = .ok (.sipush 128, 3) := by decide +kernel
theorem dX2_init_17 : decode cX2_init 17 = .ok (.newarray .int, 2) := by decide +kernel
theorem dX2_init_19 : decode cX2_init 19 = .ok (.putfield 15, 3) := by decide +kernel
theorem dX2_init_22 : decode cX2_init 22 = .ok (.aload_n 0, 1) := by decide +kernel
theorem dX2_init_23 : decode cX2_init 23 = .ok (.sipush 128, 3) := by decide +kernel
theorem dX2_init_26 : decode cX2_init 26 = .ok (.newarray .int, 2) := by decide +kernel
theorem dX2_init_28 : decode cX2_init 28 = .ok (.putfield 18, 3) := by decide +kernel
theorem dX2_init_31 : decode cX2_init 31 = .ok (.aload_n 0, 1) := by decide +kernel
theorem dX2_init_32 : decode cX2_init 32 = .ok (.sipush 128, 3) := by decide +kernel
theorem dX2_init_35 : decode cX2_init 35 = .ok (.newarray .int, 2) := by decide +kernel
theorem dX2_init_37 : decode cX2_init 37 = .ok (.putfield 21, 3) := by decide +kernel
theorem dX2_init_40 : decode cX2_init 40 = .ok (.aload_n 0, 1) := by decide +kernel
theorem dX2_init_41 : decode cX2_init 41 = .ok (.sipush 128, 3) := by decide +kernel
theorem dX2_init_44 : decode cX2_init 44 = .ok (.newarray .int, 2) := by decide +kernel
theorem dX2_init_46 : decode cX2_init 46 = .ok (.putfield 24, 3) := by decide +kernel
theorem dX2_init_49 : decode cX2_init 49 = .ok (.aload_n 0, 1) := by decide +kernel
theorem dX2_init_50 : decode cX2_init 50 = .ok (.sipush 128, 3) := by decide +kernel
theorem dX2_init_53 : decode cX2_init 53 = .ok (.newarray .int, 2) := by decide +kernel
theorem dX2_init_55 : decode cX2_init 55 = .ok (.putfield 27, 3) := by decide +kernel
theorem dX2_init_58 : decode cX2_init 58 = .ok (.aload_n 0, 1) := by decide +kernel
theorem dX2_init_59 : decode cX2_init 59 = .ok (.bipush 8, 2) := by decide +kernel
theorem dX2_init_61 : decode cX2_init 61 = .ok (.newarray .int, 2) := by decide +kernel
theorem dX2_init_63 : decode cX2_init 63 = .ok (.putfield 30, 3) := by decide +kernel
theorem dX2_init_66 : decode cX2_init 66 = .ok (.aload_n 0, 1) := by decide +kernel
theorem dX2_init_67 : decode cX2_init 67 = .ok (.iconst 1, 1) := by decide +kernel
theorem dX2_init_68 : decode cX2_init 68 = .ok (.putfield 33, 3) := by decide +kernel
theorem dX2_init_71 : decode cX2_init 71 = .ok (.return_, 1) := by decide +kernel
theorem dX2_copyFrom_0 : decode cX2_copyFrom 0 = .ok (.aload_n 1, 1) := by decide +kernel
theorem dX2_copyFrom_1 : decode cX2_copyFrom 1 = .ok (.getfield 9, 3) := by decide +kernel
theorem dX2_copyFrom_4 : decode cX2_copyFrom 4 = .ok (.iconst 0, 1) := by decide +kernel
theorem dX2_copyFrom_5 : decode cX2_copyFrom 5 = .ok (.aload_n 0, 1) := by decide +kernel
theorem dX2_copyFrom_6 : decode cX2_copyFrom 6 = .ok (.getfield 9, 3) := by decide +kernel
theorem dX2_copyFrom_9 : decode cX2_copyFrom 9 = .ok (.iconst 0, 1) := by decide +kernel
theorem dX2_copyFrom_10 : decode cX2_copyFrom 10 = .ok (.sipush 128, 3) := by decide +kernel
theorem dX2_copyFrom_13 : decode cX2_copyFrom 13 = .ok (.invokestatic 37, 3) := by decide +kernel
theorem dX2_copyFrom_16 : decode cX2_copyFrom 16 = .ok (.aload_n 1, 1) := by decide +kernel
theorem dX2_copyFrom_17 : decode cX2_copyFrom 17 = .ok (.getfield 15, 3) := by decide +kernel
theorem dX2_copyFrom_20 : decode cX2_copyFrom 20 = .ok (.iconst 0, 1) := by decide +kernel
theorem dX2_copyFrom_21 : decode cX2_copyFrom 21 = .ok (.aload_n 0, 1) := by decide +kernel
theorem dX2_copyFrom_22 : decode cX2_copyFrom 22 = .ok (.getfield 15, 3) := by decide +kernel
theorem dX2_copyFrom_25 : decode cX2_copyFrom 25 = .ok (.iconst 0, 1) := by decide +kernel
theorem dX2_copyFrom_26 : decode cX2_copyFrom 26 = .ok (.sipush 128, 3) := by decide +kernel
theorem dX2_copyFrom_29 : decode cX2_copyFrom 29 = .ok (.invokestatic 37, 3) := by decide +kernel
theorem dX2_copyFrom_32 : decode cX2_copyFrom 32 = .ok (.aload_n 1, 1) := by decide +kernel
theorem dX2_copyFrom_33 : decode cX2_copyFrom 33 = .ok (.getfield 18, 3) := by decide +kernel
theorem dX2_copyFrom_36 : decode cX2_copyFrom 36 = .ok (.iconst 0, 1) := by decide +kernel
theorem dX2_copyFrom_37 : decode cX2_copyFrom 37 = .ok (.aload_n 0, 1) := by decide +kernel
theorem dX2_copyFrom_38 : decode cX2_copyFrom 38 = .ok (.getfield 18, 3) := by decide +kernel
theorem dX2_copyFrom_41 : decode cX2_copyFrom 41 = .ok (.iconst 0, 1) := by decide +kernel
theorem dX2_copyFrom_42 : decode cX2_copyFrom 42 = .ok (.sipush 128, 3) := by decide +kernel
theorem dX2_copyFrom_45 : decode cX2_copyFrom 45 = .ok (.invokestatic 37, 3) := by decide +kernel
theorem dX2_copyFrom_48 : decode cX2_copyFrom 48 = .ok (.aload_n 1, 1) := by decide +kernel
theorem dX2_copyFrom_49 : decode cX2_copyFrom 49 = .ok (.getfield 21, 3) := by decide +kernel
theorem dX2_copyFrom_52 : decode cX2_copyFrom 52 = .ok (.iconst 0, 1) := by decide +kernel
theorem dX2_copyFrom_53 : decode cX2_copyFrom 53 = .ok (.aload_n 0, 1) := by decide +kernel
theorem dX2_copyFrom_54 : decode cX2_copyFrom 54 = .ok (.getfield 21, 3) := by decide +kernel
theorem dX2_copyFrom_57 : decode cX2_copyFrom 57 = .ok (.iconst 0, 1) := by decide +kernel
theorem dX2_copyFrom_58 : decode cX2_copyFrom 58 = .ok (.sipush 128, 3) := by decide +kernel
theorem dX2_copyFrom_61 : decode cX2_copyFrom 61 = .ok (.invokestatic 37, 3) := by decide +kernel
theorem dX2_copyFrom_64 : decode cX2_copyFrom 64 = .ok (.aload_n 1, 1) := by decide +kernel
theorem dX2_copyFrom_65 : decode cX2_copyFrom 65 = .ok (.getfield 24, 3) := by decide +kernel
theorem dX2_copyFrom_68 : decode cX2_copyFrom 68 = .ok (.iconst 0, 1) := by decide +kernel
theorem dX2_copyFrom_69 : decode cX2_copyFrom 69 = .ok (.aload_n 0, 1) := by decide +kernel
theorem dX2_copyFrom_70 : decode cX2_copyFrom 70 = .ok (.getfield 24, 3) := by decide +kernel
theorem dX2_copyFrom_73 : decode cX2_copyFrom 73 = .ok (.iconst 0, 1) := by decide +kernel
theorem dX2_copyFrom_74 : decode cX2_copyFrom 74 = .ok (.sipush 128, 3) := by decide +kernel
theorem dX2_copyFrom_77 : decode cX2_copyFrom 77 = .ok (.invokestatic 37, 3) := by decide +kernel
theorem dX2_copyFrom_80 : decode cX2_copyFrom 80 = .ok (.aload_n 1, 1) := by decide +kernel
theorem dX2_copyFrom_81 : decode cX2_copyFrom 81 = .ok (.getfield 27, 3) := by decide +kernel
theorem dX2_copyFrom_84 : decode cX2_copyFrom 84 = .ok (.iconst 0, 1) := by decide +kernel
theorem dX2_copyFrom_85 : decode cX2_copyFrom 85 = .ok (.aload_n 0, 1) := by decide +kernel
theorem dX2_copyFrom_86 : decode cX2_copyFrom 86 = .ok (.getfield 27, 3) := by decide +kernel
theorem dX2_copyFrom_89 : decode cX2_copyFrom 89 = .ok (.iconst 0, 1) := by decide +kernel
theorem dX2_copyFrom_90 : decode cX2_copyFrom 90 = .ok (.sipush 128, 3) := by decide +kernel
theorem dX2_copyFrom_93 : decode cX2_copyFrom 93 = .ok (.invokestatic 37, 3) := by decide +kernel
theorem dX2_copyFrom_96 : decode cX2_copyFrom 96 = .ok (.aload_n 1, 1) := by decide +kernel
theorem dX2_copyFrom_97 : decode cX2_copyFrom 97 = .ok (.getfield 30, 3) := by decide +kernel
theorem dX2_copyFrom_100 : decode cX2_copyFrom 100 = .ok (.iconst 0, 1) := by decide +kernel
theorem dX2_copyFrom_101 : decode cX2_copyFrom 101 = .ok (.aload_n 0, 1) := by decide +kernel
theorem dX2_copyFrom_102 : decode cX2_copyFrom 102 = .ok (.getfield 30, 3) := by decide +kernel
theorem dX2_copyFrom_105 : decode cX2_copyFrom 105 = .ok (.iconst 0, 1) := by decide +kernel
theorem dX2_copyFrom_106 : decode cX2_copyFrom 106 = .ok (.bipush 8, 2) := by decide +kernel
theorem dX2_copyFrom_108 : decode cX2_copyFrom 108 = .ok (.invokestatic 37, 3) := by decide +kernel
theorem dX2_copyFrom_111 : decode cX2_copyFrom 111 = .ok (.aload_n 0, 1) := by decide +kernel
theorem dX2_copyFrom_112 : decode cX2_copyFrom 112 = .ok (.aload_n 1, 1) := by decide +kernel
theorem dX2_copyFrom_113 : decode cX2_copyFrom 113 = .ok (.getfield 33, 3) := by decide +kernel
theorem dX2_copyFrom_116 : decode cX2_copyFrom 116 = .ok (.putfield 33, 3) := by decide +kernel
theorem dX2_copyFrom_119 : decode cX2_copyFrom 119 = .ok (.aload_n 0, 1) := by decide +kernel
theorem dX2_copyFrom_120 : decode cX2_copyFrom 120 = .ok (.aload_n 1, 1) := by decide +kernel
theorem dX2_copyFrom_121 : decode cX2_copyFrom 121 = .ok (.getfield 43, 3) := by decide +kernel
theorem dX2_copyFrom_124 : decode cX2_copyFrom 124 = .ok (.putfield 43, 3) := by decide +kernel
theorem dX2_copyFrom_127 : decode cX2_copyFrom 127 = .ok (.aload_n 0, 1) := by decide +kernel
theorem dX2_copyFrom_128 : decode cX2_copyFrom 128 = .ok (.aload_n 1, 1) := by decide +kernel
theorem dX2_copyFrom_129 : decode cX2_copyFrom 129 = .ok (.getfield 46, 3) := by decide +kernel
theorem dX2_copyFrom_132 : decode cX2_copyFrom 132 = .ok (.putfield 46, 3) := by decide +kernel
theorem dX2_copyFrom_135 : decode cX2_copyFrom 135 = .ok (.aload_n 0, 1) := by decide +kernel
theorem dX2_copyFrom_136 : decode cX2_copyFrom 136 = .ok (.aload_n 1, 1) := by decide +kernel
theorem dX2_copyFrom_137 : decode cX2_copyFrom 137 = .ok (.getfield 49, 3) := by decide +kernel
theorem dX2_copyFrom_140 : decode cX2_copyFrom 140 = .ok (.putfield 49, 3) := by decide +kernel
theorem dX2_copyFrom_143 : decode cX2_copyFrom 143 = .ok (.aload_n 0, 1) := by decide +kernel
theorem dX2_copyFrom_144 : decode cX2_copyFrom 144 = .ok (.aload_n 1, 1) := by decide +kernel
theorem dX2_copyFrom_145 : decode cX2_copyFrom 145 = .ok (.getfield 52, 3) := by decide +kernel
theorem dX2_copyFrom_148 : decode cX2_copyFrom 148 = .ok (.putfield 52, 3) := by decide +kernel
theorem dX2_copyFrom_151 : decode cX2_copyFrom 151 = .ok (.return_, 1) := by decide +kernel
theorem dX2_isFull_0 : decode cX2_isFull 0 = .ok (.aload_n 0, 1) := by decide +kernel
theorem dX2_isFull_1 : decode cX2_isFull 1 = .ok (.getfield 43, 3) := by decide +kernel
theorem dX2_isFull_4 : decode cX2_isFull 4 = .ok (.bipush 60, 2) := by decide +kernel
theorem dX2_isFull_6 : decode cX2_isFull 6 = .ok (.if_icmp .lt 7, 3) := by decide +kernel
theorem dX2_isFull_9 : decode cX2_isFull 9 = .ok (.iconst 1, 1) := by decide +kernel
theorem dX2_isFull_10 : decode cX2_isFull 10 = .ok (.goto 4, 3) := by decide +kernel
theorem dX2_isFull_13 : decode cX2_isFull 13 = .ok (.iconst 0, 1) := by decide +kernel
theorem dX2_isFull_14 : decode cX2_isFull 14 = .ok (.ireturn, 1) := by decide +kernel
theorem dX2_last_0 : decode cX2_last 0 = .ok (.aload_n 0, 1) := by decide +kernel
theorem dX2_last_1 : decode cX2_last 1 = .ok (.getfield 43, 3) := by decide +kernel
theorem dX2_last_4 : decode cX2_last 4 = .ok (.ifCond .ne 7, 3) := by decide +kernel
theorem dX2_last_7 : decode cX2_last 7 = .ok (.iconst 0, 1) := by decide +kernel
theorem dX2_last_8 : decode cX2_last 8 = .ok (.goto 14, 3) := by decide +kernel
theorem dX2_last_11 : decode cX2_last 11 = .ok (.aload_n 0, 1) := by decide +kernel
theorem dX2_last_12 : decode cX2_last 12 = .ok (.getfield 33, 3) := by decide +kernel
theorem dX2_last_15 : decode cX2_last 15 = .ok (.aload_n 0, 1) := by decide +kernel
theorem dX2_last_16 : decode cX2_last 16 = .ok (.getfield 43, 3) := by decide +kernel
theorem dX2_last_19 : decode cX2_last 19 = .ok (.iadd, 1) := by decide +kernel
theorem dX2_last_20 : decode cX2_last 20 = .ok (.iconst 1, 1) := by decide +kernel
theorem dX2_last_21 : decode cX2_last 21 = .ok (.isub, 1) := by decide +kernel
theorem dX2_last_22 : decode cX2_last 22 = .ok (.ireturn, 1) := by decide +kernel
theorem dX2_has_0 : decode cX2_has 0 = .ok (.iload_n 1, 1) := by decide +kernel
theorem dX2_has_1 : decode cX2_has 1 = .ok (.aload_n 0, 1) := by decide +kernel
theorem dX2_has_2 : decode cX2_has 2 = .ok (.getfield 33, 3) := by decide +kernel
theorem dX2_has_5 : decode cX2_has 5 = .ok (.if_icmp .lt 32, 3) := by decide +kernel
theorem dX2_has_8 : decode cX2_has 8 = .ok (.iload_n 1, 1) := by decide +kernel
theorem dX2_has_9 : decode cX2_has 9 = .ok (.aload_n 0, 1) := by decide +kernel
theorem dX2_has_10 : decode cX2_has 10 = .ok (.getfield 33, 3) := by decide +kernel
theorem dX2_has_13 : decode cX2_has 13 = .ok (.isub, 1) := by decide +kernel
theorem dX2_has_14 : decode cX2_has 14 = .ok (.aload_n 0, 1) := by decide +kernel
theorem dX2_has_15 : decode cX2_has 15 = .ok (.getfield 43, 3) := by decide +kernel
theorem dX2_has_18 : decode cX2_has 18 = .ok (.if_icmp .ge 19, 3) := by decide +kernel
theorem dX2_has_21 : decode cX2_has 21 = .ok (.iload_n 1, 1) := by decide +kernel
theorem dX2_has_22 : decode cX2_has 22 = .ok (.aload_n 0, 1) := by decide +kernel
theorem dX2_has_23 : decode cX2_has 23 = .ok (.getfield 33, 3) := by decide +kernel
theorem dX2_has_26 : decode cX2_has 26 = .ok (.isub, 1) := by decide +kernel
theorem dX2_has_27 : decode cX2_has 27 = .ok (.sipush 128, 3) := by decide +kernel
theorem dX2_has_30 : decode cX2_has 30 = .ok (.if_icmp .ge 7, 3) := by decide +kernel
theorem dX2_has_33 : decode cX2_has 33 = .ok (.iconst 1, 1) := by decide +kernel
theorem dX2_has_34 : decode cX2_has 34 = .ok (.goto 4, 3) := by decide +kernel
theorem dX2_has_37 : decode cX2_has 37 = .ok (.iconst 0, 1) := by decide +kernel
theorem dX2_has_38 : decode cX2_has 38 = .ok (.ireturn, 1) := by decide +kernel
theorem dX2_at_0 : decode cX2_at 0 = .ok (.iload_n 2, 1) := by decide +kernel
theorem dX2_at_1 : decode cX2_at 1 = .ok (.aload_n 0, 1) := by decide +kernel
theorem dX2_at_2 : decode cX2_at 2 = .ok (.getfield 33, 3) := by decide +kernel
theorem dX2_at_5 : decode cX2_at 5 = .ok (.isub, 1) := by decide +kernel
theorem dX2_at_6 : decode cX2_at 6 = .ok (.istore_n 3, 1) := by decide +kernel
theorem dX2_at_7 : decode cX2_at 7 = .ok (.iload_n 3, 1) := by decide +kernel
theorem dX2_at_8 : decode cX2_at 8 = .ok (.ifCond .lt 23, 3) := by decide +kernel
theorem dX2_at_11 : decode cX2_at 11 = .ok (.iload_n 3, 1) := by decide +kernel
theorem dX2_at_12 : decode cX2_at 12 = .ok (.aload_n 0, 1) := by decide +kernel
theorem dX2_at_13 : decode cX2_at 13 = .ok (.getfield 43, 3) := by decide +kernel
theorem dX2_at_16 : decode cX2_at 16 = .ok (.if_icmp .ge 15, 3) := by decide +kernel
theorem dX2_at_19 : decode cX2_at 19 = .ok (.iload_n 3, 1) := by decide +kernel
theorem dX2_at_20 : decode cX2_at 20 = .ok (.aload_n 1, 1) := by decide +kernel
theorem dX2_at_21 : decode cX2_at 21 = .ok (.arraylength, 1) := by decide +kernel
theorem dX2_at_22 : decode cX2_at 22 = .ok (.if_icmp .ge 9, 3) := by decide +kernel
theorem dX2_at_25 : decode cX2_at 25 = .ok (.aload_n 1, 1) := by decide +kernel
theorem dX2_at_26 : decode cX2_at 26 = .ok (.iload_n 3, 1) := by decide +kernel
theorem dX2_at_27 : decode cX2_at 27 = .ok (.iaload, 1) := by decide +kernel
theorem dX2_at_28 : decode cX2_at 28 = .ok (.goto 5, 3) := by decide +kernel
theorem dX2_at_31 : decode cX2_at 31 = .ok (.ldc 55, 2) := by decide +kernel
theorem dX2_at_33 : decode cX2_at 33 = .ok (.ireturn, 1) := by decide +kernel
theorem dX2_append_0 : decode cX2_append 0 = .ok (.aload_n 0, 1) := by decide +kernel
theorem dX2_append_1 : decode cX2_append 1 = .ok (.getfield 43, 3) := by decide +kernel
theorem dX2_append_4 : decode cX2_append 4 = .ok (.ifCond .lt 13, 3) := by decide +kernel
theorem dX2_append_7 : decode cX2_append 7 = .ok (.aload_n 0, 1) := by decide +kernel
theorem dX2_append_8 : decode cX2_append 8 = .ok (.getfield 43, 3) := by decide +kernel
theorem dX2_append_11 : decode cX2_append 11 = .ok (.sipush 128, 3) := by decide +kernel
theorem dX2_append_14 : decode cX2_append 14 = .ok (.if_icmp .lt 6, 3) := by decide +kernel
theorem dX2_append_17 : decode cX2_append 17 = .ok (.ldc 55, 2) := by decide +kernel
theorem dX2_append_19 : decode cX2_append 19 = .ok (.ireturn, 1) := by decide +kernel
theorem dX2_append_20 : decode cX2_append 20 = .ok (.aload_n 0, 1) := by decide +kernel
theorem dX2_append_21 : decode cX2_append 21 = .ok (.getfield 9, 3) := by decide +kernel
theorem dX2_append_24 : decode cX2_append 24 = .ok (.aload_n 0, 1) := by decide +kernel
theorem dX2_append_25 : decode cX2_append 25 = .ok (.getfield 43, 3) := by decide +kernel
theorem dX2_append_28 : decode cX2_append 28 = .ok (.iload_n 1, 1) := by decide +kernel
theorem dX2_append_29 : decode cX2_append 29 = .ok (.iastore, 1) := by decide +kernel
theorem dX2_append_30 : decode cX2_append 30 = .ok (.aload_n 0, 1) := by decide +kernel
theorem dX2_append_31 : decode cX2_append 31 = .ok (.getfield 15, 3) := by decide +kernel
theorem dX2_append_34 : decode cX2_append 34 = .ok (.aload_n 0, 1) := by decide +kernel
theorem dX2_append_35 : decode cX2_append 35 = .ok (.getfield 43, 3) := by decide +kernel
theorem dX2_append_38 : decode cX2_append 38 = .ok (.iload_n 2, 1) := by decide +kernel
theorem dX2_append_39 : decode cX2_append 39 = .ok (.iastore, 1) := by decide +kernel
theorem dX2_append_40 : decode cX2_append 40 = .ok (.aload_n 0, 1) := by decide +kernel
theorem dX2_append_41 : decode cX2_append 41 = .ok (.getfield 18, 3) := by decide +kernel
theorem dX2_append_44 : decode cX2_append 44 = .ok (.aload_n 0, 1) := by decide +kernel
theorem dX2_append_45 : decode cX2_append 45 = .ok (.getfield 43, 3) := by decide +kernel
theorem dX2_append_48 : decode cX2_append 48 = .ok (.iload_n 3, 1) := by decide +kernel
theorem dX2_append_49 : decode cX2_append 49 = .ok (.iastore, 1) := by decide +kernel
theorem dX2_append_50 : decode cX2_append 50 = .ok (.aload_n 0, 1) := by decide +kernel
theorem dX2_append_51 : decode cX2_append 51 = .ok (.getfield 21, 3) := by decide +kernel
theorem dX2_append_54 : decode cX2_append 54 = .ok (.aload_n 0, 1) := by decide +kernel
theorem dX2_append_55 : decode cX2_append 55 = .ok (.getfield 43, 3) := by decide +kernel
theorem dX2_append_58 : decode cX2_append 58 = .ok (.iload 4, 2) := by decide +kernel
theorem dX2_append_60 : decode cX2_append 60 = .ok (.iastore, 1) := by decide +kernel
theorem dX2_append_61 : decode cX2_append 61 = .ok (.aload_n 0, 1) := by decide +kernel
theorem dX2_append_62 : decode cX2_append 62 = .ok (.getfield 24, 3) := by decide +kernel
theorem dX2_append_65 : decode cX2_append 65 = .ok (.aload_n 0, 1) := by decide +kernel
theorem dX2_append_66 : decode cX2_append 66 = .ok (.getfield 43, 3) := by decide +kernel
theorem dX2_append_69 : decode cX2_append 69 = .ok (.iload 5, 2) := by decide +kernel
theorem dX2_append_71 : decode cX2_append 71 = .ok (.iastore, 1) := by decide +kernel
theorem dX2_append_72 : decode cX2_append 72 = .ok (.aload_n 0, 1) := by decide +kernel
theorem dX2_append_73 : decode cX2_append 73 = .ok (.getfield 27, 3) := by decide +kernel
theorem dX2_append_76 : decode cX2_append 76 = .ok (.aload_n 0, 1) := by decide +kernel
theorem dX2_append_77 : decode cX2_append 77 = .ok (.getfield 43, 3) := by decide +kernel
theorem dX2_append_80 : decode cX2_append 80 = .ok (.iload 6, 2) := by decide +kernel
theorem dX2_append_82 : decode cX2_append 82 = .ok (.iastore, 1) := by decide +kernel
theorem dX2_append_83 : decode cX2_append 83 = .ok (.aload_n 0, 1) := by decide +kernel
theorem dX2_append_84 : decode cX2_append 84 = .ok (.dup, 1) := by decide +kernel
theorem dX2_append_85 : decode cX2_append 85 = .ok (.getfield 43, 3) := by decide +kernel
theorem dX2_append_88 : decode cX2_append 88 = .ok (.iconst 1, 1) := by decide +kernel
theorem dX2_append_89 : decode cX2_append 89 = .ok (.iadd, 1) := by decide +kernel
theorem dX2_append_90 : decode cX2_append 90 = .ok (.putfield 43, 3) := by decide +kernel
theorem dX2_append_93 : decode cX2_append 93 = .ok (.aload_n 0, 1) := by decide +kernel
theorem dX2_append_94 : decode cX2_append 94 = .ok (.getfield 33, 3) := by decide +kernel
theorem dX2_append_97 : decode cX2_append 97 = .ok (.aload_n 0, 1) := by decide +kernel
theorem dX2_append_98 : decode cX2_append 98 = .ok (.getfield 43, 3) := by decide +kernel
theorem dX2_append_101 : decode cX2_append 101 = .ok (.iadd, 1) := by decide +kernel
theorem dX2_append_102 : decode cX2_append 102 = .ok (.iconst 1, 1) := by decide +kernel
theorem dX2_append_103 : decode cX2_append 103 = .ok (.isub, 1) := by decide +kernel
theorem dX2_append_104 : decode cX2_append 104 = .ok (.ireturn, 1) := by decide +kernel
theorem dX2_forceUpTo_0 : decode cX2_forceUpTo 0 = .ok (.iconst 0, 1) := by decide +kernel
theorem dX2_forceUpTo_1 : decode cX2_forceUpTo 1 = .ok (.iload_n 1, 1) := by decide +kernel
theorem dX2_forceUpTo_2 : decode cX2_forceUpTo 2 = .ok (.aload_n 0, 1) := by decide +kernel
theorem dX2_forceUpTo_3 : decode cX2_forceUpTo 3 = .ok (.getfield 46, 3) := by decide +kernel
theorem dX2_forceUpTo_6 : decode cX2_forceUpTo 6 = .ok (.isub, 1) := by decide +kernel
theorem dX2_forceUpTo_7 : decode cX2_forceUpTo 7 = .ok (.invokestatic 56, 3) := by decide +kernel
theorem dX2_forceUpTo_10 : decode cX2_forceUpTo 10 = .ok (.istore_n 2, 1) := by decide +kernel
theorem dX2_forceUpTo_11 : decode cX2_forceUpTo 11 = .ok (.aload_n 0, 1) := by decide +kernel
theorem dX2_forceUpTo_12 : decode cX2_forceUpTo 12 = .ok (.dup, 1) := by decide +kernel
theorem dX2_forceUpTo_13 : decode cX2_forceUpTo 13 = .ok (.getfield 46, 3) := by decide +kernel
theorem dX2_forceUpTo_16 : decode cX2_forceUpTo 16 = .ok (.iload_n 2, 1) := by decide +kernel
theorem dX2_forceUpTo_17 : decode cX2_forceUpTo 17 = .ok (.iadd, 1) := by decide +kernel
theorem dX2_forceUpTo_18 : decode cX2_forceUpTo 18 = .ok (.putfield 46, 3) := by decide +kernel
theorem dX2_forceUpTo_21 : decode cX2_forceUpTo 21 = .ok (.iload_n 2, 1) := by decide +kernel
theorem dX2_forceUpTo_22 : decode cX2_forceUpTo 22 = .ok (.ireturn, 1) := by decide +kernel
theorem dX2_appendCheckpoint_0 : decode cX2_appendCheckpoint 0 = .ok (.aload_n 0, 1) := by decide +kernel
theorem dX2_appendCheckpoint_1 : decode cX2_appendCheckpoint 1 = .ok (.iconst 5, 1) := by decide +kernel
theorem dX2_appendCheckpoint_2 : decode cX2_appendCheckpoint 2 = .ok (.ldc 55, 2) := by decide +kernel
theorem dX2_appendCheckpoint_4 : decode cX2_appendCheckpoint 4 = .ok (.ldc 55, 2) := by decide +kernel
theorem dX2_appendCheckpoint_6 : decode cX2_appendCheckpoint 6 = .ok (.aload_n 1, 1) := by decide +kernel
theorem dX2_appendCheckpoint_7 : decode cX2_appendCheckpoint 7 = .ok (.getfield 62, 3) := by decide +kernel
theorem dX2_appendCheckpoint_10 : decode cX2_appendCheckpoint 10 = .ok (.aload_n 2, 1) := by decide +kernel
theorem dX2_appendCheckpoint_11 : decode cX2_appendCheckpoint 11 = .ok (.getfield 67, 3) := by decide +kernel
theorem dX2_appendCheckpoint_14 : decode cX2_appendCheckpoint 14 = .ok (.iconst 0, 1) := by decide +kernel
theorem dX2_appendCheckpoint_15 : decode cX2_appendCheckpoint 15 = .ok (.invokevirtual 72, 3) := by decide +kernel
theorem dX2_appendCheckpoint_18 : decode cX2_appendCheckpoint 18 = .ok (.istore_n 3, 1) := by decide +kernel
theorem dX2_appendCheckpoint_19 : decode cX2_appendCheckpoint 19 = .ok (.aload_n 0, 1) := by decide +kernel
theorem dX2_appendCheckpoint_20 : decode cX2_appendCheckpoint 20 = .ok (.iload_n 3, 1) := by decide +kernel
theorem dX2_appendCheckpoint_21 : decode cX2_appendCheckpoint 21 = .ok (.putfield 49, 3) := by decide +kernel
theorem dX2_appendCheckpoint_24 : decode cX2_appendCheckpoint 24 = .ok (.aload_n 0, 1) := by decide +kernel
theorem dX2_appendCheckpoint_25 : decode cX2_appendCheckpoint 25 = .ok (.iload_n 3, 1) := by decide +kernel
theorem dX2_appendCheckpoint_26 : decode cX2_appendCheckpoint 26 = .ok (.putfield 52, 3) := by decide +kernel
theorem dX2_appendCheckpoint_29 : decode cX2_appendCheckpoint 29 = .ok (.iconst 0, 1) := by decide +kernel
theorem dX2_appendCheckpoint_30 : decode cX2_appendCheckpoint 30 = .ok (.istore 4, 2) := by decide +kernel
theorem dX2_appendCheckpoint_32 : decode cX2_appendCheckpoint 32 = .ok (.iload 4, 2) := by decide +kernel
theorem dX2_appendCheckpoint_34 : decode cX2_appendCheckpoint 34 = .ok (.iconst 4, 1) := by decide +kernel
theorem dX2_appendCheckpoint_35 : decode cX2_appendCheckpoint 35 = .ok (.if_icmp .ge 40, 3) := by decide +kernel
theorem dX2_appendCheckpoint_38 : decode cX2_appendCheckpoint 38 = .ok (.aload_n 1, 1) := by decide +kernel
theorem dX2_appendCheckpoint_39 : decode cX2_appendCheckpoint 39 = .ok (.getfield 62, 3) := by decide +kernel
theorem dX2_appendCheckpoint_42 : decode cX2_appendCheckpoint 42 = .ok (.iload 4, 2) := by decide +kernel
theorem dX2_appendCheckpoint_44 : decode cX2_appendCheckpoint 44 = .ok (.ishr, 1) := by decide +kernel
theorem dX2_appendCheckpoint_45 : decode cX2_appendCheckpoint 45 = .ok (.iconst 1, 1) := by decide +kernel
theorem dX2_appendCheckpoint_46 : decode cX2_appendCheckpoint 46 = .ok (.iand, 1) := by decide +kernel
theorem dX2_appendCheckpoint_47 : decode cX2_appendCheckpoint 47 = .ok (.iconst 1, 1) := by decide +kernel
theorem dX2_appendCheckpoint_48 : decode cX2_appendCheckpoint 48 = .ok (.if_icmp .ne 21, 3) := by decide +kernel
theorem dX2_appendCheckpoint_51 : decode cX2_appendCheckpoint 51 = .ok (.aload_n 0, 1) := by decide +kernel
theorem dX2_appendCheckpoint_52 : decode cX2_appendCheckpoint 52 = .ok (.aload_n 0, 1) := by decide +kernel
theorem dX2_appendCheckpoint_53 : decode cX2_appendCheckpoint 53 = .ok (.getfield 52, 3) := by decide +kernel
theorem dX2_appendCheckpoint_56 : decode cX2_appendCheckpoint 56 = .ok (.aload_n 1, 1) := by decide +kernel
theorem dX2_appendCheckpoint_57 : decode cX2_appendCheckpoint 57 = .ok (.getfield 76, 3) := by decide +kernel
theorem dX2_appendCheckpoint_60 : decode cX2_appendCheckpoint 60 = .ok (.iload 4, 2) := by decide +kernel
theorem dX2_appendCheckpoint_62 : decode cX2_appendCheckpoint 62 = .ok (.iaload, 1) := by decide +kernel
theorem dX2_appendCheckpoint_63 : decode cX2_appendCheckpoint 63 = .ok (.invokestatic 79, 3) := by decide +kernel
theorem dX2_appendCheckpoint_66 : decode cX2_appendCheckpoint 66 = .ok (.putfield 52, 3) := by decide +kernel
theorem dX2_appendCheckpoint_69 : decode cX2_appendCheckpoint 69 = .ok (.iinc 4 1, 3) := by decide +kernel
theorem dX2_appendCheckpoint_72 : decode cX2_appendCheckpoint 72 = .ok (.goto (-40), 3) := by decide +kernel
theorem dX2_appendCheckpoint_75 : decode cX2_appendCheckpoint 75 = .ok (.iconst 0, 1) := by decide +kernel
theorem dX2_appendCheckpoint_76 : decode cX2_appendCheckpoint 76 = .ok (.istore 4, 2) := by decide +kernel
theorem dX2_appendCheckpoint_78 : decode cX2_appendCheckpoint 78 = .ok (.iload 4, 2) := by decide +kernel
theorem dX2_appendCheckpoint_80 : decode cX2_appendCheckpoint 80 = .ok (.bipush 8, 2) := by decide +kernel
theorem dX2_appendCheckpoint_82 : decode cX2_appendCheckpoint 82 = .ok (.if_icmp .ge 75, 3) := by decide +kernel
theorem dX2_appendCheckpoint_85 : decode cX2_appendCheckpoint 85 = .ok (.aload_n 2, 1) := by decide +kernel
theorem dX2_appendCheckpoint_86 : decode cX2_appendCheckpoint 86 = .ok (.getfield 67, 3) := by decide +kernel
theorem dX2_appendCheckpoint_89 : decode cX2_appendCheckpoint 89 = .ok (.iload 4, 2) := by decide +kernel
theorem dX2_appendCheckpoint_91 : decode cX2_appendCheckpoint 91 = .ok (.ishr, 1) := by decide +kernel
theorem dX2_appendCheckpoint_92 : decode cX2_appendCheckpoint 92 = .ok (.iconst 1, 1) := by decide +kernel
theorem dX2_appendCheckpoint_93 : decode cX2_appendCheckpoint 93 = .ok (.iand, 1) := by decide +kernel
theorem dX2_appendCheckpoint_94 : decode cX2_appendCheckpoint 94 = .ok (.iconst 1, 1) := by decide +kernel
theorem dX2_appendCheckpoint_95 : decode cX2_appendCheckpoint 95 = .ok (.if_icmp .ne 7, 3) := by decide +kernel
theorem dX2_appendCheckpoint_98 : decode cX2_appendCheckpoint 98 = .ok (.iconst 1, 1) := by decide +kernel
theorem dX2_appendCheckpoint_99 : decode cX2_appendCheckpoint 99 = .ok (.goto 4, 3) := by decide +kernel
theorem dX2_appendCheckpoint_102 : decode cX2_appendCheckpoint 102 = .ok (.iconst 0, 1) := by decide +kernel
theorem dX2_appendCheckpoint_103 : decode cX2_appendCheckpoint 103 = .ok (.istore 5, 2) := by decide +kernel
theorem dX2_appendCheckpoint_105 : decode cX2_appendCheckpoint 105 = .ok (.aload_n 0, 1) := by decide +kernel
theorem dX2_appendCheckpoint_106 : decode cX2_appendCheckpoint 106 = .ok (.getfield 30, 3) := by decide +kernel
theorem dX2_appendCheckpoint_109 : decode cX2_appendCheckpoint 109 = .ok (.iload 4, 2) := by decide +kernel
theorem dX2_appendCheckpoint_111 : decode cX2_appendCheckpoint 111 = .ok (.iload 5, 2) := by decide +kernel
theorem dX2_appendCheckpoint_113 : decode cX2_appendCheckpoint 113 = .ok (.ifCond .eq 13, 3) := by decide +kernel
theorem dX2_appendCheckpoint_116 : decode cX2_appendCheckpoint 116 = .ok (.aload_n 2, 1) := by decide +kernel
theorem dX2_appendCheckpoint_117 : decode cX2_appendCheckpoint 117 = .ok (.getfield 82, 3) := by decide +kernel
theorem dX2_appendCheckpoint_120 : decode cX2_appendCheckpoint 120 = .ok (.iload 4, 2) := by decide +kernel
theorem dX2_appendCheckpoint_122 : decode cX2_appendCheckpoint 122 = .ok (.iaload, 1) := by decide +kernel
theorem dX2_appendCheckpoint_123 : decode cX2_appendCheckpoint 123 = .ok (.goto 4, 3) := by decide +kernel
theorem dX2_appendCheckpoint_126 : decode cX2_appendCheckpoint 126 = .ok (.iconst 0, 1) := by decide +kernel
theorem dX2_appendCheckpoint_127 : decode cX2_appendCheckpoint 127 = .ok (.iastore, 1) := by decide +kernel
theorem dX2_appendCheckpoint_128 : decode cX2_appendCheckpoint 128 = .ok (.iload 5, 2) := by decide +kernel
theorem dX2_appendCheckpoint_130 : decode cX2_appendCheckpoint 130 = .ok (.ifCond .eq 21, 3) := by decide +kernel
theorem dX2_appendCheckpoint_133 : decode cX2_appendCheckpoint 133 = .ok (.aload_n 0, 1) := by decide +kernel
theorem dX2_appendCheckpoint_134 : decode cX2_appendCheckpoint 134 = .ok (.aload_n 0, 1) := by decide +kernel
theorem dX2_appendCheckpoint_135 : decode cX2_appendCheckpoint 135 = .ok (.getfield 52, 3) := by decide +kernel
theorem dX2_appendCheckpoint_138 : decode cX2_appendCheckpoint 138 = .ok (.aload_n 2, 1) := by decide +kernel
theorem dX2_appendCheckpoint_139 : decode cX2_appendCheckpoint 139 = .ok (.getfield 82, 3) := by decide +kernel
theorem dX2_appendCheckpoint_142 : decode cX2_appendCheckpoint 142 = .ok (.iload 4, 2) := by decide +kernel
theorem dX2_appendCheckpoint_144 : decode cX2_appendCheckpoint 144 = .ok (.iaload, 1) := by decide +kernel
theorem dX2_appendCheckpoint_145 : decode cX2_appendCheckpoint 145 = .ok (.invokestatic 79, 3) := by decide +kernel
theorem dX2_appendCheckpoint_148 : decode cX2_appendCheckpoint 148 = .ok (.putfield 52, 3) := by decide +kernel
theorem dX2_appendCheckpoint_151 : decode cX2_appendCheckpoint 151 = .ok (.iinc 4 1, 3) := by decide +kernel
theorem dX2_appendCheckpoint_154 : decode cX2_appendCheckpoint 154 = .ok (.goto (-76), 3) := by decide +kernel
theorem dX2_appendCheckpoint_157 : decode cX2_appendCheckpoint 157 = .ok (.aload_n 0, 1) := by decide +kernel
theorem dX2_appendCheckpoint_158 : decode cX2_appendCheckpoint 158 = .ok (.iload_n 3, 1) := by decide +kernel
theorem dX2_appendCheckpoint_159 : decode cX2_appendCheckpoint 159 = .ok (.invokevirtual 85, 3) := by decide +kernel
theorem dX2_appendCheckpoint_162 : decode cX2_appendCheckpoint 162 = .ok (.pop, 1) := by decide +kernel
theorem dX2_appendCheckpoint_163 : decode cX2_appendCheckpoint 163 = .ok (.iload_n 3, 1) := by decide +kernel
theorem dX2_appendCheckpoint_164 : decode cX2_appendCheckpoint 164 = .ok (.ireturn, 1) := by decide +kernel
theorem dX2_droppable_0 : decode cX2_droppable 0 = .ok (.aload_n 0, 1) := by decide +kernel
theorem dX2_droppable_1 : decode cX2_droppable 1 = .ok (.getfield 49, 3) := by decide +kernel
theorem dX2_droppable_4 : decode cX2_droppable 4 = .ok (.ifCond .ne 7, 3) := by decide +kernel
theorem dX2_droppable_7 : decode cX2_droppable 7 = .ok (.iconst 0, 1) := by decide +kernel
theorem dX2_droppable_8 : decode cX2_droppable 8 = .ok (.goto 16, 3) := by decide +kernel
theorem dX2_droppable_11 : decode cX2_droppable 11 = .ok (.iconst 0, 1) := by decide +kernel
theorem dX2_droppable_12 : decode cX2_droppable 12 = .ok (.aload_n 0, 1) := by decide +kernel
theorem dX2_droppable_13 : decode cX2_droppable 13 = .ok (.getfield 52, 3) := by decide +kernel
theorem dX2_droppable_16 : decode cX2_droppable 16 = .ok (.aload_n 0, 1) := by decide +kernel
theorem dX2_droppable_17 : decode cX2_droppable 17 = .ok (.getfield 33, 3) := by decide +kernel
theorem dX2_droppable_20 : decode cX2_droppable 20 = .ok (.isub, 1) := by decide +kernel
theorem dX2_droppable_21 : decode cX2_droppable 21 = .ok (.invokestatic 56, 3) := by decide +kernel
theorem dX2_droppable_24 : decode cX2_droppable 24 = .ok (.ireturn, 1) := by decide +kernel
theorem dX2_dropFirst_0 : decode cX2_dropFirst 0 = .ok (.aload_n 0, 1) := by decide +kernel
theorem dX2_dropFirst_1 : decode cX2_dropFirst 1 = .ok (.invokevirtual 89, 3) := by decide +kernel
theorem dX2_dropFirst_4 : decode cX2_dropFirst 4 = .ok (.istore_n 1, 1) := by decide +kernel
theorem dX2_dropFirst_5 : decode cX2_dropFirst 5 = .ok (.aload_n 0, 1) := by decide +kernel
theorem dX2_dropFirst_6 : decode cX2_dropFirst 6 = .ok (.getfield 43, 3) := by decide +kernel
theorem dX2_dropFirst_9 : decode cX2_dropFirst 9 = .ok (.iload_n 1, 1) := by decide +kernel
theorem dX2_dropFirst_10 : decode cX2_dropFirst 10 = .ok (.isub, 1) := by decide +kernel
theorem dX2_dropFirst_11 : decode cX2_dropFirst 11 = .ok (.istore_n 2, 1) := by decide +kernel
theorem dX2_dropFirst_12 : decode cX2_dropFirst 12 = .ok (.iload_n 1, 1) := by decide +kernel
theorem dX2_dropFirst_13 : decode cX2_dropFirst 13 = .ok (.ifCond .le 17, 3) := by decide +kernel
theorem dX2_dropFirst_16 : decode cX2_dropFirst 16 = .ok (.iload_n 2, 1) := by decide +kernel
theorem dX2_dropFirst_17 : decode cX2_dropFirst 17 = .ok (.ifCond .lt 13, 3) := by decide +kernel
theorem dX2_dropFirst_20 : decode cX2_dropFirst 20 = .ok (.aload_n 0, 1) := by decide +kernel
theorem dX2_dropFirst_21 : decode cX2_dropFirst 21 = .ok (.getfield 43, 3) := by decide +kernel
theorem dX2_dropFirst_24 : decode cX2_dropFirst 24 = .ok (.sipush 128, 3) := by decide +kernel
theorem dX2_dropFirst_27 : decode cX2_dropFirst 27 = .ok (.if_icmp .le 5, 3) := by decide +kernel
theorem dX2_dropFirst_30 : decode cX2_dropFirst 30 = .ok (.iconst 0, 1) := by decide +kernel
theorem dX2_dropFirst_31 : decode cX2_dropFirst 31 = .ok (.ireturn, 1) := by decide +kernel
theorem dX2_dropFirst_32 : decode cX2_dropFirst 32 = .ok (.aload_n 0, 1) := by decide +kernel
theorem dX2_dropFirst_33 : decode cX2_dropFirst 33 = .ok (.getfield 9, 3) := by decide +kernel
theorem dX2_dropFirst_36 : decode cX2_dropFirst 36 = .ok (.iload_n 1, 1) := by decide +kernel
theorem dX2_dropFirst_37 : decode cX2_dropFirst 37 = .ok (.aload_n 0, 1) := by decide +kernel
theorem dX2_dropFirst_38 : decode cX2_dropFirst 38 = .ok (.getfield 9, 3) := by decide +kernel
theorem dX2_dropFirst_41 : decode cX2_dropFirst 41 = .ok (.iconst 0, 1) := by decide +kernel
theorem dX2_dropFirst_42 : decode cX2_dropFirst 42 = .ok (.iload_n 2, 1) := by decide +kernel
theorem dX2_dropFirst_43 : decode cX2_dropFirst 43 = .ok (.invokestatic 37, 3) := by decide +kernel
theorem dX2_dropFirst_46 : decode cX2_dropFirst 46 = .ok (.aload_n 0, 1) := by decide +kernel
theorem dX2_dropFirst_47 : decode cX2_dropFirst 47 = .ok (.getfield 15, 3) := by decide +kernel
theorem dX2_dropFirst_50 : decode cX2_dropFirst 50 = .ok (.iload_n 1, 1) := by decide +kernel
theorem dX2_dropFirst_51 : decode cX2_dropFirst 51 = .ok (.aload_n 0, 1) := by decide +kernel
theorem dX2_dropFirst_52 : decode cX2_dropFirst 52 = .ok (.getfield 15, 3) := by decide +kernel
theorem dX2_dropFirst_55 : decode cX2_dropFirst 55 = .ok (.iconst 0, 1) := by decide +kernel
theorem dX2_dropFirst_56 : decode cX2_dropFirst 56 = .ok (.iload_n 2, 1) := by decide +kernel
theorem dX2_dropFirst_57 : decode cX2_dropFirst 57 = .ok (.invokestatic 37, 3) := by decide +kernel
theorem dX2_dropFirst_60 : decode cX2_dropFirst 60 = .ok (.aload_n 0, 1) := by decide +kernel
theorem dX2_dropFirst_61 : decode cX2_dropFirst 61 = .ok (.getfield 18, 3) := by decide +kernel
theorem dX2_dropFirst_64 : decode cX2_dropFirst 64 = .ok (.iload_n 1, 1) := by decide +kernel
theorem dX2_dropFirst_65 : decode cX2_dropFirst 65 = .ok (.aload_n 0, 1) := by decide +kernel
theorem dX2_dropFirst_66 : decode cX2_dropFirst 66 = .ok (.getfield 18, 3) := by decide +kernel
theorem dX2_dropFirst_69 : decode cX2_dropFirst 69 = .ok (.iconst 0, 1) := by decide +kernel
theorem dX2_dropFirst_70 : decode cX2_dropFirst 70 = .ok (.iload_n 2, 1) := by decide +kernel
theorem dX2_dropFirst_71 : decode cX2_dropFirst 71 = .ok (.invokestatic 37, 3) := by decide +kernel
theorem dX2_dropFirst_74 : decode cX2_dropFirst 74 = .ok (.aload_n 0, 1) := by decide +kernel
theorem dX2_dropFirst_75 : decode cX2_dropFirst 75 = .ok (.getfield 21, 3) := by decide +kernel
theorem dX2_dropFirst_78 : decode cX2_dropFirst 78 = .ok (.iload_n 1, 1) := by decide +kernel
theorem dX2_dropFirst_79 : decode cX2_dropFirst 79 = .ok (.aload_n 0, 1) := by decide +kernel
theorem dX2_dropFirst_80 : decode cX2_dropFirst 80 = .ok (.getfield 21, 3) := by decide +kernel
theorem dX2_dropFirst_83 : decode cX2_dropFirst 83 = .ok (.iconst 0, 1) := by decide +kernel
theorem dX2_dropFirst_84 : decode cX2_dropFirst 84 = .ok (.iload_n 2, 1) := by decide +kernel
theorem dX2_dropFirst_85 : decode cX2_dropFirst 85 = .ok (.invokestatic 37, 3) := by decide +kernel
theorem dX2_dropFirst_88 : decode cX2_dropFirst 88 = .ok (.aload_n 0, 1) := by decide +kernel
theorem dX2_dropFirst_89 : decode cX2_dropFirst 89 = .ok (.getfield 24, 3) := by decide +kernel
theorem dX2_dropFirst_92 : decode cX2_dropFirst 92 = .ok (.iload_n 1, 1) := by decide +kernel
theorem dX2_dropFirst_93 : decode cX2_dropFirst 93 = .ok (.aload_n 0, 1) := by decide +kernel
theorem dX2_dropFirst_94 : decode cX2_dropFirst 94 = .ok (.getfield 24, 3) := by decide +kernel
theorem dX2_dropFirst_97 : decode cX2_dropFirst 97 = .ok (.iconst 0, 1) := by decide +kernel
theorem dX2_dropFirst_98 : decode cX2_dropFirst 98 = .ok (.iload_n 2, 1) := by decide +kernel
theorem dX2_dropFirst_99 : decode cX2_dropFirst 99 = .ok (.invokestatic 37, 3) := by decide +kernel
theorem dX2_dropFirst_102 : decode cX2_dropFirst 102 = .ok (.aload_n 0, 1) := by decide +kernel
theorem dX2_dropFirst_103 : decode cX2_dropFirst 103 = .ok (.getfield 27, 3) := by decide +kernel
theorem dX2_dropFirst_106 : decode cX2_dropFirst 106 = .ok (.iload_n 1, 1) := by decide +kernel
theorem dX2_dropFirst_107 : decode cX2_dropFirst 107 = .ok (.aload_n 0, 1) := by decide +kernel
theorem dX2_dropFirst_108 : decode cX2_dropFirst 108 = .ok (.getfield 27, 3) := by decide +kernel
theorem dX2_dropFirst_111 : decode cX2_dropFirst 111 = .ok (.iconst 0, 1) := by decide +kernel
theorem dX2_dropFirst_112 : decode cX2_dropFirst 112 = .ok (.iload_n 2, 1) := by decide +kernel
theorem dX2_dropFirst_113 : decode cX2_dropFirst 113 = .ok (.invokestatic 37, 3) := by decide +kernel
theorem dX2_dropFirst_116 : decode cX2_dropFirst 116 = .ok (.aload_n 0, 1) := by decide +kernel
theorem dX2_dropFirst_117 : decode cX2_dropFirst 117 = .ok (.iload_n 2, 1) := by decide +kernel
theorem dX2_dropFirst_118 : decode cX2_dropFirst 118 = .ok (.putfield 43, 3) := by decide +kernel
theorem dX2_dropFirst_121 : decode cX2_dropFirst 121 = .ok (.aload_n 0, 1) := by decide +kernel
theorem dX2_dropFirst_122 : decode cX2_dropFirst 122 = .ok (.dup, 1) := by decide +kernel
theorem dX2_dropFirst_123 : decode cX2_dropFirst 123 = .ok (.getfield 33, 3) := by decide +kernel
theorem dX2_dropFirst_126 : decode cX2_dropFirst 126 = .ok (.iload_n 1, 1) := by decide +kernel
theorem dX2_dropFirst_127 : decode cX2_dropFirst 127 = .ok (.iadd, 1) := by decide +kernel
theorem dX2_dropFirst_128 : decode cX2_dropFirst 128 = .ok (.putfield 33, 3) := by decide +kernel
theorem dX2_dropFirst_131 : decode cX2_dropFirst 131 = .ok (.iload_n 1, 1) := by decide +kernel
theorem dX2_dropFirst_132 : decode cX2_dropFirst 132 = .ok (.ireturn, 1) := by decide +kernel
theorem dX2_loseRecords_0 : decode cX2_loseRecords 0 = .ok (.aload_n 0, 1) := by decide +kernel
theorem dX2_loseRecords_1 : decode cX2_loseRecords 1 = .ok (.getfield 43, 3) := by decide +kernel
theorem dX2_loseRecords_4 : decode cX2_loseRecords 4 = .ok (.istore_n 3, 1) := by decide +kernel
theorem dX2_loseRecords_5 : decode cX2_loseRecords 5 = .ok (.aload_n 0, 1) := by decide +kernel
theorem dX2_loseRecords_6 : decode cX2_loseRecords 6 = .ok (.invokevirtual 93, 3) := by decide +kernel
theorem dX2_loseRecords_9 : decode cX2_loseRecords 9 = .ok (.aload_n 0, 1) := by decide +kernel
theorem dX2_loseRecords_10 : decode cX2_loseRecords 10 = .ok (.getfield 46, 3) := by decide +kernel
theorem dX2_loseRecords_13 : decode cX2_loseRecords 13 = .ok (.invokestatic 79, 3) := by decide +kernel
theorem dX2_loseRecords_16 : decode cX2_loseRecords 16 = .ok (.istore 4, 2) := by decide +kernel
theorem dX2_loseRecords_18 : decode cX2_loseRecords 18 = .ok (.iload_n 1, 1) := by decide +kernel
theorem dX2_loseRecords_19 : decode cX2_loseRecords 19 = .ok (.ifCond .eq 45, 3) := by decide +kernel
theorem dX2_loseRecords_22 : decode cX2_loseRecords 22 = .ok (.aload_n 0, 1) := by decide +kernel
theorem dX2_loseRecords_23 : decode cX2_loseRecords 23 = .ok (.iload 4, 2) := by decide +kernel
theorem dX2_loseRecords_25 : decode cX2_loseRecords 25 = .ok (.invokevirtual 96, 3) := by decide +kernel
theorem dX2_loseRecords_28 : decode cX2_loseRecords 28 = .ok (.ifCond .eq 36, 3) := by decide +kernel
theorem dX2_loseRecords_31 : decode cX2_loseRecords 31 = .ok (.iload 4, 2) := by decide +kernel
theorem dX2_loseRecords_33 : decode cX2_loseRecords 33 = .ok (.iload_n 2, 1) := by decide +kernel
theorem dX2_loseRecords_34 : decode cX2_loseRecords 34 = .ok (.if_icmp .le 30, 3) := by decide +kernel
theorem dX2_loseRecords_37 : decode cX2_loseRecords 37 = .ok (.aload_n 0, 1) := by decide +kernel
theorem dX2_loseRecords_38 : decode cX2_loseRecords 38 = .ok (.aload_n 0, 1) := by decide +kernel
theorem dX2_loseRecords_39 : decode cX2_loseRecords 39 = .ok (.getfield 9, 3) := by decide +kernel
theorem dX2_loseRecords_42 : decode cX2_loseRecords 42 = .ok (.iload 4, 2) := by decide +kernel
theorem dX2_loseRecords_44 : decode cX2_loseRecords 44 = .ok (.invokevirtual 100, 3) := by decide +kernel
theorem dX2_loseRecords_47 : decode cX2_loseRecords 47 = .ok (.istore 5, 2) := by decide +kernel
theorem dX2_loseRecords_49 : decode cX2_loseRecords 49 = .ok (.iload 5, 2) := by decide +kernel
theorem dX2_loseRecords_51 : decode cX2_loseRecords 51 = .ok (.iconst 2, 1) := by decide +kernel
theorem dX2_loseRecords_52 : decode cX2_loseRecords 52 = .ok (.if_icmp .eq 12, 3) := by decide +kernel
theorem dX2_loseRecords_55 : decode cX2_loseRecords 55 = .ok (.iload 5, 2) := by decide +kernel
theorem dX2_loseRecords_57 : decode cX2_loseRecords 57 = .ok (.iconst 5, 1) := by decide +kernel
theorem dX2_loseRecords_58 : decode cX2_loseRecords 58 = .ok (.if_icmp .eq 6, 3) := by decide +kernel
theorem dX2_loseRecords_61 : decode cX2_loseRecords 61 = .ok (.iinc 4 (-1), 3) := by decide +kernel
theorem dX2_loseRecords_64 : decode cX2_loseRecords 64 = .ok (.aload_n 0, 1) := by decide +kernel
theorem dX2_loseRecords_65 : decode cX2_loseRecords 65 = .ok (.iconst 0, 1) := by decide +kernel
theorem dX2_loseRecords_66 : decode cX2_loseRecords 66 = .ok (.iload 4, 2) := by decide +kernel
theorem dX2_loseRecords_68 : decode cX2_loseRecords 68 = .ok (.aload_n 0, 1) := by decide +kernel
theorem dX2_loseRecords_69 : decode cX2_loseRecords 69 = .ok (.getfield 33, 3) := by decide +kernel
theorem dX2_loseRecords_72 : decode cX2_loseRecords 72 = .ok (.isub, 1) := by decide +kernel
theorem dX2_loseRecords_73 : decode cX2_loseRecords 73 = .ok (.iconst 1, 1) := by decide +kernel
theorem dX2_loseRecords_74 : decode cX2_loseRecords 74 = .ok (.iadd, 1) := by decide +kernel
theorem dX2_loseRecords_75 : decode cX2_loseRecords 75 = .ok (.invokestatic 56, 3) := by decide +kernel
theorem dX2_loseRecords_78 : decode cX2_loseRecords 78 = .ok (.putfield 43, 3) := by decide +kernel
theorem dX2_loseRecords_81 : decode cX2_loseRecords 81 = .ok (.aload_n 0, 1) := by decide +kernel
theorem dX2_loseRecords_82 : decode cX2_loseRecords 82 = .ok (.iload 4, 2) := by decide +kernel
theorem dX2_loseRecords_84 : decode cX2_loseRecords 84 = .ok (.putfield 46, 3) := by decide +kernel
theorem dX2_loseRecords_87 : decode cX2_loseRecords 87 = .ok (.iload_n 3, 1) := by decide +kernel
theorem dX2_loseRecords_88 : decode cX2_loseRecords 88 = .ok (.aload_n 0, 1) := by decide +kernel
theorem dX2_loseRecords_89 : decode cX2_loseRecords 89 = .ok (.getfield 43, 3) := by decide +kernel
theorem dX2_loseRecords_92 : decode cX2_loseRecords 92 = .ok (.isub, 1) := by decide +kernel
theorem dX2_loseRecords_93 : decode cX2_loseRecords 93 = .ok (.ireturn, 1) := by decide +kernel
theorem dX2_settledValueOf_0 : decode cX2_settledValueOf 0 = .ok (.iconst 0, 1) := by decide +kernel
theorem dX2_settledValueOf_1 : decode cX2_settledValueOf 1 = .ok (.istore_n 2, 1) := by decide +kernel
theorem dX2_settledValueOf_2 : decode cX2_settledValueOf 2 = .ok (.aload_n 0, 1) := by decide +kernel
theorem dX2_settledValueOf_3 : decode cX2_settledValueOf 3 = .ok (.getfield 43, 3) := by decide +kernel
theorem dX2_settledValueOf_6 : decode cX2_settledValueOf 6 = .ok (.sipush 128, 3) := by decide +kernel
theorem dX2_settledValueOf_9 : decode cX2_settledValueOf 9 = .ok (.invokestatic 79, 3) := by decide +kernel
theorem dX2_settledValueOf_12 : decode cX2_settledValueOf 12 = .ok (.iconst 1, 1) := by decide +kernel
theorem dX2_settledValueOf_13 : decode cX2_settledValueOf 13 = .ok (.isub, 1) := by decide +kernel
theorem dX2_settledValueOf_14 : decode cX2_settledValueOf 14 = .ok (.istore_n 3, 1) := by decide +kernel
theorem dX2_settledValueOf_15 : decode cX2_settledValueOf 15 = .ok (.iload_n 3, 1) := by decide +kernel
theorem dX2_settledValueOf_16 : decode cX2_settledValueOf 16 = .ok (.ifCond .lt 116, 3) := by decide +kernel
theorem dX2_settledValueOf_19 : decode cX2_settledValueOf 19 = .ok (.aload_n 0, 1) := by decide +kernel
theorem dX2_settledValueOf_20 : decode cX2_settledValueOf 20 = .ok (.getfield 15, 3) := by decide +kernel
theorem dX2_settledValueOf_23 : decode cX2_settledValueOf 23 = .ok (.iload_n 3, 1) := by decide +kernel
theorem dX2_settledValueOf_24 : decode cX2_settledValueOf 24 = .ok (.iaload, 1) := by decide +kernel
theorem dX2_settledValueOf_25 : decode cX2_settledValueOf 25 = .ok (.ifCond .lt 24, 3) := by decide +kernel
theorem dX2_settledValueOf_28 : decode cX2_settledValueOf 28 = .ok (.aload_n 0, 1) := by decide +kernel
theorem dX2_settledValueOf_29 : decode cX2_settledValueOf 29 = .ok (.getfield 15, 3) := by decide +kernel
theorem dX2_settledValueOf_32 : decode cX2_settledValueOf 32 = .ok (.iload_n 3, 1) := by decide +kernel
theorem dX2_settledValueOf_33 : decode cX2_settledValueOf 33 = .ok (.iaload, 1) := by decide +kernel
theorem dX2_settledValueOf_34 : decode cX2_settledValueOf 34 = .ok (.iconst 4, 1) := by decide +kernel
theorem dX2_settledValueOf_35 : decode cX2_settledValueOf 35 = .ok (.if_icmp .ge 14, 3) := by decide +kernel
theorem dX2_settledValueOf_38 : decode cX2_settledValueOf 38 = .ok (.iconst 1, 1) := by decide +kernel
theorem dX2_settledValueOf_39 : decode cX2_settledValueOf 39 = .ok (.aload_n 0, 1) := by decide +kernel
theorem dX2_settledValueOf_40 : decode cX2_settledValueOf 40 = .ok (.getfield 15, 3) := by decide +kernel
theorem dX2_settledValueOf_43 : decode cX2_settledValueOf 43 = .ok (.iload_n 3, 1) := by decide +kernel
theorem dX2_settledValueOf_44 : decode cX2_settledValueOf 44 = .ok (.iaload, 1) := by decide +kernel
theorem dX2_settledValueOf_45 : decode cX2_settledValueOf 45 = .ok (.ishl, 1) := by decide +kernel
theorem dX2_settledValueOf_46 : decode cX2_settledValueOf 46 = .ok (.goto 4, 3) := by decide +kernel
theorem dX2_settledValueOf_49 : decode cX2_settledValueOf 49 = .ok (.iconst 0, 1) := by decide +kernel
theorem dX2_settledValueOf_50 : decode cX2_settledValueOf 50 = .ok (.istore 4, 2) := by decide +kernel
theorem dX2_settledValueOf_52 : decode cX2_settledValueOf 52 = .ok (.aload_n 0, 1) := by decide +kernel
theorem dX2_settledValueOf_53 : decode cX2_settledValueOf 53 = .ok (.getfield 9, 3) := by decide +kernel
theorem dX2_settledValueOf_56 : decode cX2_settledValueOf 56 = .ok (.iload_n 3, 1) := by decide +kernel
theorem dX2_settledValueOf_57 : decode cX2_settledValueOf 57 = .ok (.iaload, 1) := by decide +kernel
theorem dX2_settledValueOf_58 : decode cX2_settledValueOf 58 = .ok (.tableswitch 68 0 2 #[34, 44, 26], 26) := by decide +kernel
theorem dX2_settledValueOf_84 : decode cX2_settledValueOf 84 = .ok (.iload_n 2, 1) := by decide +kernel
theorem dX2_settledValueOf_85 : decode cX2_settledValueOf 85 = .ok (.iload 4, 2) := by decide +kernel
theorem dX2_settledValueOf_87 : decode cX2_settledValueOf 87 = .ok (.ior, 1) := by decide +kernel
theorem dX2_settledValueOf_88 : decode cX2_settledValueOf 88 = .ok (.istore_n 2, 1) := by decide +kernel
theorem dX2_settledValueOf_89 : decode cX2_settledValueOf 89 = .ok (.goto 37, 3) := by decide +kernel
theorem dX2_settledValueOf_92 : decode cX2_settledValueOf 92 = .ok (.iload_n 2, 1) := by decide +kernel
theorem dX2_settledValueOf_93 : decode cX2_settledValueOf 93 = .ok (.iload 4, 2) := by decide +kernel
theorem dX2_settledValueOf_95 : decode cX2_settledValueOf 95 = .ok (.iconst (-1), 1) := by decide +kernel
theorem dX2_settledValueOf_96 : decode cX2_settledValueOf 96 = .ok (.ixor, 1) := by decide +kernel
theorem dX2_settledValueOf_97 : decode cX2_settledValueOf 97 = .ok (.iand, 1) := by decide +kernel
theorem dX2_settledValueOf_98 : decode cX2_settledValueOf 98 = .ok (.istore_n 2, 1) := by decide +kernel
theorem dX2_settledValueOf_99 : decode cX2_settledValueOf 99 = .ok (.goto 27, 3) := by decide +kernel
theorem dX2_settledValueOf_102 : decode cX2_settledValueOf 102 = .ok (.aload_n 0, 1) := by decide +kernel
theorem dX2_settledValueOf_103 : decode cX2_settledValueOf 103 = .ok (.getfield 18, 3) := by decide +kernel
theorem dX2_settledValueOf_106 : decode cX2_settledValueOf 106 = .ok (.iload_n 3, 1) := by decide +kernel
theorem dX2_settledValueOf_107 : decode cX2_settledValueOf 107 = .ok (.iaload, 1) := by decide +kernel
theorem dX2_settledValueOf_108 : decode cX2_settledValueOf 108 = .ok (.iload_n 1, 1) := by decide +kernel
theorem dX2_settledValueOf_109 : decode cX2_settledValueOf 109 = .ok (.if_icmp .ne 17, 3) := by decide +kernel
theorem dX2_settledValueOf_112 : decode cX2_settledValueOf 112 = .ok (.iload_n 2, 1) := by decide +kernel
theorem dX2_settledValueOf_113 : decode cX2_settledValueOf 113 = .ok (.iload 4, 2) := by decide +kernel
theorem dX2_settledValueOf_115 : decode cX2_settledValueOf 115 = .ok (.iand, 1) := by decide +kernel
theorem dX2_settledValueOf_116 : decode cX2_settledValueOf 116 = .ok (.ifCond .eq 10, 3) := by decide +kernel
theorem dX2_settledValueOf_119 : decode cX2_settledValueOf 119 = .ok (.aload_n 0, 1) := by decide +kernel
theorem dX2_settledValueOf_120 : decode cX2_settledValueOf 120 = .ok (.getfield 24, 3) := by decide +kernel
theorem dX2_settledValueOf_123 : decode cX2_settledValueOf 123 = .ok (.iload_n 3, 1) := by decide +kernel
theorem dX2_settledValueOf_124 : decode cX2_settledValueOf 124 = .ok (.iaload, 1) := by decide +kernel
theorem dX2_settledValueOf_125 : decode cX2_settledValueOf 125 = .ok (.ireturn, 1) := by decide +kernel
theorem dX2_settledValueOf_126 : decode cX2_settledValueOf 126 = .ok (.iinc 3 (-1), 3) := by decide +kernel
theorem dX2_settledValueOf_129 : decode cX2_settledValueOf 129 = .ok (.goto (-114), 3) := by decide +kernel
theorem dX2_settledValueOf_132 : decode cX2_settledValueOf 132 = .ok (.ldc 55, 2) := by decide +kernel
theorem dX2_settledValueOf_134 : decode cX2_settledValueOf 134 = .ok (.ireturn, 1) := by decide +kernel
theorem dX2_tell_0 : decode cX2_tell 0 = .ok (.aload_n 0, 1) := by decide +kernel
theorem dX2_tell_1 : decode cX2_tell 1 = .ok (.iload_n 1, 1) := by decide +kernel
theorem dX2_tell_2 : decode cX2_tell 2 = .ok (.invokevirtual 96, 3) := by decide +kernel
theorem dX2_tell_5 : decode cX2_tell 5 = .ok (.ifCond .ne 6, 3) := by decide +kernel
theorem dX2_tell_8 : decode cX2_tell 8 = .ok (.ldc 55, 2) := by decide +kernel
theorem dX2_tell_10 : decode cX2_tell 10 = .ok (.ireturn, 1) := by decide +kernel
theorem dX2_tell_11 : decode cX2_tell 11 = .ok (.aload_n 0, 1) := by decide +kernel
theorem dX2_tell_12 : decode cX2_tell 12 = .ok (.aload_n 0, 1) := by decide +kernel
theorem dX2_tell_13 : decode cX2_tell 13 = .ok (.getfield 9, 3) := by decide +kernel
theorem dX2_tell_16 : decode cX2_tell 16 = .ok (.iload_n 1, 1) := by decide +kernel
theorem dX2_tell_17 : decode cX2_tell 17 = .ok (.invokevirtual 100, 3) := by decide +kernel
theorem dX2_tell_20 : decode cX2_tell 20 = .ok (.istore_n 3, 1) := by decide +kernel
theorem dX2_tell_21 : decode cX2_tell 21 = .ok (.iload_n 3, 1) := by decide +kernel
theorem dX2_tell_22 : decode cX2_tell 22 = .ok (.iconst 1, 1) := by decide +kernel
theorem dX2_tell_23 : decode cX2_tell 23 = .ok (.if_icmp .eq 8, 3) := by decide +kernel
theorem dX2_tell_26 : decode cX2_tell 26 = .ok (.iload_n 3, 1) := by decide +kernel
theorem dX2_tell_27 : decode cX2_tell 27 = .ok (.iconst 3, 1) := by decide +kernel
theorem dX2_tell_28 : decode cX2_tell 28 = .ok (.if_icmp .ne 7, 3) := by decide +kernel
theorem dX2_tell_31 : decode cX2_tell 31 = .ok (.iconst 1, 1) := by decide +kernel
theorem dX2_tell_32 : decode cX2_tell 32 = .ok (.goto 4, 3) := by decide +kernel
theorem dX2_tell_35 : decode cX2_tell 35 = .ok (.iconst 0, 1) := by decide +kernel
theorem dX2_tell_36 : decode cX2_tell 36 = .ok (.istore 4, 2) := by decide +kernel
theorem dX2_tell_38 : decode cX2_tell 38 = .ok (.iload_n 2, 1) := by decide +kernel
theorem dX2_tell_39 : decode cX2_tell 39 = .ok (.tableswitch 161 0 7 #[45, 47, 57, 67, 87, 107, 121, 141], 45) := by decide +kernel
theorem dX2_tell_84 : decode cX2_tell 84 = .ok (.iload_n 3, 1) := by decide +kernel
theorem dX2_tell_85 : decode cX2_tell 85 = .ok (.ireturn, 1) := by decide +kernel
theorem dX2_tell_86 : decode cX2_tell 86 = .ok (.aload_n 0, 1) := by decide +kernel
theorem dX2_tell_87 : decode cX2_tell 87 = .ok (.aload_n 0, 1) := by decide +kernel
theorem dX2_tell_88 : decode cX2_tell 88 = .ok (.getfield 15, 3) := by decide +kernel
theorem dX2_tell_91 : decode cX2_tell 91 = .ok (.iload_n 1, 1) := by decide +kernel
theorem dX2_tell_92 : decode cX2_tell 92 = .ok (.invokevirtual 100, 3) := by decide +kernel
theorem dX2_tell_95 : decode cX2_tell 95 = .ok (.ireturn, 1) := by decide +kernel
theorem dX2_tell_96 : decode cX2_tell 96 = .ok (.aload_n 0, 1) := by decide +kernel
theorem dX2_tell_97 : decode cX2_tell 97 = .ok (.aload_n 0, 1) := by decide +kernel
theorem dX2_tell_98 : decode cX2_tell 98 = .ok (.getfield 18, 3) := by decide +kernel
theorem dX2_tell_101 : decode cX2_tell 101 = .ok (.iload_n 1, 1) := by decide +kernel
theorem dX2_tell_102 : decode cX2_tell 102 = .ok (.invokevirtual 100, 3) := by decide +kernel
theorem dX2_tell_105 : decode cX2_tell 105 = .ok (.ireturn, 1) := by decide +kernel
theorem dX2_tell_106 : decode cX2_tell 106 = .ok (.iload 4, 2) := by decide +kernel
theorem dX2_tell_108 : decode cX2_tell 108 = .ok (.ifCond .eq 15, 3) := by decide +kernel
theorem dX2_tell_111 : decode cX2_tell 111 = .ok (.aload_n 0, 1) := by decide +kernel
theorem dX2_tell_112 : decode cX2_tell 112 = .ok (.aload_n 0, 1) := by decide +kernel
theorem dX2_tell_113 : decode cX2_tell 113 = .ok (.getfield 21, 3) := by decide +kernel
theorem dX2_tell_116 : decode cX2_tell 116 = .ok (.iload_n 1, 1) := by decide +kernel
theorem dX2_tell_117 : decode cX2_tell 117 = .ok (.invokevirtual 100, 3) := by decide +kernel
theorem dX2_tell_120 : decode cX2_tell 120 = .ok (.goto 5, 3) := by decide +kernel
theorem dX2_tell_123 : decode cX2_tell 123 = .ok (.ldc 55, 2) := by decide +kernel
theorem dX2_tell_125 : decode cX2_tell 125 = .ok (.ireturn, 1) := by decide +kernel
theorem dX2_tell_126 : decode cX2_tell 126 = .ok (.iload 4, 2) := by decide +kernel
theorem dX2_tell_128 : decode cX2_tell 128 = .ok (.ifCond .eq 15, 3) := by decide +kernel
theorem dX2_tell_131 : decode cX2_tell 131 = .ok (.aload_n 0, 1) := by decide +kernel
theorem dX2_tell_132 : decode cX2_tell 132 = .ok (.aload_n 0, 1) := by decide +kernel
theorem dX2_tell_133 : decode cX2_tell 133 = .ok (.getfield 24, 3) := by decide +kernel
theorem dX2_tell_136 : decode cX2_tell 136 = .ok (.iload_n 1, 1) := by decide +kernel
theorem dX2_tell_137 : decode cX2_tell 137 = .ok (.invokevirtual 100, 3) := by decide +kernel
theorem dX2_tell_140 : decode cX2_tell 140 = .ok (.goto 5, 3) := by decide +kernel
theorem dX2_tell_143 : decode cX2_tell 143 = .ok (.ldc 55, 2) := by decide +kernel
theorem dX2_tell_145 : decode cX2_tell 145 = .ok (.ireturn, 1) := by decide +kernel
theorem dX2_tell_146 : decode cX2_tell 146 = .ok (.iload_n 1, 1) := by decide +kernel
theorem dX2_tell_147 : decode cX2_tell 147 = .ok (.aload_n 0, 1) := by decide +kernel
theorem dX2_tell_148 : decode cX2_tell 148 = .ok (.getfield 46, 3) := by decide +kernel
theorem dX2_tell_151 : decode cX2_tell 151 = .ok (.if_icmp .gt 7, 3) := by decide +kernel
theorem dX2_tell_154 : decode cX2_tell 154 = .ok (.iconst 1, 1) := by decide +kernel
theorem dX2_tell_155 : decode cX2_tell 155 = .ok (.goto 4, 3) := by decide +kernel
theorem dX2_tell_158 : decode cX2_tell 158 = .ok (.iconst 0, 1) := by decide +kernel
theorem dX2_tell_159 : decode cX2_tell 159 = .ok (.ireturn, 1) := by decide +kernel
theorem dX2_tell_160 : decode cX2_tell 160 = .ok (.iload_n 3, 1) := by decide +kernel
theorem dX2_tell_161 : decode cX2_tell 161 = .ok (.iconst 5, 1) := by decide +kernel
theorem dX2_tell_162 : decode cX2_tell 162 = .ok (.if_icmp .ne 15, 3) := by decide +kernel
theorem dX2_tell_165 : decode cX2_tell 165 = .ok (.aload_n 0, 1) := by decide +kernel
theorem dX2_tell_166 : decode cX2_tell 166 = .ok (.aload_n 0, 1) := by decide +kernel
theorem dX2_tell_167 : decode cX2_tell 167 = .ok (.getfield 21, 3) := by decide +kernel
theorem dX2_tell_170 : decode cX2_tell 170 = .ok (.iload_n 1, 1) := by decide +kernel
theorem dX2_tell_171 : decode cX2_tell 171 = .ok (.invokevirtual 100, 3) := by decide +kernel
theorem dX2_tell_174 : decode cX2_tell 174 = .ok (.goto 5, 3) := by decide +kernel
theorem dX2_tell_177 : decode cX2_tell 177 = .ok (.ldc 55, 2) := by decide +kernel
theorem dX2_tell_179 : decode cX2_tell 179 = .ok (.ireturn, 1) := by decide +kernel
theorem dX2_tell_180 : decode cX2_tell 180 = .ok (.iload_n 3, 1) := by decide +kernel
theorem dX2_tell_181 : decode cX2_tell 181 = .ok (.iconst 5, 1) := by decide +kernel
theorem dX2_tell_182 : decode cX2_tell 182 = .ok (.if_icmp .ne 15, 3) := by decide +kernel
theorem dX2_tell_185 : decode cX2_tell 185 = .ok (.aload_n 0, 1) := by decide +kernel
theorem dX2_tell_186 : decode cX2_tell 186 = .ok (.aload_n 0, 1) := by decide +kernel
theorem dX2_tell_187 : decode cX2_tell 187 = .ok (.getfield 24, 3) := by decide +kernel
theorem dX2_tell_190 : decode cX2_tell 190 = .ok (.iload_n 1, 1) := by decide +kernel
theorem dX2_tell_191 : decode cX2_tell 191 = .ok (.invokevirtual 100, 3) := by decide +kernel
theorem dX2_tell_194 : decode cX2_tell 194 = .ok (.goto 5, 3) := by decide +kernel
theorem dX2_tell_197 : decode cX2_tell 197 = .ok (.ldc 55, 2) := by decide +kernel
theorem dX2_tell_199 : decode cX2_tell 199 = .ok (.ireturn, 1) := by decide +kernel
theorem dX2_tell_200 : decode cX2_tell 200 = .ok (.iload_n 3, 1) := by decide +kernel
theorem dX2_tell_201 : decode cX2_tell 201 = .ok (.iconst 3, 1) := by decide +kernel
theorem dX2_tell_202 : decode cX2_tell 202 = .ok (.if_icmp .ne 15, 3) := by decide +kernel
theorem dX2_tell_205 : decode cX2_tell 205 = .ok (.aload_n 0, 1) := by decide +kernel
theorem dX2_tell_206 : decode cX2_tell 206 = .ok (.aload_n 0, 1) := by decide +kernel
theorem dX2_tell_207 : decode cX2_tell 207 = .ok (.getfield 27, 3) := by decide +kernel
theorem dX2_tell_210 : decode cX2_tell 210 = .ok (.iload_n 1, 1) := by decide +kernel
theorem dX2_tell_211 : decode cX2_tell 211 = .ok (.invokevirtual 100, 3) := by decide +kernel
theorem dX2_tell_214 : decode cX2_tell 214 = .ok (.goto 5, 3) := by decide +kernel
theorem dX2_tell_217 : decode cX2_tell 217 = .ok (.ldc 55, 2) := by decide +kernel
theorem dX2_tell_219 : decode cX2_tell 219 = .ok (.ireturn, 1) := by decide +kernel
theorem dX2_tellNumber_0 : decode cX2_tellNumber 0 = .ok (.iload_n 1, 1) := by decide +kernel
theorem dX2_tellNumber_1 : decode cX2_tellNumber 1 = .ok (.tableswitch 118 0 9 #[55, 60, 76, 81, 118, 118, 118, 118, 108, 113], 55) := by decide +kernel
theorem dX2_tellNumber_56 : decode cX2_tellNumber 56 = .ok (.aload_n 0, 1) := by decide +kernel
theorem dX2_tellNumber_57 : decode cX2_tellNumber 57 = .ok (.getfield 43, 3) := by decide +kernel
theorem dX2_tellNumber_60 : decode cX2_tellNumber 60 = .ok (.ireturn, 1) := by decide +kernel
theorem dX2_tellNumber_61 : decode cX2_tellNumber 61 = .ok (.aload_n 0, 1) := by decide +kernel
theorem dX2_tellNumber_62 : decode cX2_tellNumber 62 = .ok (.getfield 43, 3) := by decide +kernel
theorem dX2_tellNumber_65 : decode cX2_tellNumber 65 = .ok (.ifCond .ne 7, 3) := by decide +kernel
theorem dX2_tellNumber_68 : decode cX2_tellNumber 68 = .ok (.iconst 0, 1) := by decide +kernel
theorem dX2_tellNumber_69 : decode cX2_tellNumber 69 = .ok (.goto 7, 3) := by decide +kernel
theorem dX2_tellNumber_72 : decode cX2_tellNumber 72 = .ok (.aload_n 0, 1) := by decide +kernel
theorem dX2_tellNumber_73 : decode cX2_tellNumber 73 = .ok (.getfield 33, 3) := by decide +kernel
theorem dX2_tellNumber_76 : decode cX2_tellNumber 76 = .ok (.ireturn, 1) := by decide +kernel
theorem dX2_tellNumber_77 : decode cX2_tellNumber 77 = .ok (.aload_n 0, 1) := by decide +kernel
theorem dX2_tellNumber_78 : decode cX2_tellNumber 78 = .ok (.invokevirtual 93, 3) := by decide +kernel
theorem dX2_tellNumber_81 : decode cX2_tellNumber 81 = .ok (.ireturn, 1) := by decide +kernel
theorem dX2_tellNumber_82 : decode cX2_tellNumber 82 = .ok (.aload_n 0, 1) := by decide +kernel
theorem dX2_tellNumber_83 : decode cX2_tellNumber 83 = .ok (.getfield 43, 3) := by decide +kernel
theorem dX2_tellNumber_86 : decode cX2_tellNumber 86 = .ok (.ifCond .ne 7, 3) := by decide +kernel
theorem dX2_tellNumber_89 : decode cX2_tellNumber 89 = .ok (.iconst 0, 1) := by decide +kernel
theorem dX2_tellNumber_90 : decode cX2_tellNumber 90 = .ok (.goto 18, 3) := by decide +kernel
theorem dX2_tellNumber_93 : decode cX2_tellNumber 93 = .ok (.iconst 0, 1) := by decide +kernel
theorem dX2_tellNumber_94 : decode cX2_tellNumber 94 = .ok (.aload_n 0, 1) := by decide +kernel
theorem dX2_tellNumber_95 : decode cX2_tellNumber 95 = .ok (.getfield 46, 3) := by decide +kernel
theorem dX2_tellNumber_98 : decode cX2_tellNumber 98 = .ok (.aload_n 0, 1) := by decide +kernel
theorem dX2_tellNumber_99 : decode cX2_tellNumber 99 = .ok (.getfield 33, 3) := by decide +kernel
theorem dX2_tellNumber_102 : decode cX2_tellNumber 102 = .ok (.isub, 1) := by decide +kernel
theorem dX2_tellNumber_103 : decode cX2_tellNumber 103 = .ok (.iconst 1, 1) := by decide +kernel
theorem dX2_tellNumber_104 : decode cX2_tellNumber 104 = .ok (.iadd, 1) := by decide +kernel
theorem dX2_tellNumber_105 : decode cX2_tellNumber 105 = .ok (.invokestatic 56, 3) := by decide +kernel
theorem dX2_tellNumber_108 : decode cX2_tellNumber 108 = .ok (.ireturn, 1) := by decide +kernel
theorem dX2_tellNumber_109 : decode cX2_tellNumber 109 = .ok (.aload_n 0, 1) := by decide +kernel
theorem dX2_tellNumber_110 : decode cX2_tellNumber 110 = .ok (.getfield 49, 3) := by decide +kernel
theorem dX2_tellNumber_113 : decode cX2_tellNumber 113 = .ok (.ireturn, 1) := by decide +kernel
theorem dX2_tellNumber_114 : decode cX2_tellNumber 114 = .ok (.aload_n 0, 1) := by decide +kernel
theorem dX2_tellNumber_115 : decode cX2_tellNumber 115 = .ok (.invokevirtual 89, 3) := by decide +kernel
theorem dX2_tellNumber_118 : decode cX2_tellNumber 118 = .ok (.ireturn, 1) := by decide +kernel
theorem dX2_tellNumber_119 : decode cX2_tellNumber 119 = .ok (.ldc 104, 2) := by decide +kernel
theorem dX2_tellNumber_121 : decode cX2_tellNumber 121 = .ok (.ireturn, 1) := by decide +kernel
theorem dX3_init_0 : decode cX3_init 0 = .ok (.aload_n 0, 1) := by decide +kernel
theorem dX3_init_1 : decode cX3_init 1 = .ok (.invokespecial 3, 3) := by decide +kernel
theorem dX3_init_4 : decode cX3_init 4 = .ok (.aload_n 0, 1) := by decide +kernel
theorem dX3_init_5 : decode cX3_init 5 = .ok (.bipush 80, 2) := by decide +kernel
theorem dX3_init_7 : decode cX3_init 7 = .ok (.newarray .char, 2) := by decide +kernel
theorem dX3_init_9 : decode cX3_init 9 = .ok (.putfield 9, 3) := by decide +kernel
theorem dX3_init_12 : decode cX3_init 12 = .ok (.return_, 1) := by decide +kernel
theorem dX4_init_0 : decode cX4_init 0 = .ok (.aload_n 0, 1) := by decide +kernel
theorem dX4_init_1 : decode cX4_init 1 = .ok (.invokespecial 3, 3) := by decide +kernel
theorem dX4_init_4 : decode cX4_init 4 = .ok (.aload_n 0, 1) := by decide +kernel
theorem dX4_init_5 : decode cX4_init 5 = .ok (.bipush 8, 2) := by decide +kernel
theorem dX4_init_7 : decode cX4_init 7 = .ok (.newarray .int, 2) := by decide +kernel
theorem dX4_init_9 : decode cX4_init 9 = .ok (.putfield 9, 3) := by decide +kernel
theorem dX4_init_12 : decode cX4_init 12 = .ok (.aload_n 0, 1) := by decide +kernel
theorem dX4_init_13 : decode cX4_init 13 = .ok (.bipush 8, 2) := by decide +kernel
theorem dX4_init_15 : decode cX4_init 15 = .ok (.newarray .int, 2) := by decide +kernel
theorem dX4_init_17 : decode cX4_init 17 = .ok (.putfield 15, 3) := by decide +kernel
theorem dX4_init_20 : decode cX4_init 20 = .ok (.aload_n 0, 1) := by decide +kernel
