theorem dX2_callsAnother_5 : decode cX2_callsAnother 5 = .ok (.if_icmp .eq 12, 3) := by decide +kernel
theorem dX2_callsAnother_8 : decode cX2_callsAnother 8 = .ok (.aload_n 0, 1) := by decide +kernel
theorem dX2_callsAnother_9 : decode cX2_callsAnother 9 = .ok (.getfield 9, 3) := by decide +kernel
theorem dX2_callsAnother_12 : decode cX2_callsAnother 12 = .ok (.bipush 6, 2) := by decide +kernel
theorem dX2_callsAnother_14 : decode cX2_callsAnother 14 = .ok (.if_icmp .ne 7, 3) := by decide +kernel
theorem dX2_callsAnother_17 : decode cX2_callsAnother 17 = .ok (.iconst 1, 1) := by decide +kernel
theorem dX2_callsAnother_18 : decode cX2_callsAnother 18 = .ok (.goto 4, 3) := by decide +kernel
theorem dX2_callsAnother_21 : decode cX2_callsAnother 21 = .ok (.iconst 0, 1) := by decide +kernel
theorem dX2_callsAnother_22 : decode cX2_callsAnother 22 = .ok (.ireturn, 1) := by decide +kernel
theorem dX2_appendDigit_0 : decode cX2_appendDigit 0 = .ok (.aload_n 0, 1) := by decide +kernel
theorem dX2_appendDigit_1 : decode cX2_appendDigit 1 = .ok (.dup, 1) := by decide +kernel
theorem dX2_appendDigit_2 : decode cX2_appendDigit 2 = .ok (.getfield 25, 3) := by decide +kernel
theorem dX2_appendDigit_5 : decode cX2_appendDigit 5 = .ok (.iload_n 1, 1) := by decide +kernel
theorem dX2_appendDigit_6 : decode cX2_appendDigit 6 = .ok (.iconst 4, 1) := by decide +kernel
theorem dX2_appendDigit_7 : decode cX2_appendDigit 7 = .ok (.aload_n 0, 1) := by decide +kernel
theorem dX2_appendDigit_8 : decode cX2_appendDigit 8 = .ok (.getfield 28, 3) := by decide +kernel
theorem dX2_appendDigit_11 : decode cX2_appendDigit 11 = .ok (.imul, 1) := by decide +kernel
theorem dX2_appendDigit_12 : decode cX2_appendDigit 12 = .ok (.ishl, 1) := by decide +kernel
theorem dX2_appendDigit_13 : decode cX2_appendDigit 13 = .ok (.ior, 1) := by decide +kernel
theorem dX2_appendDigit_14 : decode cX2_appendDigit 14 = .ok (.putfield 25, 3) := by decide +kernel
theorem dX2_appendDigit_17 : decode cX2_appendDigit 17 = .ok (.aload_n 0, 1) := by decide +kernel
theorem dX2_appendDigit_18 : decode cX2_appendDigit 18 = .ok (.dup, 1) := by decide +kernel
theorem dX2_appendDigit_19 : decode cX2_appendDigit 19 = .ok (.getfield 28, 3) := by decide +kernel
theorem dX2_appendDigit_22 : decode cX2_appendDigit 22 = .ok (.iconst 1, 1) := by decide +kernel
theorem dX2_appendDigit_23 : decode cX2_appendDigit 23 = .ok (.iadd, 1) := by decide +kernel
theorem dX2_appendDigit_24 : decode cX2_appendDigit 24 = .ok (.putfield 28, 3) := by decide +kernel
theorem dX2_appendDigit_27 : decode cX2_appendDigit 27 = .ok (.return_, 1) := by decide +kernel
theorem dX2_takePulses_0 : decode cX2_takePulses 0 = .ok (.aload_n 0, 1) := by decide +kernel
theorem dX2_takePulses_1 : decode cX2_takePulses 1 = .ok (.getfield 25, 3) := by decide +kernel
theorem dX2_takePulses_4 : decode cX2_takePulses 4 = .ok (.bipush 15, 2) := by decide +kernel
theorem dX2_takePulses_6 : decode cX2_takePulses 6 = .ok (.iand, 1) := by decide +kernel
theorem dX2_takePulses_7 : decode cX2_takePulses 7 = .ok (.istore_n 1, 1) := by decide +kernel
theorem dX2_takePulses_8 : decode cX2_takePulses 8 = .ok (.aload_n 0, 1) := by decide +kernel
theorem dX2_takePulses_9 : decode cX2_takePulses 9 = .ok (.dup, 1) := by decide +kernel
theorem dX2_takePulses_10 : decode cX2_takePulses 10 = .ok (.getfield 25, 3) := by decide +kernel
theorem dX2_takePulses_13 : decode cX2_takePulses 13 = .ok (.iconst 4, 1) := by decide +kernel
theorem dX2_takePulses_14 : decode cX2_takePulses 14 = .ok (.iushr, 1) := by decide +kernel
theorem dX2_takePulses_15 : decode cX2_takePulses 15 = .ok (.putfield 25, 3) := by decide +kernel
theorem dX2_takePulses_18 : decode cX2_takePulses 18 = .ok (.aload_n 0, 1) := by decide +kernel
theorem dX2_takePulses_19 : decode cX2_takePulses 19 = .ok (.dup, 1) := by decide +kernel
theorem dX2_takePulses_20 : decode cX2_takePulses 20 = .ok (.getfield 28, 3) := by decide +kernel
theorem dX2_takePulses_23 : decode cX2_takePulses 23 = .ok (.iconst 1, 1) := by decide +kernel
theorem dX2_takePulses_24 : decode cX2_takePulses 24 = .ok (.isub, 1) := by decide +kernel
theorem dX2_takePulses_25 : decode cX2_takePulses 25 = .ok (.putfield 28, 3) := by decide +kernel
theorem dX2_takePulses_28 : decode cX2_takePulses 28 = .ok (.iload_n 1, 1) := by decide +kernel
theorem dX2_takePulses_29 : decode cX2_takePulses 29 = .ok (.ifCond .ne 8, 3) := by decide +kernel
theorem dX2_takePulses_32 : decode cX2_takePulses 32 = .ok (.bipush 10, 2) := by decide +kernel
theorem dX2_takePulses_34 : decode cX2_takePulses 34 = .ok (.goto 4, 3) := by decide +kernel
theorem dX2_takePulses_37 : decode cX2_takePulses 37 = .ok (.iload_n 1, 1) := by decide +kernel
theorem dX2_takePulses_38 : decode cX2_takePulses 38 = .ok (.ireturn, 1) := by decide +kernel
theorem dX2_leaveCall_0 : decode cX2_leaveCall 0 = .ok (.aload_n 0, 1) := by decide +kernel
theorem dX2_leaveCall_1 : decode cX2_leaveCall 1 = .ok (.iload_n 1, 1) := by decide +kernel
theorem dX2_leaveCall_2 : decode cX2_leaveCall 2 = .ok (.putfield 9, 3) := by decide +kernel
theorem dX2_leaveCall_5 : decode cX2_leaveCall 5 = .ok (.aload_n 0, 1) := by decide +kernel
theorem dX2_leaveCall_6 : decode cX2_leaveCall 6 = .ok (.bipush (-6), 2) := by decide +kernel
theorem dX2_leaveCall_8 : decode cX2_leaveCall 8 = .ok (.putfield 31, 3) := by decide +kernel
theorem dX2_leaveCall_11 : decode cX2_leaveCall 11 = .ok (.aload_n 0, 1) := by decide +kernel
theorem dX2_leaveCall_12 : decode cX2_leaveCall 12 = .ok (.iconst 0, 1) := by decide +kernel
theorem dX2_leaveCall_13 : decode cX2_leaveCall 13 = .ok (.putfield 37, 3) := by decide +kernel
theorem dX2_leaveCall_16 : decode cX2_leaveCall 16 = .ok (.aload_n 0, 1) := by decide +kernel
theorem dX2_leaveCall_17 : decode cX2_leaveCall 17 = .ok (.iconst 0, 1) := by decide +kernel
theorem dX2_leaveCall_18 : decode cX2_leaveCall 18 = .ok (.putfield 25, 3) := by decide +kernel
theorem dX2_leaveCall_21 : decode cX2_leaveCall 21 = .ok (.aload_n 0, 1) := by decide +kernel
theorem dX2_leaveCall_22 : decode cX2_leaveCall 22 = .ok (.iconst 0, 1) := by decide +kernel
theorem dX2_leaveCall_23 : decode cX2_leaveCall 23 = .ok (.putfield 28, 3) := by decide +kernel
theorem dX2_leaveCall_26 : decode cX2_leaveCall 26 = .ok (.return_, 1) := by decide +kernel
theorem dX2_waitParked_0 : decode cX2_waitParked 0 = .ok (.aload_n 0, 1) := by decide +kernel
theorem dX2_waitParked_1 : decode cX2_waitParked 1 = .ok (.getfield 9, 3) := by decide +kernel
theorem dX2_waitParked_4 : decode cX2_waitParked 4 = .ok (.bipush 10, 2) := by decide +kernel
theorem dX2_waitParked_6 : decode cX2_waitParked 6 = .ok (.if_icmp .eq 4, 3) := by decide +kernel
theorem dX2_waitParked_9 : decode cX2_waitParked 9 = .ok (.return_, 1) := by decide +kernel
theorem dX2_waitParked_10 : decode cX2_waitParked 10 = .ok (.aload_n 0, 1) := by decide +kernel
theorem dX2_waitParked_11 : decode cX2_waitParked 11 = .ok (.dup, 1) := by decide +kernel
theorem dX2_waitParked_12 : decode cX2_waitParked 12 = .ok (.getfield 37, 3) := by decide +kernel
theorem dX2_waitParked_15 : decode cX2_waitParked 15 = .ok (.iconst 1, 1) := by decide +kernel
theorem dX2_waitParked_16 : decode cX2_waitParked 16 = .ok (.iadd, 1) := by decide +kernel
theorem dX2_waitParked_17 : decode cX2_waitParked 17 = .ok (.putfield 37, 3) := by decide +kernel
theorem dX2_waitParked_20 : decode cX2_waitParked 20 = .ok (.aload_n 0, 1) := by decide +kernel
theorem dX2_waitParked_21 : decode cX2_waitParked 21 = .ok (.getfield 37, 3) := by decide +kernel
theorem dX2_waitParked_24 : decode cX2_waitParked 24 = .ok (.iload_n 1, 1) := by decide +kernel
theorem dX2_waitParked_25 : decode cX2_waitParked 25 = .ok (.if_icmp .lt 14, 3) := by decide +kernel
theorem dX2_waitParked_28 : decode cX2_waitParked 28 = .ok (.aload_n 0, 1) := by decide +kernel
theorem dX2_waitParked_29 : decode cX2_waitParked 29 = .ok (.bipush 11, 2) := by decide +kernel
theorem dX2_waitParked_31 : decode cX2_waitParked 31 = .ok (.putfield 9, 3) := by decide +kernel
theorem dX2_waitParked_34 : decode cX2_waitParked 34 = .ok (.aload_n 0, 1) := by decide +kernel
theorem dX2_waitParked_35 : decode cX2_waitParked 35 = .ok (.iconst 0, 1) := by decide +kernel
theorem dX2_waitParked_36 : decode cX2_waitParked 36 = .ok (.putfield 37, 3) := by decide +kernel
theorem dX2_waitParked_39 : decode cX2_waitParked 39 = .ok (.return_, 1) := by decide +kernel
theorem dX3_init_0 : decode cX3_init 0 = .ok (.aload_n 0, 1) := by decide +kernel
theorem dX3_init_1 : decode cX3_init 1 = .ok (.invokespecial 3, 3) := by decide +kernel
theorem dX3_init_4 : decode cX3_init 4 = .ok (.aload_n 0, 1) := by decide +kernel
theorem dX3_init_5 : decode cX3_init 5 = .ok (.bipush 60, 2) := by decide +kernel
theorem dX3_init_7 : decode cX3_init 7 = .ok (.newarray .int, 2) := by decide +kernel
theorem dX3_init_9 : decode cX3_init 9 = .ok (.putfield 9, 3) := by decide +kernel
theorem dX3_init_12 : decode cX3_init 12 = .ok (.aload_n 0, 1) := by decide +kernel
theorem dX3_init_13 : decode cX3_init 13 = .ok (.iconst 0, 1) := by decide +kernel
theorem dX3_init_14 : decode cX3_init 14 = .ok (.putfield 15, 3) := by decide +kernel
theorem dX3_init_17 : decode cX3_init 17 = .ok (.return_, 1) := by decide +kernel
theorem dX4_init_0 : decode cX4_init 0 = .ok (.aload_n 0, 1) := by decide +kernel
theorem dX4_init_1 : decode cX4_init 1 = .ok (.invokespecial 1, 3) := by decide +kernel
theorem dX4_init_4 : decode cX4_init 4 = .ok (.aload_n 0, 1) := by decide +kernel
theorem dX4_init_5 : decode cX4_init 5 = .ok (.new 7, 3) := by decide +kernel
theorem dX4_init_8 : decode cX4_init 8 = .ok (.dup, 1) := by decide +kernel
theorem dX4_init_9 : decode cX4_init 9 = .ok (.invokespecial 9, 3) := by decide +kernel
theorem dX4_init_12 : decode cX4_init 12 = .ok (.putfield 10, 3) := by decide +kernel
theorem dX4_init_15 : decode cX4_init 15 = .ok (.aload_n 0, 1) := by decide +kernel
theorem dX4_init_16 : decode cX4_init 16 = .ok (.new 7, 3) := by decide +kernel
theorem dX4_init_19 : decode cX4_init 19 = .ok (.dup, 1) := by decide +kernel
theorem dX4_init_20 : decode cX4_init 20 = .ok (.invokespecial 9, 3) := by decide +kernel
theorem dX4_init_23 : decode cX4_init 23 = .ok (.putfield 16, 3) := by decide +kernel
theorem dX4_init_26 : decode cX4_init 26 = .ok (.aload_n 0, 1) := by decide +kernel
theorem dX4_init_27 : decode cX4_init 27 = .ok (.iconst 2, 1) := by decide +kernel
theorem dX4_init_28 : decode cX4_init 28 = .ok (.anewarray 7, 3) := by decide +kernel
theorem dX4_init_31 : decode cX4_init 31 = .ok (.putfield 19, 3) := by decide +kernel
theorem dX4_init_34 : decode cX4_init 34 = .ok (.aload_n 0, 1) := by decide +kernel
theorem dX4_init_35 : decode cX4_init 35 = .ok (.new 23, 3) := by decide +kernel
theorem dX4_init_38 : decode cX4_init 38 = .ok (.dup, 1) := by decide +kernel
theorem dX4_init_39 : decode cX4_init 39 = .ok (.invokespecial 25, 3) := by decide +kernel
theorem dX4_init_42 : decode cX4_init 42 = .ok (.putfield 26, 3) := by decide +kernel
theorem dX4_init_45 : decode cX4_init 45 = .ok (.return_, 1) := by decide +kernel
theorem dX4_setUp_0 : decode cX4_setUp 0 = .ok (.iload_n 1, 1) := by decide +kernel
theorem dX4_setUp_1 : decode cX4_setUp 1 = .ok (.iconst 1, 1) := by decide +kernel
theorem dX4_setUp_2 : decode cX4_setUp 2 = .ok (.iconst 4, 1) := by decide +kernel
theorem dX4_setUp_3 : decode cX4_setUp 3 = .ok (.invokestatic 30, 3) := by decide +kernel
theorem dX4_setUp_6 : decode cX4_setUp 6 = .ok (.ifCond .eq 12, 3) := by decide +kernel
theorem dX4_setUp_9 : decode cX4_setUp 9 = .ok (.iload_n 2, 1) := by decide +kernel
theorem dX4_setUp_10 : decode cX4_setUp 10 = .ok (.iconst 1, 1) := by decide +kernel
theorem dX4_setUp_11 : decode cX4_setUp 11 = .ok (.iconst 3, 1) := by decide +kernel
theorem dX4_setUp_12 : decode cX4_setUp 12 = .ok (.invokestatic 30, 3) := by decide +kernel
theorem dX4_setUp_15 : decode cX4_setUp 15 = .ok (.ifCond .ne 6, 3) := by decide +kernel
theorem dX4_setUp_18 : decode cX4_setUp 18 = .ok (.bipush (-2), 2) := by decide +kernel
theorem dX4_setUp_20 : decode cX4_setUp 20 = .ok (.ireturn, 1) := by decide +kernel
theorem dX4_setUp_21 : decode cX4_setUp 21 = .ok (.aload_n 0, 1) := by decide +kernel
theorem dX4_setUp_22 : decode cX4_setUp 22 = .ok (.getfield 10, 3) := by decide +kernel
theorem dX4_setUp_25 : decode cX4_setUp 25 = .ok (.getfield 34, 3) := by decide +kernel
theorem dX4_setUp_28 : decode cX4_setUp 28 = .ok (.istore_n 3, 1) := by decide +kernel
theorem dX4_setUp_29 : decode cX4_setUp 29 = .ok (.aload_n 0, 1) := by decide +kernel
theorem dX4_setUp_30 : decode cX4_setUp 30 = .ok (.getfield 10, 3) := by decide +kernel
theorem dX4_setUp_33 : decode cX4_setUp 33 = .ok (.iload_n 1, 1) := by decide +kernel
theorem dX4_setUp_34 : decode cX4_setUp 34 = .ok (.iload_n 2, 1) := by decide +kernel
theorem dX4_setUp_35 : decode cX4_setUp 35 = .ok (.invokevirtual 38, 3) := by decide +kernel
theorem dX4_setUp_38 : decode cX4_setUp 38 = .ok (.iload_n 3, 1) := by decide +kernel
theorem dX4_setUp_39 : decode cX4_setUp 39 = .ok (.ireturn, 1) := by decide +kernel
theorem dX4_set_0 : decode cX4_set 0 = .ok (.iload_n 1, 1) := by decide +kernel
theorem dX4_set_1 : decode cX4_set 1 = .ok (.iconst 0, 1) := by decide +kernel
theorem dX4_set_2 : decode cX4_set 2 = .ok (.getstatic 42, 3) := by decide +kernel
theorem dX4_set_5 : decode cX4_set 5 = .ok (.arraylength, 1) := by decide +kernel
theorem dX4_set_6 : decode cX4_set 6 = .ok (.iconst 1, 1) := by decide +kernel
theorem dX4_set_7 : decode cX4_set 7 = .ok (.isub, 1) := by decide +kernel
theorem dX4_set_8 : decode cX4_set 8 = .ok (.invokestatic 30, 3) := by decide +kernel
theorem dX4_set_11 : decode cX4_set 11 = .ok (.ifCond .eq 16, 3) := by decide +kernel
theorem dX4_set_14 : decode cX4_set 14 = .ok (.iload_n 2, 1) := by decide +kernel
theorem dX4_set_15 : decode cX4_set 15 = .ok (.iconst 1, 1) := by decide +kernel
theorem dX4_set_16 : decode cX4_set 16 = .ok (.getstatic 42, 3) := by decide +kernel
theorem dX4_set_19 : decode cX4_set 19 = .ok (.iload_n 1, 1) := by decide +kernel
theorem dX4_set_20 : decode cX4_set 20 = .ok (.iaload, 1) := by decide +kernel
theorem dX4_set_21 : decode cX4_set 21 = .ok (.invokestatic 30, 3) := by decide +kernel
theorem dX4_set_24 : decode cX4_set 24 = .ok (.ifCond .ne 6, 3) := by decide +kernel
theorem dX4_set_27 : decode cX4_set 27 = .ok (.bipush (-2), 2) := by decide +kernel
theorem dX4_set_29 : decode cX4_set 29 = .ok (.ireturn, 1) := by decide +kernel
theorem dX4_set_30 : decode cX4_set 30 = .ok (.aload_n 0, 1) := by decide +kernel
theorem dX4_set_31 : decode cX4_set 31 = .ok (.getfield 10, 3) := by decide +kernel
theorem dX4_set_34 : decode cX4_set 34 = .ok (.iload_n 1, 1) := by decide +kernel
theorem dX4_set_35 : decode cX4_set 35 = .ok (.iload_n 2, 1) := by decide +kernel
theorem dX4_set_36 : decode cX4_set 36 = .ok (.invokevirtual 46, 3) := by decide +kernel
theorem dX4_set_39 : decode cX4_set 39 = .ok (.ireturn, 1) := by decide +kernel
theorem dX4_lift_0 : decode cX4_lift 0 = .ok (.iload_n 1, 1) := by decide +kernel
theorem dX4_lift_1 : decode cX4_lift 1 = .ok (.invokestatic 50, 3) := by decide +kernel
theorem dX4_lift_4 : decode cX4_lift 4 = .ok (.ifCond .eq 14, 3) := by decide +kernel
theorem dX4_lift_7 : decode cX4_lift 7 = .ok (.aload_n 0, 1) := by decide +kernel
theorem dX4_lift_8 : decode cX4_lift 8 = .ok (.getfield 10, 3) := by decide +kernel
theorem dX4_lift_11 : decode cX4_lift 11 = .ok (.iload_n 1, 1) := by decide +kernel
theorem dX4_lift_12 : decode cX4_lift 12 = .ok (.invokevirtual 54, 3) := by decide +kernel
theorem dX4_lift_15 : decode cX4_lift 15 = .ok (.goto 4, 3) := by decide +kernel
theorem dX4_lift_18 : decode cX4_lift 18 = .ok (.iconst (-1), 1) := by decide +kernel
theorem dX4_lift_19 : decode cX4_lift 19 = .ok (.ireturn, 1) := by decide +kernel
theorem dX4_hang_0 : decode cX4_hang 0 = .ok (.iload_n 1, 1) := by decide +kernel
theorem dX4_hang_1 : decode cX4_hang 1 = .ok (.invokestatic 50, 3) := by decide +kernel
theorem dX4_hang_4 : decode cX4_hang 4 = .ok (.ifCond .eq 14, 3) := by decide +kernel
theorem dX4_hang_7 : decode cX4_hang 7 = .ok (.aload_n 0, 1) := by decide +kernel
theorem dX4_hang_8 : decode cX4_hang 8 = .ok (.getfield 10, 3) := by decide +kernel
theorem dX4_hang_11 : decode cX4_hang 11 = .ok (.iload_n 1, 1) := by decide +kernel
theorem dX4_hang_12 : decode cX4_hang 12 = .ok (.invokevirtual 58, 3) := by decide +kernel
theorem dX4_hang_15 : decode cX4_hang 15 = .ok (.goto 4, 3) := by decide +kernel
theorem dX4_hang_18 : decode cX4_hang 18 = .ok (.iconst (-1), 1) := by decide +kernel
theorem dX4_hang_19 : decode cX4_hang 19 = .ok (.ireturn, 1) := by decide +kernel
theorem dX4_dial_0 : decode cX4_dial 0 = .ok (.iload_n 1, 1) := by decide +kernel
theorem dX4_dial_1 : decode cX4_dial 1 = .ok (.invokestatic 50, 3) := by decide +kernel
theorem dX4_dial_4 : decode cX4_dial 4 = .ok (.ifCond .ne 5, 3) := by decide +kernel
theorem dX4_dial_7 : decode cX4_dial 7 = .ok (.iconst (-1), 1) := by decide +kernel
theorem dX4_dial_8 : decode cX4_dial 8 = .ok (.ireturn, 1) := by decide +kernel
theorem dX4_dial_9 : decode cX4_dial 9 = .ok (.iload_n 2, 1) := by decide +kernel
theorem dX4_dial_10 : decode cX4_dial 10 = .ok (.iconst 0, 1) := by decide +kernel
theorem dX4_dial_11 : decode cX4_dial 11 = .ok (.bipush 9, 2) := by decide +kernel
theorem dX4_dial_13 : decode cX4_dial 13 = .ok (.invokestatic 30, 3) := by decide +kernel
theorem dX4_dial_16 : decode cX4_dial 16 = .ok (.ifCond .eq 15, 3) := by decide +kernel
theorem dX4_dial_19 : decode cX4_dial 19 = .ok (.aload_n 0, 1) := by decide +kernel
theorem dX4_dial_20 : decode cX4_dial 20 = .ok (.getfield 10, 3) := by decide +kernel
theorem dX4_dial_23 : decode cX4_dial 23 = .ok (.iload_n 1, 1) := by decide +kernel
theorem dX4_dial_24 : decode cX4_dial 24 = .ok (.iload_n 2, 1) := by decide +kernel
theorem dX4_dial_25 : decode cX4_dial 25 = .ok (.invokevirtual 61, 3) := by decide +kernel
theorem dX4_dial_28 : decode cX4_dial 28 = .ok (.goto 5, 3) := by decide +kernel
theorem dX4_dial_31 : decode cX4_dial 31 = .ok (.bipush (-2), 2) := by decide +kernel
theorem dX4_dial_33 : decode cX4_dial 33 = .ok (.ireturn, 1) := by decide +kernel
theorem dX4_tick_0 : decode cX4_tick 0 = .ok (.iload_n 1, 1) := by decide +kernel
theorem dX4_tick_1 : decode cX4_tick 1 = .ok (.iconst 1, 1) := by decide +kernel
theorem dX4_tick_2 : decode cX4_tick 2 = .ok (.sipush 1000, 3) := by decide +kernel
theorem dX4_tick_5 : decode cX4_tick 5 = .ok (.invokestatic 30, 3) := by decide +kernel
theorem dX4_tick_8 : decode cX4_tick 8 = .ok (.ifCond .ne 6, 3) := by decide +kernel
theorem dX4_tick_11 : decode cX4_tick 11 = .ok (.bipush (-2), 2) := by decide +kernel
theorem dX4_tick_13 : decode cX4_tick 13 = .ok (.ireturn, 1) := by decide +kernel
theorem dX4_tick_14 : decode cX4_tick 14 = .ok (.aload_n 0, 1) := by decide +kernel
theorem dX4_tick_15 : decode cX4_tick 15 = .ok (.getfield 10, 3) := by decide +kernel
theorem dX4_tick_18 : decode cX4_tick 18 = .ok (.iload_n 1, 1) := by decide +kernel
theorem dX4_tick_19 : decode cX4_tick 19 = .ok (.invokevirtual 64, 3) := by decide +kernel
theorem dX4_tick_22 : decode cX4_tick 22 = .ok (.ifCond .ne 6, 3) := by decide +kernel
theorem dX4_tick_25 : decode cX4_tick 25 = .ok (.bipush (-5), 2) := by decide +kernel
theorem dX4_tick_27 : decode cX4_tick 27 = .ok (.ireturn, 1) := by decide +kernel
theorem dX4_tick_28 : decode cX4_tick 28 = .ok (.aload_n 0, 1) := by decide +kernel
theorem dX4_tick_29 : decode cX4_tick 29 = .ok (.getfield 10, 3) := by decide +kernel
theorem dX4_tick_32 : decode cX4_tick 32 = .ok (.iload_n 1, 1) := by decide +kernel
theorem dX4_tick_33 : decode cX4_tick 33 = .ok (.invokevirtual 67, 3) := by decide +kernel
theorem dX4_tick_36 : decode cX4_tick 36 = .ok (.aload_n 0, 1) := by decide +kernel
theorem dX4_tick_37 : decode cX4_tick 37 = .ok (.getfield 10, 3) := by decide +kernel
theorem dX4_tick_40 : decode cX4_tick 40 = .ok (.getfield 71, 3) := by decide +kernel
theorem dX4_tick_43 : decode cX4_tick 43 = .ok (.ireturn, 1) := by decide +kernel
theorem dX4_line_0 : decode cX4_line 0 = .ok (.iload_n 1, 1) := by decide +kernel
theorem dX4_line_1 : decode cX4_line 1 = .ok (.invokestatic 50, 3) := by decide +kernel
theorem dX4_line_4 : decode cX4_line 4 = .ok (.ifCond .eq 15, 3) := by decide +kernel
theorem dX4_line_7 : decode cX4_line 7 = .ok (.aload_n 0, 1) := by decide +kernel
theorem dX4_line_8 : decode cX4_line 8 = .ok (.getfield 10, 3) := by decide +kernel
theorem dX4_line_11 : decode cX4_line 11 = .ok (.iload_n 1, 1) := by decide +kernel
theorem dX4_line_12 : decode cX4_line 12 = .ok (.iload_n 2, 1) := by decide +kernel
theorem dX4_line_13 : decode cX4_line 13 = .ok (.invokevirtual 74, 3) := by decide +kernel
theorem dX4_line_16 : decode cX4_line 16 = .ok (.goto 4, 3) := by decide +kernel
theorem dX4_line_19 : decode cX4_line 19 = .ok (.iconst (-1), 1) := by decide +kernel
theorem dX4_line_20 : decode cX4_line 20 = .ok (.ireturn, 1) := by decide +kernel
theorem dX4_finder_0 : decode cX4_finder 0 = .ok (.iload_n 1, 1) := by decide +kernel
theorem dX4_finder_1 : decode cX4_finder 1 = .ok (.iconst 0, 1) := by decide +kernel
theorem dX4_finder_2 : decode cX4_finder 2 = .ok (.aload_n 0, 1) := by decide +kernel
theorem dX4_finder_3 : decode cX4_finder 3 = .ok (.getfield 10, 3) := by decide +kernel
theorem dX4_finder_6 : decode cX4_finder 6 = .ok (.getfield 34, 3) := by decide +kernel
theorem dX4_finder_9 : decode cX4_finder 9 = .ok (.iconst 1, 1) := by decide +kernel
theorem dX4_finder_10 : decode cX4_finder 10 = .ok (.isub, 1) := by decide +kernel
theorem dX4_finder_11 : decode cX4_finder 11 = .ok (.invokestatic 30, 3) := by decide +kernel
theorem dX4_finder_14 : decode cX4_finder 14 = .ok (.ifCond .eq 18, 3) := by decide +kernel
theorem dX4_finder_17 : decode cX4_finder 17 = .ok (.aload_n 0, 1) := by decide +kernel
theorem dX4_finder_18 : decode cX4_finder 18 = .ok (.getfield 10, 3) := by decide +kernel
theorem dX4_finder_21 : decode cX4_finder 21 = .ok (.iload_n 1, 1) := by decide +kernel
theorem dX4_finder_22 : decode cX4_finder 22 = .ok (.invokevirtual 77, 3) := by decide +kernel
theorem dX4_finder_25 : decode cX4_finder 25 = .ok (.iload_n 2, 1) := by decide +kernel
theorem dX4_finder_26 : decode cX4_finder 26 = .ok (.invokevirtual 81, 3) := by decide +kernel
theorem dX4_finder_29 : decode cX4_finder 29 = .ok (.goto 4, 3) := by decide +kernel
theorem dX4_finder_32 : decode cX4_finder 32 = .ok (.iconst (-1), 1) := by decide +kernel
theorem dX4_finder_33 : decode cX4_finder 33 = .ok (.ireturn, 1) := by decide +kernel
theorem dX4_connector_0 : decode cX4_connector 0 = .ok (.iload_n 1, 1) := by decide +kernel
theorem dX4_connector_1 : decode cX4_connector 1 = .ok (.iconst 1, 1) := by decide +kernel
theorem dX4_connector_2 : decode cX4_connector 2 = .ok (.iconst 4, 1) := by decide +kernel
theorem dX4_connector_3 : decode cX4_connector 3 = .ok (.invokestatic 30, 3) := by decide +kernel
theorem dX4_connector_6 : decode cX4_connector 6 = .ok (.ifCond .eq 20, 3) := by decide +kernel
theorem dX4_connector_9 : decode cX4_connector 9 = .ok (.iload_n 2, 1) := by decide +kernel
theorem dX4_connector_10 : decode cX4_connector 10 = .ok (.iconst 0, 1) := by decide +kernel
theorem dX4_connector_11 : decode cX4_connector 11 = .ok (.aload_n 0, 1) := by decide +kernel
theorem dX4_connector_12 : decode cX4_connector 12 = .ok (.getfield 10, 3) := by decide +kernel
theorem dX4_connector_15 : decode cX4_connector 15 = .ok (.getfield 86, 3) := by decide +kernel
theorem dX4_connector_18 : decode cX4_connector 18 = .ok (.iconst 1, 1) := by decide +kernel
theorem dX4_connector_19 : decode cX4_connector 19 = .ok (.isub, 1) := by decide +kernel
theorem dX4_connector_20 : decode cX4_connector 20 = .ok (.invokestatic 30, 3) := by decide +kernel
theorem dX4_connector_23 : decode cX4_connector 23 = .ok (.ifCond .ne 5, 3) := by decide +kernel
theorem dX4_connector_26 : decode cX4_connector 26 = .ok (.iconst (-1), 1) := by decide +kernel
theorem dX4_connector_27 : decode cX4_connector 27 = .ok (.ireturn, 1) := by decide +kernel
theorem dX4_connector_28 : decode cX4_connector 28 = .ok (.aload_n 0, 1) := by decide +kernel
theorem dX4_connector_29 : decode cX4_connector 29 = .ok (.getfield 10, 3) := by decide +kernel
theorem dX4_connector_32 : decode cX4_connector 32 = .ok (.iload_n 1, 1) := by decide +kernel
theorem dX4_connector_33 : decode cX4_connector 33 = .ok (.iload_n 2, 1) := by decide +kernel
theorem dX4_connector_34 : decode cX4_connector 34 = .ok (.invokevirtual 89, 3) := by decide +kernel
theorem dX4_connector_37 : decode cX4_connector 37 = .ok (.ireturn, 1) := by decide +kernel
theorem dX4_count_0 : decode cX4_count 0 = .ok (.iload_n 1, 1) := by decide +kernel
theorem dX4_count_1 : decode cX4_count 1 = .ok (.bipush 14, 2) := by decide +kernel
theorem dX4_count_3 : decode cX4_count 3 = .ok (.if_icmp .ne 13, 3) := by decide +kernel
theorem dX4_count_6 : decode cX4_count 6 = .ok (.aload_n 0, 1) := by decide +kernel
theorem dX4_count_7 : decode cX4_count 7 = .ok (.getfield 26, 3) := by decide +kernel
theorem dX4_count_10 : decode cX4_count 10 = .ok (.getfield 92, 3) := by decide +kernel
theorem dX4_count_13 : decode cX4_count 13 = .ok (.goto 11, 3) := by decide +kernel
theorem dX4_count_16 : decode cX4_count 16 = .ok (.aload_n 0, 1) := by decide +kernel
theorem dX4_count_17 : decode cX4_count 17 = .ok (.getfield 10, 3) := by decide +kernel
theorem dX4_count_20 : decode cX4_count 20 = .ok (.iload_n 1, 1) := by decide +kernel
theorem dX4_count_21 : decode cX4_count 21 = .ok (.invokevirtual 95, 3) := by decide +kernel
theorem dX4_count_24 : decode cX4_count 24 = .ok (.ireturn, 1) := by decide +kernel
theorem dX4_trace_0 : decode cX4_trace 0 = .ok (.iload_n 1, 1) := by decide +kernel
theorem dX4_trace_1 : decode cX4_trace 1 = .ok (.invokestatic 50, 3) := by decide +kernel
theorem dX4_trace_4 : decode cX4_trace 4 = .ok (.ifCond .ne 5, 3) := by decide +kernel
theorem dX4_trace_7 : decode cX4_trace 7 = .ok (.iconst (-1), 1) := by decide +kernel
theorem dX4_trace_8 : decode cX4_trace 8 = .ok (.ireturn, 1) := by decide +kernel
theorem dX4_trace_9 : decode cX4_trace 9 = .ok (.iload_n 2, 1) := by decide +kernel
theorem dX4_trace_10 : decode cX4_trace 10 = .ok (.iconst 0, 1) := by decide +kernel
theorem dX4_trace_11 : decode cX4_trace 11 = .ok (.iconst 2, 1) := by decide +kernel
theorem dX4_trace_12 : decode cX4_trace 12 = .ok (.invokestatic 30, 3) := by decide +kernel
theorem dX4_trace_15 : decode cX4_trace 15 = .ok (.ifCond .ne 6, 3) := by decide +kernel
theorem dX4_trace_18 : decode cX4_trace 18 = .ok (.bipush (-2), 2) := by decide +kernel
theorem dX4_trace_20 : decode cX4_trace 20 = .ok (.ireturn, 1) := by decide +kernel
theorem dX4_trace_21 : decode cX4_trace 21 = .ok (.aload_n 0, 1) := by decide +kernel
theorem dX4_trace_22 : decode cX4_trace 22 = .ok (.getfield 10, 3) := by decide +kernel
theorem dX4_trace_25 : decode cX4_trace 25 = .ok (.iload_n 1, 1) := by decide +kernel
theorem dX4_trace_26 : decode cX4_trace 26 = .ok (.iload_n 2, 1) := by decide +kernel
theorem dX4_trace_27 : decode cX4_trace 27 = .ok (.invokevirtual 96, 3) := by decide +kernel
theorem dX4_trace_30 : decode cX4_trace 30 = .ok (.ireturn, 1) := by decide +kernel
theorem dX4_until_0 : decode cX4_until 0 = .ok (.iload_n 1, 1) := by decide +kernel
theorem dX4_until_1 : decode cX4_until 1 = .ok (.invokestatic 50, 3) := by decide +kernel
theorem dX4_until_4 : decode cX4_until 4 = .ok (.ifCond .ne 5, 3) := by decide +kernel
theorem dX4_until_7 : decode cX4_until 7 = .ok (.iconst (-1), 1) := by decide +kernel
theorem dX4_until_8 : decode cX4_until 8 = .ok (.ireturn, 1) := by decide +kernel
theorem dX4_until_9 : decode cX4_until 9 = .ok (.iload_n 2, 1) := by decide +kernel
theorem dX4_until_10 : decode cX4_until 10 = .ok (.iconst 0, 1) := by decide +kernel
theorem dX4_until_11 : decode cX4_until 11 = .ok (.bipush 11, 2) := by decide +kernel
theorem dX4_until_13 : decode cX4_until 13 = .ok (.invokestatic 30, 3) := by decide +kernel
theorem dX4_until_16 : decode cX4_until 16 = .ok (.ifCond .eq 14, 3) := by decide +kernel
theorem dX4_until_19 : decode cX4_until 19 = .ok (.iload_n 3, 1) := by decide +kernel
theorem dX4_until_20 : decode cX4_until 20 = .ok (.iconst 0, 1) := by decide +kernel
theorem dX4_until_21 : decode cX4_until 21 = .ok (.sipush 1000, 3) := by decide +kernel
theorem dX4_until_24 : decode cX4_until 24 = .ok (.invokestatic 30, 3) := by decide +kernel
theorem dX4_until_27 : decode cX4_until 27 = .ok (.ifCond .ne 6, 3) := by decide +kernel
theorem dX4_until_30 : decode cX4_until 30 = .ok (.bipush (-2), 2) := by decide +kernel
theorem dX4_until_32 : decode cX4_until 32 = .ok (.ireturn, 1) := by decide +kernel
theorem dX4_until_33 : decode cX4_until 33 = .ok (.aload_n 0, 1) := by decide +kernel
theorem dX4_until_34 : decode cX4_until 34 = .ok (.getfield 16, 3) := by decide +kernel
theorem dX4_until_37 : decode cX4_until 37 = .ok (.aload_n 0, 1) := by decide +kernel
theorem dX4_until_38 : decode cX4_until 38 = .ok (.getfield 10, 3) := by decide +kernel
theorem dX4_until_41 : decode cX4_until 41 = .ok (.invokevirtual 99, 3) := by decide +kernel
theorem dX4_until_44 : decode cX4_until 44 = .ok (.aload_n 0, 1) := by decide +kernel
theorem dX4_until_45 : decode cX4_until 45 = .ok (.getfield 16, 3) := by decide +kernel
theorem dX4_until_48 : decode cX4_until 48 = .ok (.iload_n 1, 1) := by decide +kernel
theorem dX4_until_49 : decode cX4_until 49 = .ok (.iload_n 2, 1) := by decide +kernel
theorem dX4_until_50 : decode cX4_until 50 = .ok (.iload_n 3, 1) := by decide +kernel
theorem dX4_until_51 : decode cX4_until 51 = .ok (.invokevirtual 103, 3) := by decide +kernel
theorem dX4_until_54 : decode cX4_until 54 = .ok (.ireturn, 1) := by decide +kernel
theorem dX4_save_0 : decode cX4_save 0 = .ok (.iload_n 1, 1) := by decide +kernel
theorem dX4_save_1 : decode cX4_save 1 = .ok (.iconst 0, 1) := by decide +kernel
theorem dX4_save_2 : decode cX4_save 2 = .ok (.aload_n 0, 1) := by decide +kernel
theorem dX4_save_3 : decode cX4_save 3 = .ok (.getfield 19, 3) := by decide +kernel
theorem dX4_save_6 : decode cX4_save 6 = .ok (.arraylength, 1) := by decide +kernel
theorem dX4_save_7 : decode cX4_save 7 = .ok (.iconst 1, 1) := by decide +kernel
theorem dX4_save_8 : decode cX4_save 8 = .ok (.isub, 1) := by decide +kernel
theorem dX4_save_9 : decode cX4_save 9 = .ok (.invokestatic 30, 3) := by decide +kernel
theorem dX4_save_12 : decode cX4_save 12 = .ok (.ifCond .ne 6, 3) := by decide +kernel
theorem dX4_save_15 : decode cX4_save 15 = .ok (.bipush (-2), 2) := by decide +kernel
theorem dX4_save_17 : decode cX4_save 17 = .ok (.ireturn, 1) := by decide +kernel
theorem dX4_save_18 : decode cX4_save 18 = .ok (.aload_n 0, 1) := by decide +kernel
theorem dX4_save_19 : decode cX4_save 19 = .ok (.getfield 19, 3) := by decide +kernel
theorem dX4_save_22 : decode cX4_save 22 = .ok (.iload_n 1, 1) := by decide +kernel
theorem dX4_save_23 : decode cX4_save 23 = .ok (.aaload, 1) := by decide +kernel
theorem dX4_save_24 : decode cX4_save 24 = .ok (.astore_n 2, 1) := by decide +kernel
theorem dX4_save_25 : decode cX4_save 25 = .ok (.aload_n 2, 1) := by decide +kernel
theorem dX4_save_26 : decode cX4_save 26 = .ok (.ifnonnull 18, 3) := by decide +kernel
theorem dX4_save_29 : decode cX4_save 29 = .ok (.new 7, 3) := by decide +kernel
theorem dX4_save_32 : decode cX4_save 32 = .ok (.dup, 1) := by decide +kernel
theorem dX4_save_33 : decode cX4_save 33 = .ok (.invokespecial 9, 3) := by decide +kernel
theorem dX4_save_36 : decode cX4_save 36 = .ok (.astore_n 2, 1) := by decide +kernel
theorem dX4_save_37 : decode cX4_save 37 = .ok (.aload_n 0, 1) := by decide +kernel
theorem dX4_save_38 : decode cX4_save 38 = .ok (.getfield 19, 3) := by decide +kernel
theorem dX4_save_41 : decode cX4_save 41 = .ok (.iload_n 1, 1) := by decide +kernel
theorem dX4_save_42 : decode cX4_save 42 = .ok (.aload_n 2, 1) := by decide +kernel
theorem dX4_save_43 : decode cX4_save 43 = .ok (.aastore, 1) := by decide +kernel
theorem dX4_save_44 : decode cX4_save 44 = .ok (.aload_n 2, 1) := by decide +kernel
theorem dX4_save_45 : decode cX4_save 45 = .ok (.aload_n 0, 1) := by decide +kernel
theorem dX4_save_46 : decode cX4_save 46 = .ok (.getfield 10, 3) := by decide +kernel
theorem dX4_save_49 : decode cX4_save 49 = .ok (.invokevirtual 99, 3) := by decide +kernel
theorem dX4_save_52 : decode cX4_save 52 = .ok (.aload_n 0, 1) := by decide +kernel
theorem dX4_save_53 : decode cX4_save 53 = .ok (.getfield 10, 3) := by decide +kernel
theorem dX4_save_56 : decode cX4_save 56 = .ok (.getfield 71, 3) := by decide +kernel
theorem dX4_save_59 : decode cX4_save 59 = .ok (.ireturn, 1) := by decide +kernel
theorem dX4_restore_0 : decode cX4_restore 0 = .ok (.iload_n 1, 1) := by decide +kernel
theorem dX4_restore_1 : decode cX4_restore 1 = .ok (.iconst 0, 1) := by decide +kernel
theorem dX4_restore_2 : decode cX4_restore 2 = .ok (.aload_n 0, 1) := by decide +kernel
theorem dX4_restore_3 : decode cX4_restore 3 = .ok (.getfield 19, 3) := by decide +kernel
theorem dX4_restore_6 : decode cX4_restore 6 = .ok (.arraylength, 1) := by decide +kernel
theorem dX4_restore_7 : decode cX4_restore 7 = .ok (.iconst 1, 1) := by decide +kernel
theorem dX4_restore_8 : decode cX4_restore 8 = .ok (.isub, 1) := by decide +kernel
theorem dX4_restore_9 : decode cX4_restore 9 = .ok (.invokestatic 30, 3) := by decide +kernel
theorem dX4_restore_12 : decode cX4_restore 12 = .ok (.ifCond .ne 6, 3) := by decide +kernel
theorem dX4_restore_15 : decode cX4_restore 15 = .ok (.bipush (-2), 2) := by decide +kernel
theorem dX4_restore_17 : decode cX4_restore 17 = .ok (.ireturn, 1) := by decide +kernel
theorem dX4_restore_18 : decode cX4_restore 18 = .ok (.aload_n 0, 1) := by decide +kernel
theorem dX4_restore_19 : decode cX4_restore 19 = .ok (.getfield 19, 3) := by decide +kernel
theorem dX4_restore_22 : decode cX4_restore 22 = .ok (.iload_n 1, 1) := by decide +kernel
theorem dX4_restore_23 : decode cX4_restore 23 = .ok (.aaload, 1) := by decide +kernel
theorem dX4_restore_24 : decode cX4_restore 24 = .ok (.astore_n 2, 1) := by decide +kernel
theorem dX4_restore_25 : decode cX4_restore 25 = .ok (.aload_n 2, 1) := by decide +kernel
theorem dX4_restore_26 : decode cX4_restore 26 = .ok (.ifnonnull 6, 3) := by decide +kernel
theorem dX4_restore_29 : decode cX4_restore 29 = .ok (.bipush (-5), 2) := by decide +kernel
theorem dX4_restore_31 : decode cX4_restore 31 = .ok (.ireturn, 1) := by decide +kernel
theorem dX4_restore_32 : decode cX4_restore 32 = .ok (.aload_n 0, 1) := by decide +kernel
theorem dX4_restore_33 : decode cX4_restore 33 = .ok (.getfield 10, 3) := by decide +kernel
theorem dX4_restore_36 : decode cX4_restore 36 = .ok (.aload_n 2, 1) := by decide +kernel
theorem dX4_restore_37 : decode cX4_restore 37 = .ok (.invokevirtual 99, 3) := by decide +kernel
theorem dX4_restore_40 : decode cX4_restore 40 = .ok (.aload_n 0, 1) := by decide +kernel
theorem dX4_restore_41 : decode cX4_restore 41 = .ok (.getfield 10, 3) := by decide +kernel
theorem dX4_restore_44 : decode cX4_restore 44 = .ok (.getfield 71, 3) := by decide +kernel
theorem dX4_restore_47 : decode cX4_restore 47 = .ok (.ireturn, 1) := by decide +kernel
theorem dX4_isLine_0 : decode cX4_isLine 0 = .ok (.iload_n 0, 1) := by decide +kernel
theorem dX4_isLine_1 : decode cX4_isLine 1 = .ok (.iconst 0, 1) := by decide +kernel
theorem dX4_isLine_2 : decode cX4_isLine 2 = .ok (.bipush 15, 2) := by decide +kernel
theorem dX4_isLine_4 : decode cX4_isLine 4 = .ok (.invokestatic 30, 3) := by decide +kernel
theorem dX4_isLine_7 : decode cX4_isLine 7 = .ok (.ireturn, 1) := by decide +kernel
theorem dX4_isWithin_0 : decode cX4_isWithin 0 = .ok (.iload_n 0, 1) := by decide +kernel
theorem dX4_isWithin_1 : decode cX4_isWithin 1 = .ok (.iload_n 1, 1) := by decide +kernel
theorem dX4_isWithin_2 : decode cX4_isWithin 2 = .ok (.if_icmp .lt 12, 3) := by decide +kernel
theorem dX4_isWithin_5 : decode cX4_isWithin 5 = .ok (.iload_n 0, 1) := by decide +kernel
theorem dX4_isWithin_6 : decode cX4_isWithin 6 = .ok (.iload_n 2, 1) := by decide +kernel
theorem dX4_isWithin_7 : decode cX4_isWithin 7 = .ok (.if_icmp .gt 7, 3) := by decide +kernel
theorem dX4_isWithin_10 : decode cX4_isWithin 10 = .ok (.iconst 1, 1) := by decide +kernel
theorem dX4_isWithin_11 : decode cX4_isWithin 11 = .ok (.goto 4, 3) := by decide +kernel
theorem dX4_isWithin_14 : decode cX4_isWithin 14 = .ok (.iconst 0, 1) := by decide +kernel
theorem dX4_isWithin_15 : decode cX4_isWithin 15 = .ok (.ireturn, 1) := by decide +kernel
theorem dL_cell_0 : decode cL_cell 0 = .ok (.aload_n 0, 1) := by decide +kernel
theorem dL_cell_1 : decode cL_cell 1 = .ok (.arraylength, 1) := by decide +kernel
theorem dL_cell_2 : decode cL_cell 2 = .ok (.ifCond .ne 12, 3) := by decide +kernel
theorem dL_cell_5 : decode cL_cell 5 = .ok (.iload_n 1, 1) := by decide +kernel
theorem dL_cell_6 : decode cL_cell 6 = .ok (.bipush 37, 2) := by decide +kernel
theorem dL_cell_8 : decode cL_cell 8 = .ok (.imul, 1) := by decide +kernel
theorem dL_cell_9 : decode cL_cell 9 = .ok (.iconst 5, 1) := by decide +kernel
theorem dL_cell_10 : decode cL_cell 10 = .ok (.iadd, 1) := by decide +kernel
theorem dL_cell_11 : decode cL_cell 11 = .ok (.goto 17, 3) := by decide +kernel
theorem dL_cell_14 : decode cL_cell 14 = .ok (.aload_n 0, 1) := by decide +kernel
theorem dL_cell_15 : decode cL_cell 15 = .ok (.iload_n 1, 1) := by decide +kernel
theorem dL_cell_16 : decode cL_cell 16 = .ok (.aload_n 0, 1) := by decide +kernel
theorem dL_cell_17 : decode cL_cell 17 = .ok (.arraylength, 1) := by decide +kernel
theorem dL_cell_18 : decode cL_cell 18 = .ok (.irem, 1) := by decide +kernel
theorem dL_cell_19 : decode cL_cell 19 = .ok (.iaload, 1) := by decide +kernel
theorem dL_cell_20 : decode cL_cell 20 = .ok (.iload_n 1, 1) := by decide +kernel
theorem dL_cell_21 : decode cL_cell 21 = .ok (.bipush 7, 2) := by decide +kernel
theorem dL_cell_23 : decode cL_cell 23 = .ok (.irem, 1) := by decide +kernel
theorem dL_cell_24 : decode cL_cell 24 = .ok (.ishr, 1) := by decide +kernel
theorem dL_cell_25 : decode cL_cell 25 = .ok (.ldc 7, 2) := by decide +kernel
theorem dL_cell_27 : decode cL_cell 27 = .ok (.iand, 1) := by decide +kernel
theorem dL_cell_28 : decode cL_cell 28 = .ok (.iload_n 2, 1) := by decide +kernel
theorem dL_cell_29 : decode cL_cell 29 = .ok (.irem, 1) := by decide +kernel
theorem dL_cell_30 : decode cL_cell 30 = .ok (.ireturn, 1) := by decide +kernel
theorem dL_fits_0 : decode cL_fits 0 = .ok (.iconst 0, 1) := by decide +kernel
theorem dL_fits_1 : decode cL_fits 1 = .ok (.istore_n 1, 1) := by decide +kernel
theorem dL_fits_2 : decode cL_fits 2 = .ok (.iconst 0, 1) := by decide +kernel
theorem dL_fits_3 : decode cL_fits 3 = .ok (.istore_n 2, 1) := by decide +kernel
theorem dL_fits_4 : decode cL_fits 4 = .ok (.iconst 0, 1) := by decide +kernel
theorem dL_fits_5 : decode cL_fits 5 = .ok (.istore_n 3, 1) := by decide +kernel
theorem dL_fits_6 : decode cL_fits 6 = .ok (.iconst 0, 1) := by decide +kernel
theorem dL_fits_7 : decode cL_fits 7 = .ok (.istore 4, 2) := by decide +kernel
theorem dL_fits_9 : decode cL_fits 9 = .ok (.bipush 16, 2) := by decide +kernel
theorem dL_fits_11 : decode cL_fits 11 = .ok (.newarray .int, 2) := by decide +kernel
theorem dL_fits_13 : decode cL_fits 13 = .ok (.astore 5, 2) := by decide +kernel
theorem dL_fits_15 : decode cL_fits 15 = .ok (.iconst 0, 1) := by decide +kernel
theorem dL_fits_16 : decode cL_fits 16 = .ok (.istore 6, 2) := by decide +kernel
theorem dL_fits_18 : decode cL_fits 18 = .ok (.iload 6, 2) := by decide +kernel
theorem dL_fits_20 : decode cL_fits 20 = .ok (.aload_n 0, 1) := by decide +kernel
theorem dL_fits_21 : decode cL_fits 21 = .ok (.iconst 1, 1) := by decide +kernel
theorem dL_fits_22 : decode cL_fits 22 = .ok (.invokevirtual 8, 3) := by decide +kernel
theorem dL_fits_25 : decode cL_fits 25 = .ok (.if_icmp .ge 489, 3) := by decide +kernel
theorem dL_fits_28 : decode cL_fits 28 = .ok (.aload_n 0, 1) := by decide +kernel
theorem dL_fits_29 : decode cL_fits 29 = .ok (.iload 6, 2) := by decide +kernel
theorem dL_fits_31 : decode cL_fits 31 = .ok (.iconst 0, 1) := by decide +kernel
theorem dL_fits_32 : decode cL_fits 32 = .ok (.invokevirtual 14, 3) := by decide +kernel
theorem dL_fits_35 : decode cL_fits 35 = .ok (.istore 7, 2) := by decide +kernel
theorem dL_fits_37 : decode cL_fits 37 = .ok (.aload_n 0, 1) := by decide +kernel
theorem dL_fits_38 : decode cL_fits 38 = .ok (.iload 6, 2) := by decide +kernel
theorem dL_fits_40 : decode cL_fits 40 = .ok (.iconst 2, 1) := by decide +kernel
theorem dL_fits_41 : decode cL_fits 41 = .ok (.invokevirtual 14, 3) := by decide +kernel
theorem dL_fits_44 : decode cL_fits 44 = .ok (.istore 8, 2) := by decide +kernel
theorem dL_fits_46 : decode cL_fits 46 = .ok (.iload_n 1, 1) := by decide +kernel
theorem dL_fits_47 : decode cL_fits 47 = .ok (.iload 7, 2) := by decide +kernel
theorem dL_fits_49 : decode cL_fits 49 = .ok (.ifCond .ne 7, 3) := by decide +kernel
theorem dL_fits_52 : decode cL_fits 52 = .ok (.iconst 1, 1) := by decide +kernel
theorem dL_fits_53 : decode cL_fits 53 = .ok (.goto 4, 3) := by decide +kernel
theorem dL_fits_56 : decode cL_fits 56 = .ok (.iconst 0, 1) := by decide +kernel
theorem dL_fits_57 : decode cL_fits 57 = .ok (.iadd, 1) := by decide +kernel
theorem dL_fits_58 : decode cL_fits 58 = .ok (.istore_n 1, 1) := by decide +kernel
theorem dL_fits_59 : decode cL_fits 59 = .ok (.iload_n 2, 1) := by decide +kernel
theorem dL_fits_60 : decode cL_fits 60 = .ok (.iload 7, 2) := by decide +kernel
theorem dL_fits_62 : decode cL_fits 62 = .ok (.iconst 4, 1) := by decide +kernel
theorem dL_fits_63 : decode cL_fits 63 = .ok (.if_icmp .le 14, 3) := by decide +kernel
theorem dL_fits_66 : decode cL_fits 66 = .ok (.iload 7, 2) := by decide +kernel
theorem dL_fits_68 : decode cL_fits 68 = .ok (.bipush 9, 2) := by decide +kernel
theorem dL_fits_70 : decode cL_fits 70 = .ok (.if_icmp .ge 7, 3) := by decide +kernel
theorem dL_fits_73 : decode cL_fits 73 = .ok (.iconst 1, 1) := by decide +kernel
theorem dL_fits_74 : decode cL_fits 74 = .ok (.goto 4, 3) := by decide +kernel
theorem dL_fits_77 : decode cL_fits 77 = .ok (.iconst 0, 1) := by decide +kernel
theorem dL_fits_78 : decode cL_fits 78 = .ok (.iadd, 1) := by decide +kernel
theorem dL_fits_79 : decode cL_fits 79 = .ok (.istore_n 2, 1) := by decide +kernel
theorem dL_fits_80 : decode cL_fits 80 = .ok (.iload 7, 2) := by decide +kernel
theorem dL_fits_82 : decode cL_fits 82 = .ok (.ifCond .ne 7, 3) := by decide +kernel
theorem dL_fits_85 : decode cL_fits 85 = .ok (.iconst 1, 1) := by decide +kernel
theorem dL_fits_86 : decode cL_fits 86 = .ok (.goto 4, 3) := by decide +kernel
theorem dL_fits_89 : decode cL_fits 89 = .ok (.iconst 0, 1) := by decide +kernel
theorem dL_fits_90 : decode cL_fits 90 = .ok (.iload 8, 2) := by decide +kernel
theorem dL_fits_92 : decode cL_fits 92 = .ok (.bipush (-6), 2) := by decide +kernel
theorem dL_fits_94 : decode cL_fits 94 = .ok (.if_icmp .ne 7, 3) := by decide +kernel
theorem dL_fits_97 : decode cL_fits 97 = .ok (.iconst 1, 1) := by decide +kernel
theorem dL_fits_98 : decode cL_fits 98 = .ok (.goto 4, 3) := by decide +kernel
theorem dL_fits_101 : decode cL_fits 101 = .ok (.iconst 0, 1) := by decide +kernel
theorem dL_fits_102 : decode cL_fits 102 = .ok (.if_icmp .eq 5, 3) := by decide +kernel
theorem dL_fits_105 : decode cL_fits 105 = .ok (.iconst 0, 1) := by decide +kernel
theorem dL_fits_106 : decode cL_fits 106 = .ok (.ireturn, 1) := by decide +kernel
theorem dL_fits_107 : decode cL_fits 107 = .ok (.iload 8, 2) := by decide +kernel
theorem dL_fits_109 : decode cL_fits 109 = .ok (.ifCond .lt 185, 3) := by decide +kernel
theorem dL_fits_112 : decode cL_fits 112 = .ok (.aload 5, 2) := by decide +kernel
theorem dL_fits_114 : decode cL_fits 114 = .ok (.iload 8, 2) := by decide +kernel
theorem dL_fits_116 : decode cL_fits 116 = .ok (.dup2, 1) := by decide +kernel
theorem dL_fits_117 : decode cL_fits 117 = .ok (.iaload, 1) := by decide +kernel
theorem dL_fits_118 : decode cL_fits 118 = .ok (.iconst 1, 1) := by decide +kernel
theorem dL_fits_119 : decode cL_fits 119 = .ok (.iadd, 1) := by decide +kernel
theorem dL_fits_120 : decode cL_fits 120 = .ok (.iastore, 1) := by decide +kernel
theorem dL_fits_121 : decode cL_fits 121 = .ok (.aload_n 0, 1) := by decide +kernel
theorem dL_fits_122 : decode cL_fits 122 = .ok (.iload 8, 2) := by decide +kernel
theorem dL_fits_124 : decode cL_fits 124 = .ok (.iconst 0, 1) := by decide +kernel
theorem dL_fits_125 : decode cL_fits 125 = .ok (.invokevirtual 18, 3) := by decide +kernel
theorem dL_fits_128 : decode cL_fits 128 = .ok (.istore 9, 2) := by decide +kernel
theorem dL_fits_130 : decode cL_fits 130 = .ok (.iload 7, 2) := by decide +kernel
theorem dL_fits_132 : decode cL_fits 132 = .ok (.iconst 1, 1) := by decide +kernel
theorem dL_fits_133 : decode cL_fits 133 = .ok (.if_icmp .ne 17, 3) := by decide +kernel
theorem dL_fits_136 : decode cL_fits 136 = .ok (.iload 9, 2) := by decide +kernel
theorem dL_fits_138 : decode cL_fits 138 = .ok (.iconst 1, 1) := by decide +kernel
theorem dL_fits_139 : decode cL_fits 139 = .ok (.if_icmp .ne 7, 3) := by decide +kernel
theorem dL_fits_142 : decode cL_fits 142 = .ok (.iconst 1, 1) := by decide +kernel
theorem dL_fits_143 : decode cL_fits 143 = .ok (.goto 110, 3) := by decide +kernel
theorem dL_fits_146 : decode cL_fits 146 = .ok (.iconst 0, 1) := by decide +kernel
theorem dL_fits_147 : decode cL_fits 147 = .ok (.goto 106, 3) := by decide +kernel
theorem dL_fits_150 : decode cL_fits 150 = .ok (.iload 7, 2) := by decide +kernel
theorem dL_fits_152 : decode cL_fits 152 = .ok (.iconst 2, 1) := by decide +kernel
theorem dL_fits_153 : decode cL_fits 153 = .ok (.if_icmp .ne 17, 3) := by decide +kernel
theorem dL_fits_156 : decode cL_fits 156 = .ok (.iload 9, 2) := by decide +kernel
theorem dL_fits_158 : decode cL_fits 158 = .ok (.iconst 2, 1) := by decide +kernel
theorem dL_fits_159 : decode cL_fits 159 = .ok (.if_icmp .ne 7, 3) := by decide +kernel
theorem dL_fits_162 : decode cL_fits 162 = .ok (.iconst 1, 1) := by decide +kernel
theorem dL_fits_163 : decode cL_fits 163 = .ok (.goto 90, 3) := by decide +kernel
theorem dL_fits_166 : decode cL_fits 166 = .ok (.iconst 0, 1) := by decide +kernel
theorem dL_fits_167 : decode cL_fits 167 = .ok (.goto 86, 3) := by decide +kernel
theorem dL_fits_170 : decode cL_fits 170 = .ok (.iload 7, 2) := by decide +kernel
theorem dL_fits_172 : decode cL_fits 172 = .ok (.bipush 7, 2) := by decide +kernel
theorem dL_fits_174 : decode cL_fits 174 = .ok (.if_icmp .ge 17, 3) := by decide +kernel
theorem dL_fits_177 : decode cL_fits 177 = .ok (.iload 9, 2) := by decide +kernel
theorem dL_fits_179 : decode cL_fits 179 = .ok (.iconst 3, 1) := by decide +kernel
theorem dL_fits_180 : decode cL_fits 180 = .ok (.if_icmp .ne 7, 3) := by decide +kernel
theorem dL_fits_183 : decode cL_fits 183 = .ok (.iconst 1, 1) := by decide +kernel
theorem dL_fits_184 : decode cL_fits 184 = .ok (.goto 69, 3) := by decide +kernel
theorem dL_fits_187 : decode cL_fits 187 = .ok (.iconst 0, 1) := by decide +kernel
theorem dL_fits_188 : decode cL_fits 188 = .ok (.goto 65, 3) := by decide +kernel
theorem dL_fits_191 : decode cL_fits 191 = .ok (.iload 7, 2) := by decide +kernel
theorem dL_fits_193 : decode cL_fits 193 = .ok (.bipush 7, 2) := by decide +kernel
theorem dL_fits_195 : decode cL_fits 195 = .ok (.if_icmp .ne 17, 3) := by decide +kernel
theorem dL_fits_198 : decode cL_fits 198 = .ok (.iload 9, 2) := by decide +kernel
theorem dL_fits_200 : decode cL_fits 200 = .ok (.iconst 4, 1) := by decide +kernel
theorem dL_fits_201 : decode cL_fits 201 = .ok (.if_icmp .ne 7, 3) := by decide +kernel
theorem dL_fits_204 : decode cL_fits 204 = .ok (.iconst 1, 1) := by decide +kernel
theorem dL_fits_205 : decode cL_fits 205 = .ok (.goto 48, 3) := by decide +kernel
theorem dL_fits_208 : decode cL_fits 208 = .ok (.iconst 0, 1) := by decide +kernel
theorem dL_fits_209 : decode cL_fits 209 = .ok (.goto 44, 3) := by decide +kernel
theorem dL_fits_212 : decode cL_fits 212 = .ok (.iload 7, 2) := by decide +kernel
theorem dL_fits_214 : decode cL_fits 214 = .ok (.bipush 8, 2) := by decide +kernel
theorem dL_fits_216 : decode cL_fits 216 = .ok (.if_icmp .ne 18, 3) := by decide +kernel
theorem dL_fits_219 : decode cL_fits 219 = .ok (.iload 9, 2) := by decide +kernel
theorem dL_fits_221 : decode cL_fits 221 = .ok (.bipush 6, 2) := by decide +kernel
theorem dL_fits_223 : decode cL_fits 223 = .ok (.if_icmp .ne 7, 3) := by decide +kernel
theorem dL_fits_226 : decode cL_fits 226 = .ok (.iconst 1, 1) := by decide +kernel
theorem dL_fits_227 : decode cL_fits 227 = .ok (.goto 26, 3) := by decide +kernel
theorem dL_fits_230 : decode cL_fits 230 = .ok (.iconst 0, 1) := by decide +kernel
theorem dL_fits_231 : decode cL_fits 231 = .ok (.goto 22, 3) := by decide +kernel
theorem dL_fits_234 : decode cL_fits 234 = .ok (.iload 9, 2) := by decide +kernel
theorem dL_fits_236 : decode cL_fits 236 = .ok (.bipush 8, 2) := by decide +kernel
theorem dL_fits_238 : decode cL_fits 238 = .ok (.if_icmp .eq 10, 3) := by decide +kernel
theorem dL_fits_241 : decode cL_fits 241 = .ok (.iload 9, 2) := by decide +kernel
theorem dL_fits_243 : decode cL_fits 243 = .ok (.bipush 9, 2) := by decide +kernel
theorem dL_fits_245 : decode cL_fits 245 = .ok (.if_icmp .ne 7, 3) := by decide +kernel
theorem dL_fits_248 : decode cL_fits 248 = .ok (.iconst 1, 1) := by decide +kernel
theorem dL_fits_249 : decode cL_fits 249 = .ok (.goto 4, 3) := by decide +kernel
theorem dL_fits_252 : decode cL_fits 252 = .ok (.iconst 0, 1) := by decide +kernel
theorem dL_fits_253 : decode cL_fits 253 = .ok (.istore 10, 2) := by decide +kernel
theorem dL_fits_255 : decode cL_fits 255 = .ok (.iload 10, 2) := by decide +kernel
theorem dL_fits_257 : decode cL_fits 257 = .ok (.ifCond .eq 35, 3) := by decide +kernel
theorem dL_fits_260 : decode cL_fits 260 = .ok (.aload_n 0, 1) := by decide +kernel
theorem dL_fits_261 : decode cL_fits 261 = .ok (.iload 8, 2) := by decide +kernel
theorem dL_fits_263 : decode cL_fits 263 = .ok (.iconst 2, 1) := by decide +kernel
theorem dL_fits_264 : decode cL_fits 264 = .ok (.invokevirtual 18, 3) := by decide +kernel
theorem dL_fits_267 : decode cL_fits 267 = .ok (.iload 6, 2) := by decide +kernel
theorem dL_fits_269 : decode cL_fits 269 = .ok (.if_icmp .ne 23, 3) := by decide +kernel
theorem dL_fits_272 : decode cL_fits 272 = .ok (.aload_n 0, 1) := by decide +kernel
theorem dL_fits_273 : decode cL_fits 273 = .ok (.iload 8, 2) := by decide +kernel
theorem dL_fits_275 : decode cL_fits 275 = .ok (.iconst 1, 1) := by decide +kernel
theorem dL_fits_276 : decode cL_fits 276 = .ok (.invokevirtual 18, 3) := by decide +kernel
theorem dL_fits_279 : decode cL_fits 279 = .ok (.iconst 1, 1) := by decide +kernel
theorem dL_fits_280 : decode cL_fits 280 = .ok (.if_icmp .ne 12, 3) := by decide +kernel
theorem dL_fits_283 : decode cL_fits 283 = .ok (.aload 5, 2) := by decide +kernel
theorem dL_fits_285 : decode cL_fits 285 = .ok (.iload 8, 2) := by decide +kernel
theorem dL_fits_287 : decode cL_fits 287 = .ok (.iaload, 1) := by decide +kernel
theorem dL_fits_288 : decode cL_fits 288 = .ok (.iconst 1, 1) := by decide +kernel
theorem dL_fits_289 : decode cL_fits 289 = .ok (.if_icmp .le 5, 3) := by decide +kernel
theorem dL_fits_292 : decode cL_fits 292 = .ok (.iconst 0, 1) := by decide +kernel
theorem dL_fits_293 : decode cL_fits 293 = .ok (.ireturn, 1) := by decide +kernel
theorem dL_fits_294 : decode cL_fits 294 = .ok (.aload_n 0, 1) := by decide +kernel
theorem dL_fits_295 : decode cL_fits 295 = .ok (.iload 6, 2) := by decide +kernel
theorem dL_fits_297 : decode cL_fits 297 = .ok (.iconst 3, 1) := by decide +kernel
theorem dL_fits_298 : decode cL_fits 298 = .ok (.invokevirtual 14, 3) := by decide +kernel
theorem dL_fits_301 : decode cL_fits 301 = .ok (.istore 9, 2) := by decide +kernel
theorem dL_fits_303 : decode cL_fits 303 = .ok (.iload 7, 2) := by decide +kernel
theorem dL_fits_305 : decode cL_fits 305 = .ok (.iconst 4, 1) := by decide +kernel
theorem dL_fits_306 : decode cL_fits 306 = .ok (.if_icmp .le 40, 3) := by decide +kernel
theorem dL_fits_309 : decode cL_fits 309 = .ok (.iload 7, 2) := by decide +kernel
theorem dL_fits_311 : decode cL_fits 311 = .ok (.bipush 9, 2) := by decide +kernel
theorem dL_fits_313 : decode cL_fits 313 = .ok (.if_icmp .ge 33, 3) := by decide +kernel
theorem dL_fits_316 : decode cL_fits 316 = .ok (.aload_n 0, 1) := by decide +kernel
theorem dL_fits_317 : decode cL_fits 317 = .ok (.iload 9, 2) := by decide +kernel
theorem dL_fits_319 : decode cL_fits 319 = .ok (.aload_n 0, 1) := by decide +kernel
theorem dL_fits_320 : decode cL_fits 320 = .ok (.iload 6, 2) := by decide +kernel
theorem dL_fits_322 : decode cL_fits 322 = .ok (.iconst 4, 1) := by decide +kernel
theorem dL_fits_323 : decode cL_fits 323 = .ok (.invokevirtual 14, 3) := by decide +kernel
theorem dL_fits_326 : decode cL_fits 326 = .ok (.invokevirtual 21, 3) := by decide +kernel
theorem dL_fits_329 : decode cL_fits 329 = .ok (.iload 6, 2) := by decide +kernel
theorem dL_fits_331 : decode cL_fits 331 = .ok (.if_icmp .ne 51, 3) := by decide +kernel
theorem dL_fits_334 : decode cL_fits 334 = .ok (.iload 9, 2) := by decide +kernel
theorem dL_fits_336 : decode cL_fits 336 = .ok (.iconst 1, 1) := by decide +kernel
theorem dL_fits_337 : decode cL_fits 337 = .ok (.if_icmp .lt 45, 3) := by decide +kernel
theorem dL_fits_340 : decode cL_fits 340 = .ok (.iload 9, 2) := by decide +kernel
theorem dL_fits_342 : decode cL_fits 342 = .ok (.iconst 4, 1) := by decide +kernel
theorem dL_fits_343 : decode cL_fits 343 = .ok (.if_icmp .gt 39, 3) := by decide +kernel
theorem dL_fits_346 : decode cL_fits 346 = .ok (.iload 7, 2) := by decide +kernel
theorem dL_fits_348 : decode cL_fits 348 = .ok (.iconst 3, 1) := by decide +kernel
theorem dL_fits_349 : decode cL_fits 349 = .ok (.if_icmp .ge 8, 3) := by decide +kernel
theorem dL_fits_352 : decode cL_fits 352 = .ok (.iload 9, 2) := by decide +kernel
theorem dL_fits_354 : decode cL_fits 354 = .ok (.ifCond .ne 28, 3) := by decide +kernel
theorem dL_fits_357 : decode cL_fits 357 = .ok (.iload 7, 2) := by decide +kernel
theorem dL_fits_359 : decode cL_fits 359 = .ok (.iconst 4, 1) := by decide +kernel
theorem dL_fits_360 : decode cL_fits 360 = .ok (.if_icmp .lt 10, 3) := by decide +kernel
theorem dL_fits_363 : decode cL_fits 363 = .ok (.iload 7, 2) := by decide +kernel
theorem dL_fits_365 : decode cL_fits 365 = .ok (.bipush 9, 2) := by decide +kernel
theorem dL_fits_367 : decode cL_fits 367 = .ok (.if_icmp .ne 17, 3) := by decide +kernel
theorem dL_fits_370 : decode cL_fits 370 = .ok (.aload_n 0, 1) := by decide +kernel
theorem dL_fits_371 : decode cL_fits 371 = .ok (.iload 6, 2) := by decide +kernel
theorem dL_fits_373 : decode cL_fits 373 = .ok (.iconst 4, 1) := by decide +kernel
theorem dL_fits_374 : decode cL_fits 374 = .ok (.invokevirtual 14, 3) := by decide +kernel
theorem dL_fits_377 : decode cL_fits 377 = .ok (.bipush (-6), 2) := by decide +kernel
theorem dL_fits_379 : decode cL_fits 379 = .ok (.if_icmp .eq 5, 3) := by decide +kernel
theorem dL_fits_382 : decode cL_fits 382 = .ok (.iconst 0, 1) := by decide +kernel
theorem dL_fits_383 : decode cL_fits 383 = .ok (.ireturn, 1) := by decide +kernel
theorem dL_fits_384 : decode cL_fits 384 = .ok (.iload 7, 2) := by decide +kernel
theorem dL_fits_386 : decode cL_fits 386 = .ok (.bipush 7, 2) := by decide +kernel
theorem dL_fits_388 : decode cL_fits 388 = .ok (.if_icmp .eq 10, 3) := by decide +kernel
theorem dL_fits_391 : decode cL_fits 391 = .ok (.iload 7, 2) := by decide +kernel
theorem dL_fits_393 : decode cL_fits 393 = .ok (.bipush 8, 2) := by decide +kernel
theorem dL_fits_395 : decode cL_fits 395 = .ok (.if_icmp .ne 113, 3) := by decide +kernel
theorem dL_fits_398 : decode cL_fits 398 = .ok (.aload_n 0, 1) := by decide +kernel
theorem dL_fits_399 : decode cL_fits 399 = .ok (.iload 8, 2) := by decide +kernel
theorem dL_fits_401 : decode cL_fits 401 = .ok (.iconst 3, 1) := by decide +kernel
theorem dL_fits_402 : decode cL_fits 402 = .ok (.invokevirtual 18, 3) := by decide +kernel
theorem dL_fits_405 : decode cL_fits 405 = .ok (.istore 10, 2) := by decide +kernel
theorem dL_fits_407 : decode cL_fits 407 = .ok (.aload_n 0, 1) := by decide +kernel
theorem dL_fits_408 : decode cL_fits 408 = .ok (.iload 10, 2) := by decide +kernel
theorem dL_fits_410 : decode cL_fits 410 = .ok (.iconst 0, 1) := by decide +kernel
theorem dL_fits_411 : decode cL_fits 411 = .ok (.invokevirtual 18, 3) := by decide +kernel
theorem dL_fits_414 : decode cL_fits 414 = .ok (.iload 7, 2) := by decide +kernel
theorem dL_fits_416 : decode cL_fits 416 = .ok (.bipush 7, 2) := by decide +kernel
theorem dL_fits_418 : decode cL_fits 418 = .ok (.if_icmp .ne 7, 3) := by decide +kernel
theorem dL_fits_421 : decode cL_fits 421 = .ok (.iconst 5, 1) := by decide +kernel
theorem dL_fits_422 : decode cL_fits 422 = .ok (.goto 5, 3) := by decide +kernel
theorem dL_fits_425 : decode cL_fits 425 = .ok (.bipush 7, 2) := by decide +kernel
theorem dL_fits_427 : decode cL_fits 427 = .ok (.if_icmp .ne 79, 3) := by decide +kernel
theorem dL_fits_430 : decode cL_fits 430 = .ok (.aload_n 0, 1) := by decide +kernel
theorem dL_fits_431 : decode cL_fits 431 = .ok (.iload 10, 2) := by decide +kernel
theorem dL_fits_433 : decode cL_fits 433 = .ok (.iconst 3, 1) := by decide +kernel
theorem dL_fits_434 : decode cL_fits 434 = .ok (.invokevirtual 18, 3) := by decide +kernel
theorem dL_fits_437 : decode cL_fits 437 = .ok (.iload 8, 2) := by decide +kernel
theorem dL_fits_439 : decode cL_fits 439 = .ok (.if_icmp .ne 67, 3) := by decide +kernel
theorem dL_fits_442 : decode cL_fits 442 = .ok (.aload_n 0, 1) := by decide +kernel
theorem dL_fits_443 : decode cL_fits 443 = .ok (.iload 10, 2) := by decide +kernel
theorem dL_fits_445 : decode cL_fits 445 = .ok (.iconst 2, 1) := by decide +kernel
theorem dL_fits_446 : decode cL_fits 446 = .ok (.invokevirtual 18, 3) := by decide +kernel
theorem dL_fits_449 : decode cL_fits 449 = .ok (.iload 6, 2) := by decide +kernel
theorem dL_fits_451 : decode cL_fits 451 = .ok (.if_icmp .ne 55, 3) := by decide +kernel
theorem dL_fits_454 : decode cL_fits 454 = .ok (.aload_n 0, 1) := by decide +kernel
theorem dL_fits_455 : decode cL_fits 455 = .ok (.iload 10, 2) := by decide +kernel
theorem dL_fits_457 : decode cL_fits 457 = .ok (.iconst 0, 1) := by decide +kernel
theorem dL_fits_458 : decode cL_fits 458 = .ok (.invokevirtual 24, 3) := by decide +kernel
theorem dL_fits_461 : decode cL_fits 461 = .ok (.aload_n 0, 1) := by decide +kernel
theorem dL_fits_462 : decode cL_fits 462 = .ok (.iload 6, 2) := by decide +kernel
theorem dL_fits_464 : decode cL_fits 464 = .ok (.iconst 4, 1) := by decide +kernel
theorem dL_fits_465 : decode cL_fits 465 = .ok (.invokevirtual 14, 3) := by decide +kernel
theorem dL_fits_468 : decode cL_fits 468 = .ok (.if_icmp .ne 38, 3) := by decide +kernel
theorem dL_fits_471 : decode cL_fits 471 = .ok (.aload_n 0, 1) := by decide +kernel
theorem dL_fits_472 : decode cL_fits 472 = .ok (.iload 10, 2) := by decide +kernel
theorem dL_fits_474 : decode cL_fits 474 = .ok (.iconst 1, 1) := by decide +kernel
theorem dL_fits_475 : decode cL_fits 475 = .ok (.invokevirtual 24, 3) := by decide +kernel
theorem dL_fits_478 : decode cL_fits 478 = .ok (.iload 6, 2) := by decide +kernel
theorem dL_fits_480 : decode cL_fits 480 = .ok (.if_icmp .ne 26, 3) := by decide +kernel
theorem dL_fits_483 : decode cL_fits 483 = .ok (.aload_n 0, 1) := by decide +kernel
theorem dL_fits_484 : decode cL_fits 484 = .ok (.iload 10, 2) := by decide +kernel
theorem dL_fits_486 : decode cL_fits 486 = .ok (.iconst 2, 1) := by decide +kernel
theorem dL_fits_487 : decode cL_fits 487 = .ok (.invokevirtual 24, 3) := by decide +kernel
theorem dL_fits_490 : decode cL_fits 490 = .ok (.iload 8, 2) := by decide +kernel
theorem dL_fits_492 : decode cL_fits 492 = .ok (.if_icmp .ne 14, 3) := by decide +kernel
theorem dL_fits_495 : decode cL_fits 495 = .ok (.iload 10, 2) := by decide +kernel
theorem dL_fits_497 : decode cL_fits 497 = .ok (.iconst 4, 1) := by decide +kernel
theorem dL_fits_498 : decode cL_fits 498 = .ok (.idiv, 1) := by decide +kernel
theorem dL_fits_499 : decode cL_fits 499 = .ok (.iconst 1, 1) := by decide +kernel
theorem dL_fits_500 : decode cL_fits 500 = .ok (.iadd, 1) := by decide +kernel
theorem dL_fits_501 : decode cL_fits 501 = .ok (.iload 9, 2) := by decide +kernel
theorem dL_fits_503 : decode cL_fits 503 = .ok (.if_icmp .eq 5, 3) := by decide +kernel
theorem dL_fits_506 : decode cL_fits 506 = .ok (.iconst 0, 1) := by decide +kernel
theorem dL_fits_507 : decode cL_fits 507 = .ok (.ireturn, 1) := by decide +kernel
theorem dL_fits_508 : decode cL_fits 508 = .ok (.iinc 6 1, 3) := by decide +kernel
theorem dL_fits_511 : decode cL_fits 511 = .ok (.goto (-493), 3) := by decide +kernel
theorem dL_fits_514 : decode cL_fits 514 = .ok (.iconst 0, 1) := by decide +kernel
theorem dL_fits_515 : decode cL_fits 515 = .ok (.istore 6, 2) := by decide +kernel
theorem dL_fits_517 : decode cL_fits 517 = .ok (.iconst 0, 1) := by decide +kernel
theorem dL_fits_518 : decode cL_fits 518 = .ok (.istore 7, 2) := by decide +kernel
theorem dL_fits_520 : decode cL_fits 520 = .ok (.iconst 0, 1) := by decide +kernel
theorem dL_fits_521 : decode cL_fits 521 = .ok (.istore 8, 2) := by decide +kernel
theorem dL_fits_523 : decode cL_fits 523 = .ok (.iload 8, 2) := by decide +kernel
theorem dL_fits_525 : decode cL_fits 525 = .ok (.bipush 16, 2) := by decide +kernel
theorem dL_fits_527 : decode cL_fits 527 = .ok (.if_icmp .ge 322, 3) := by decide +kernel
theorem dL_fits_530 : decode cL_fits 530 = .ok (.aload_n 0, 1) := by decide +kernel
theorem dL_fits_531 : decode cL_fits 531 = .ok (.iload 8, 2) := by decide +kernel
theorem dL_fits_533 : decode cL_fits 533 = .ok (.iconst 0, 1) := by decide +kernel
theorem dL_fits_534 : decode cL_fits 534 = .ok (.invokevirtual 18, 3) := by decide +kernel
theorem dL_fits_537 : decode cL_fits 537 = .ok (.istore 9, 2) := by decide +kernel
theorem dL_fits_539 : decode cL_fits 539 = .ok (.iload_n 3, 1) := by decide +kernel
theorem dL_fits_540 : decode cL_fits 540 = .ok (.aload_n 0, 1) := by decide +kernel
theorem dL_fits_541 : decode cL_fits 541 = .ok (.iload 8, 2) := by decide +kernel
theorem dL_fits_543 : decode cL_fits 543 = .ok (.iconst 1, 1) := by decide +kernel
theorem dL_fits_544 : decode cL_fits 544 = .ok (.invokevirtual 18, 3) := by decide +kernel
theorem dL_fits_547 : decode cL_fits 547 = .ok (.iadd, 1) := by decide +kernel
theorem dL_fits_548 : decode cL_fits 548 = .ok (.istore_n 3, 1) := by decide +kernel
theorem dL_fits_549 : decode cL_fits 549 = .ok (.iload 4, 2) := by decide +kernel
theorem dL_fits_551 : decode cL_fits 551 = .ok (.aload_n 0, 1) := by decide +kernel
theorem dL_fits_552 : decode cL_fits 552 = .ok (.iload 8, 2) := by decide +kernel
theorem dL_fits_554 : decode cL_fits 554 = .ok (.iconst 5, 1) := by decide +kernel
theorem dL_fits_555 : decode cL_fits 555 = .ok (.invokevirtual 18, 3) := by decide +kernel
theorem dL_fits_558 : decode cL_fits 558 = .ok (.iadd, 1) := by decide +kernel
theorem dL_fits_559 : decode cL_fits 559 = .ok (.istore 4, 2) := by decide +kernel
theorem dL_fits_561 : decode cL_fits 561 = .ok (.iload 6, 2) := by decide +kernel
theorem dL_fits_563 : decode cL_fits 563 = .ok (.iload 9, 2) := by decide +kernel
theorem dL_fits_565 : decode cL_fits 565 = .ok (.iconst 5, 1) := by decide +kernel
theorem dL_fits_566 : decode cL_fits 566 = .ok (.if_icmp .eq 10, 3) := by decide +kernel
theorem dL_fits_569 : decode cL_fits 569 = .ok (.iload 9, 2) := by decide +kernel
theorem dL_fits_571 : decode cL_fits 571 = .ok (.bipush 7, 2) := by decide +kernel
theorem dL_fits_573 : decode cL_fits 573 = .ok (.if_icmp .ne 7, 3) := by decide +kernel
theorem dL_fits_576 : decode cL_fits 576 = .ok (.iconst 1, 1) := by decide +kernel
theorem dL_fits_577 : decode cL_fits 577 = .ok (.goto 4, 3) := by decide +kernel
theorem dL_fits_580 : decode cL_fits 580 = .ok (.iconst 0, 1) := by decide +kernel
theorem dL_fits_581 : decode cL_fits 581 = .ok (.iadd, 1) := by decide +kernel
theorem dL_fits_582 : decode cL_fits 582 = .ok (.istore 6, 2) := by decide +kernel
theorem dL_fits_584 : decode cL_fits 584 = .ok (.iload 6, 2) := by decide +kernel
theorem dL_fits_586 : decode cL_fits 586 = .ok (.iload 9, 2) := by decide +kernel
theorem dL_fits_588 : decode cL_fits 588 = .ok (.iconst 4, 1) := by decide +kernel
theorem dL_fits_589 : decode cL_fits 589 = .ok (.if_icmp .eq 10, 3) := by decide +kernel
theorem dL_fits_592 : decode cL_fits 592 = .ok (.iload 9, 2) := by decide +kernel
theorem dL_fits_594 : decode cL_fits 594 = .ok (.bipush 6, 2) := by decide +kernel
theorem dL_fits_596 : decode cL_fits 596 = .ok (.if_icmp .ne 7, 3) := by decide +kernel
theorem dL_fits_599 : decode cL_fits 599 = .ok (.iconst 1, 1) := by decide +kernel
theorem dL_fits_600 : decode cL_fits 600 = .ok (.goto 4, 3) := by decide +kernel
theorem dL_fits_603 : decode cL_fits 603 = .ok (.iconst 0, 1) := by decide +kernel
theorem dL_fits_604 : decode cL_fits 604 = .ok (.isub, 1) := by decide +kernel
theorem dL_fits_605 : decode cL_fits 605 = .ok (.istore 6, 2) := by decide +kernel
theorem dL_fits_607 : decode cL_fits 607 = .ok (.iload 9, 2) := by decide +kernel
theorem dL_fits_609 : decode cL_fits 609 = .ok (.iconst 2, 1) := by decide +kernel
theorem dL_fits_610 : decode cL_fits 610 = .ok (.if_icmp .eq 36, 3) := by decide +kernel
theorem dL_fits_613 : decode cL_fits 613 = .ok (.iload 9, 2) := by decide +kernel
theorem dL_fits_615 : decode cL_fits 615 = .ok (.iconst 3, 1) := by decide +kernel
theorem dL_fits_616 : decode cL_fits 616 = .ok (.if_icmp .eq 30, 3) := by decide +kernel
theorem dL_fits_619 : decode cL_fits 619 = .ok (.iload 9, 2) := by decide +kernel
theorem dL_fits_621 : decode cL_fits 621 = .ok (.iconst 4, 1) := by decide +kernel
theorem dL_fits_622 : decode cL_fits 622 = .ok (.if_icmp .eq 24, 3) := by decide +kernel
theorem dL_fits_625 : decode cL_fits 625 = .ok (.iload 9, 2) := by decide +kernel
theorem dL_fits_627 : decode cL_fits 627 = .ok (.bipush 6, 2) := by decide +kernel
theorem dL_fits_629 : decode cL_fits 629 = .ok (.if_icmp .eq 17, 3) := by decide +kernel
theorem dL_fits_632 : decode cL_fits 632 = .ok (.iload 9, 2) := by decide +kernel
theorem dL_fits_634 : decode cL_fits 634 = .ok (.bipush 8, 2) := by decide +kernel
theorem dL_fits_636 : decode cL_fits 636 = .ok (.if_icmp .eq 10, 3) := by decide +kernel
theorem dL_fits_639 : decode cL_fits 639 = .ok (.iload 9, 2) := by decide +kernel
theorem dL_fits_641 : decode cL_fits 641 = .ok (.bipush 9, 2) := by decide +kernel
theorem dL_fits_643 : decode cL_fits 643 = .ok (.if_icmp .ne 7, 3) := by decide +kernel
theorem dL_fits_646 : decode cL_fits 646 = .ok (.iconst 1, 1) := by decide +kernel
theorem dL_fits_647 : decode cL_fits 647 = .ok (.goto 4, 3) := by decide +kernel
theorem dL_fits_650 : decode cL_fits 650 = .ok (.iconst 0, 1) := by decide +kernel
theorem dL_fits_651 : decode cL_fits 651 = .ok (.istore 10, 2) := by decide +kernel
theorem dL_fits_653 : decode cL_fits 653 = .ok (.iload 10, 2) := by decide +kernel
theorem dL_fits_655 : decode cL_fits 655 = .ok (.aload 5, 2) := by decide +kernel
theorem dL_fits_657 : decode cL_fits 657 = .ok (.iload 8, 2) := by decide +kernel
theorem dL_fits_659 : decode cL_fits 659 = .ok (.iaload, 1) := by decide +kernel
theorem dL_fits_660 : decode cL_fits 660 = .ok (.iconst 1, 1) := by decide +kernel
theorem dL_fits_661 : decode cL_fits 661 = .ok (.if_icmp .ne 13, 3) := by decide +kernel
