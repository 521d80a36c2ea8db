theorem dX5_set_0 : decode cX5_set 0 = .ok (.iload_n 1, 1) := by decide +kernel
theorem dX5_set_1 : decode cX5_set 1 = .ok (.iload_n 2, 1) := by decide +kernel
theorem dX5_set_2 : decode cX5_set 2 = .ok (.invokestatic 49, 3) := by decide +kernel
theorem dX5_set_5 : decode cX5_set 5 = .ok (.ifCond .ne 6, 3) := by decide +kernel
theorem dX5_set_8 : decode cX5_set 8 = .ok (.bipush (-2), 2) := by decide +kernel
theorem dX5_set_10 : decode cX5_set 10 = .ok (.ireturn, 1) := by decide +kernel
theorem dX5_set_11 : decode cX5_set 11 = .ok (.aload_n 0, 1) := by decide +kernel
theorem dX5_set_12 : decode cX5_set 12 = .ok (.iload_n 1, 1) := by decide +kernel
theorem dX5_set_13 : decode cX5_set 13 = .ok (.invokevirtual 53, 3) := by decide +kernel
theorem dX5_set_16 : decode cX5_set 16 = .ok (.istore_n 3, 1) := by decide +kernel
theorem dX5_set_17 : decode cX5_set 17 = .ok (.aload_n 0, 1) := by decide +kernel
theorem dX5_set_18 : decode cX5_set 18 = .ok (.getfield 7, 3) := by decide +kernel
theorem dX5_set_21 : decode cX5_set 21 = .ok (.iconst 5, 1) := by decide +kernel
theorem dX5_set_22 : decode cX5_set 22 = .ok (.iload_n 1, 1) := by decide +kernel
theorem dX5_set_23 : decode cX5_set 23 = .ok (.iadd, 1) := by decide +kernel
theorem dX5_set_24 : decode cX5_set 24 = .ok (.iload_n 2, 1) := by decide +kernel
theorem dX5_set_25 : decode cX5_set 25 = .ok (.iastore, 1) := by decide +kernel
theorem dX5_set_26 : decode cX5_set 26 = .ok (.iload_n 3, 1) := by decide +kernel
theorem dX5_set_27 : decode cX5_set 27 = .ok (.ireturn, 1) := by decide +kernel
theorem dX5_isLine_0 : decode cX5_isLine 0 = .ok (.iload_n 0, 1) := by decide +kernel
theorem dX5_isLine_1 : decode cX5_isLine 1 = .ok (.iconst 0, 1) := by decide +kernel
theorem dX5_isLine_2 : decode cX5_isLine 2 = .ok (.bipush 15, 2) := by decide +kernel
theorem dX5_isLine_4 : decode cX5_isLine 4 = .ok (.invokestatic 33, 3) := by decide +kernel
theorem dX5_isLine_7 : decode cX5_isLine 7 = .ok (.ireturn, 1) := by decide +kernel
theorem dX5_isFinder_0 : decode cX5_isFinder 0 = .ok (.iload_n 1, 1) := by decide +kernel
theorem dX5_isFinder_1 : decode cX5_isFinder 1 = .ok (.iconst 0, 1) := by decide +kernel
theorem dX5_isFinder_2 : decode cX5_isFinder 2 = .ok (.aload_n 0, 1) := by decide +kernel
theorem dX5_isFinder_3 : decode cX5_isFinder 3 = .ok (.getfield 7, 3) := by decide +kernel
theorem dX5_isFinder_6 : decode cX5_isFinder 6 = .ok (.iconst 1, 1) := by decide +kernel
theorem dX5_isFinder_7 : decode cX5_isFinder 7 = .ok (.iaload, 1) := by decide +kernel
theorem dX5_isFinder_8 : decode cX5_isFinder 8 = .ok (.iconst 1, 1) := by decide +kernel
theorem dX5_isFinder_9 : decode cX5_isFinder 9 = .ok (.isub, 1) := by decide +kernel
theorem dX5_isFinder_10 : decode cX5_isFinder 10 = .ok (.invokestatic 33, 3) := by decide +kernel
theorem dX5_isFinder_13 : decode cX5_isFinder 13 = .ok (.ireturn, 1) := by decide +kernel
theorem dX5_finderOf_0 : decode cX5_finderOf 0 = .ok (.iconst 0, 1) := by decide +kernel
theorem dX5_finderOf_1 : decode cX5_finderOf 1 = .ok (.istore_n 2, 1) := by decide +kernel
theorem dX5_finderOf_2 : decode cX5_finderOf 2 = .ok (.iload_n 2, 1) := by decide +kernel
theorem dX5_finderOf_3 : decode cX5_finderOf 3 = .ok (.aload_n 0, 1) := by decide +kernel
theorem dX5_finderOf_4 : decode cX5_finderOf 4 = .ok (.getfield 7, 3) := by decide +kernel
theorem dX5_finderOf_7 : decode cX5_finderOf 7 = .ok (.iconst 1, 1) := by decide +kernel
theorem dX5_finderOf_8 : decode cX5_finderOf 8 = .ok (.iaload, 1) := by decide +kernel
theorem dX5_finderOf_9 : decode cX5_finderOf 9 = .ok (.if_icmp .ge 30, 3) := by decide +kernel
theorem dX5_finderOf_12 : decode cX5_finderOf 12 = .ok (.aload_n 0, 1) := by decide +kernel
theorem dX5_finderOf_13 : decode cX5_finderOf 13 = .ok (.iload_n 2, 1) := by decide +kernel
theorem dX5_finderOf_14 : decode cX5_finderOf 14 = .ok (.iconst 0, 1) := by decide +kernel
theorem dX5_finderOf_15 : decode cX5_finderOf 15 = .ok (.invokevirtual 41, 3) := by decide +kernel
theorem dX5_finderOf_18 : decode cX5_finderOf 18 = .ok (.ifCond .eq 15, 3) := by decide +kernel
theorem dX5_finderOf_21 : decode cX5_finderOf 21 = .ok (.aload_n 0, 1) := by decide +kernel
theorem dX5_finderOf_22 : decode cX5_finderOf 22 = .ok (.iload_n 2, 1) := by decide +kernel
theorem dX5_finderOf_23 : decode cX5_finderOf 23 = .ok (.iconst 2, 1) := by decide +kernel
theorem dX5_finderOf_24 : decode cX5_finderOf 24 = .ok (.invokevirtual 41, 3) := by decide +kernel
theorem dX5_finderOf_27 : decode cX5_finderOf 27 = .ok (.iload_n 1, 1) := by decide +kernel
theorem dX5_finderOf_28 : decode cX5_finderOf 28 = .ok (.if_icmp .ne 5, 3) := by decide +kernel
theorem dX5_finderOf_31 : decode cX5_finderOf 31 = .ok (.iload_n 2, 1) := by decide +kernel
theorem dX5_finderOf_32 : decode cX5_finderOf 32 = .ok (.ireturn, 1) := by decide +kernel
theorem dX5_finderOf_33 : decode cX5_finderOf 33 = .ok (.iinc 2 1, 3) := by decide +kernel
theorem dX5_finderOf_36 : decode cX5_finderOf 36 = .ok (.goto (-34), 3) := by decide +kernel
theorem dX5_finderOf_39 : decode cX5_finderOf 39 = .ok (.bipush (-6), 2) := by decide +kernel
theorem dX5_finderOf_41 : decode cX5_finderOf 41 = .ok (.ireturn, 1) := by decide +kernel
theorem dX5_isHolding_0 : decode cX5_isHolding 0 = .ok (.aload_n 0, 1) := by decide +kernel
theorem dX5_isHolding_1 : decode cX5_isHolding 1 = .ok (.iload_n 1, 1) := by decide +kernel
theorem dX5_isHolding_2 : decode cX5_isHolding 2 = .ok (.iconst 0, 1) := by decide +kernel
theorem dX5_isHolding_3 : decode cX5_isHolding 3 = .ok (.invokevirtual 41, 3) := by decide +kernel
theorem dX5_isHolding_6 : decode cX5_isHolding 6 = .ok (.iconst 5, 1) := by decide +kernel
theorem dX5_isHolding_7 : decode cX5_isHolding 7 = .ok (.bipush 8, 2) := by decide +kernel
theorem dX5_isHolding_9 : decode cX5_isHolding 9 = .ok (.invokestatic 33, 3) := by decide +kernel
theorem dX5_isHolding_12 : decode cX5_isHolding 12 = .ok (.ireturn, 1) := by decide +kernel
theorem dX5_holder_0 : decode cX5_holder 0 = .ok (.iconst 0, 1) := by decide +kernel
theorem dX5_holder_1 : decode cX5_holder 1 = .ok (.istore_n 3, 1) := by decide +kernel
theorem dX5_holder_2 : decode cX5_holder 2 = .ok (.iload_n 3, 1) := by decide +kernel
theorem dX5_holder_3 : decode cX5_holder 3 = .ok (.aload_n 0, 1) := by decide +kernel
theorem dX5_holder_4 : decode cX5_holder 4 = .ok (.getfield 7, 3) := by decide +kernel
theorem dX5_holder_7 : decode cX5_holder 7 = .ok (.iconst 1, 1) := by decide +kernel
theorem dX5_holder_8 : decode cX5_holder 8 = .ok (.iaload, 1) := by decide +kernel
theorem dX5_holder_9 : decode cX5_holder 9 = .ok (.if_icmp .ge 39, 3) := by decide +kernel
theorem dX5_holder_12 : decode cX5_holder 12 = .ok (.aload_n 0, 1) := by decide +kernel
theorem dX5_holder_13 : decode cX5_holder 13 = .ok (.iload_n 3, 1) := by decide +kernel
theorem dX5_holder_14 : decode cX5_holder 14 = .ok (.invokevirtual 57, 3) := by decide +kernel
theorem dX5_holder_17 : decode cX5_holder 17 = .ok (.ifCond .eq 25, 3) := by decide +kernel
theorem dX5_holder_20 : decode cX5_holder 20 = .ok (.aload_n 0, 1) := by decide +kernel
theorem dX5_holder_21 : decode cX5_holder 21 = .ok (.iload_n 3, 1) := by decide +kernel
theorem dX5_holder_22 : decode cX5_holder 22 = .ok (.iconst 3, 1) := by decide +kernel
theorem dX5_holder_23 : decode cX5_holder 23 = .ok (.invokevirtual 41, 3) := by decide +kernel
theorem dX5_holder_26 : decode cX5_holder 26 = .ok (.iload_n 1, 1) := by decide +kernel
theorem dX5_holder_27 : decode cX5_holder 27 = .ok (.if_icmp .ne 15, 3) := by decide +kernel
theorem dX5_holder_30 : decode cX5_holder 30 = .ok (.aload_n 0, 1) := by decide +kernel
theorem dX5_holder_31 : decode cX5_holder 31 = .ok (.iload_n 3, 1) := by decide +kernel
theorem dX5_holder_32 : decode cX5_holder 32 = .ok (.iconst 4, 1) := by decide +kernel
theorem dX5_holder_33 : decode cX5_holder 33 = .ok (.invokevirtual 41, 3) := by decide +kernel
theorem dX5_holder_36 : decode cX5_holder 36 = .ok (.iload_n 2, 1) := by decide +kernel
theorem dX5_holder_37 : decode cX5_holder 37 = .ok (.if_icmp .ne 5, 3) := by decide +kernel
theorem dX5_holder_40 : decode cX5_holder 40 = .ok (.iload_n 3, 1) := by decide +kernel
theorem dX5_holder_41 : decode cX5_holder 41 = .ok (.ireturn, 1) := by decide +kernel
theorem dX5_holder_42 : decode cX5_holder 42 = .ok (.iinc 3 1, 3) := by decide +kernel
theorem dX5_holder_45 : decode cX5_holder 45 = .ok (.goto (-43), 3) := by decide +kernel
theorem dX5_holder_48 : decode cX5_holder 48 = .ok (.bipush (-6), 2) := by decide +kernel
theorem dX5_holder_50 : decode cX5_holder 50 = .ok (.ireturn, 1) := by decide +kernel
theorem dX5_finderTo_0 : decode cX5_finderTo 0 = .ok (.iconst 0, 1) := by decide +kernel
theorem dX5_finderTo_1 : decode cX5_finderTo 1 = .ok (.istore_n 2, 1) := by decide +kernel
theorem dX5_finderTo_2 : decode cX5_finderTo 2 = .ok (.iload_n 2, 1) := by decide +kernel
theorem dX5_finderTo_3 : decode cX5_finderTo 3 = .ok (.aload_n 0, 1) := by decide +kernel
theorem dX5_finderTo_4 : decode cX5_finderTo 4 = .ok (.getfield 7, 3) := by decide +kernel
theorem dX5_finderTo_7 : decode cX5_finderTo 7 = .ok (.iconst 1, 1) := by decide +kernel
theorem dX5_finderTo_8 : decode cX5_finderTo 8 = .ok (.iaload, 1) := by decide +kernel
theorem dX5_finderTo_9 : decode cX5_finderTo 9 = .ok (.if_icmp .ge 38, 3) := by decide +kernel
theorem dX5_finderTo_12 : decode cX5_finderTo 12 = .ok (.aload_n 0, 1) := by decide +kernel
theorem dX5_finderTo_13 : decode cX5_finderTo 13 = .ok (.iload_n 2, 1) := by decide +kernel
theorem dX5_finderTo_14 : decode cX5_finderTo 14 = .ok (.iconst 0, 1) := by decide +kernel
theorem dX5_finderTo_15 : decode cX5_finderTo 15 = .ok (.invokevirtual 41, 3) := by decide +kernel
theorem dX5_finderTo_18 : decode cX5_finderTo 18 = .ok (.bipush 7, 2) := by decide +kernel
theorem dX5_finderTo_20 : decode cX5_finderTo 20 = .ok (.bipush 8, 2) := by decide +kernel
theorem dX5_finderTo_22 : decode cX5_finderTo 22 = .ok (.invokestatic 33, 3) := by decide +kernel
theorem dX5_finderTo_25 : decode cX5_finderTo 25 = .ok (.ifCond .eq 16, 3) := by decide +kernel
theorem dX5_finderTo_28 : decode cX5_finderTo 28 = .ok (.aload_n 0, 1) := by decide +kernel
theorem dX5_finderTo_29 : decode cX5_finderTo 29 = .ok (.iload_n 2, 1) := by decide +kernel
theorem dX5_finderTo_30 : decode cX5_finderTo 30 = .ok (.bipush 9, 2) := by decide +kernel
theorem dX5_finderTo_32 : decode cX5_finderTo 32 = .ok (.invokevirtual 41, 3) := by decide +kernel
theorem dX5_finderTo_35 : decode cX5_finderTo 35 = .ok (.iload_n 1, 1) := by decide +kernel
theorem dX5_finderTo_36 : decode cX5_finderTo 36 = .ok (.if_icmp .ne 5, 3) := by decide +kernel
theorem dX5_finderTo_39 : decode cX5_finderTo 39 = .ok (.iload_n 2, 1) := by decide +kernel
theorem dX5_finderTo_40 : decode cX5_finderTo 40 = .ok (.ireturn, 1) := by decide +kernel
theorem dX5_finderTo_41 : decode cX5_finderTo 41 = .ok (.iinc 2 1, 3) := by decide +kernel
theorem dX5_finderTo_44 : decode cX5_finderTo 44 = .ok (.goto (-42), 3) := by decide +kernel
theorem dX5_finderTo_47 : decode cX5_finderTo 47 = .ok (.bipush (-6), 2) := by decide +kernel
theorem dX5_finderTo_49 : decode cX5_finderTo 49 = .ok (.ireturn, 1) := by decide +kernel
theorem dX5_park_0 : decode cX5_park 0 = .ok (.aload_n 0, 1) := by decide +kernel
theorem dX5_park_1 : decode cX5_park 1 = .ok (.iload_n 1, 1) := by decide +kernel
theorem dX5_park_2 : decode cX5_park 2 = .ok (.iconst 0, 1) := by decide +kernel
theorem dX5_park_3 : decode cX5_park 3 = .ok (.bipush 10, 2) := by decide +kernel
theorem dX5_park_5 : decode cX5_park 5 = .ok (.invokevirtual 61, 3) := by decide +kernel
theorem dX5_park_8 : decode cX5_park 8 = .ok (.aload_n 0, 1) := by decide +kernel
theorem dX5_park_9 : decode cX5_park 9 = .ok (.iload_n 1, 1) := by decide +kernel
theorem dX5_park_10 : decode cX5_park 10 = .ok (.iconst 5, 1) := by decide +kernel
theorem dX5_park_11 : decode cX5_park 11 = .ok (.iconst 0, 1) := by decide +kernel
theorem dX5_park_12 : decode cX5_park 12 = .ok (.invokevirtual 61, 3) := by decide +kernel
theorem dX5_park_15 : decode cX5_park 15 = .ok (.aload_n 0, 1) := by decide +kernel
theorem dX5_park_16 : decode cX5_park 16 = .ok (.iload_n 1, 1) := by decide +kernel
theorem dX5_park_17 : decode cX5_park 17 = .ok (.bipush 10, 2) := by decide +kernel
theorem dX5_park_19 : decode cX5_park 19 = .ok (.iconst 0, 1) := by decide +kernel
theorem dX5_park_20 : decode cX5_park 20 = .ok (.invokevirtual 61, 3) := by decide +kernel
theorem dX5_park_23 : decode cX5_park 23 = .ok (.return_, 1) := by decide +kernel
theorem dX5_lift_0 : decode cX5_lift 0 = .ok (.iload_n 1, 1) := by decide +kernel
theorem dX5_lift_1 : decode cX5_lift 1 = .ok (.invokestatic 64, 3) := by decide +kernel
theorem dX5_lift_4 : decode cX5_lift 4 = .ok (.ifCond .ne 5, 3) := by decide +kernel
theorem dX5_lift_7 : decode cX5_lift 7 = .ok (.iconst (-1), 1) := by decide +kernel
theorem dX5_lift_8 : decode cX5_lift 8 = .ok (.ireturn, 1) := by decide +kernel
theorem dX5_lift_9 : decode cX5_lift 9 = .ok (.aload_n 0, 1) := by decide +kernel
theorem dX5_lift_10 : decode cX5_lift 10 = .ok (.iload_n 1, 1) := by decide +kernel
theorem dX5_lift_11 : decode cX5_lift 11 = .ok (.iconst 1, 1) := by decide +kernel
theorem dX5_lift_12 : decode cX5_lift 12 = .ok (.invokevirtual 67, 3) := by decide +kernel
theorem dX5_lift_15 : decode cX5_lift 15 = .ok (.iconst 1, 1) := by decide +kernel
theorem dX5_lift_16 : decode cX5_lift 16 = .ok (.if_icmp .ne 6, 3) := by decide +kernel
theorem dX5_lift_19 : decode cX5_lift 19 = .ok (.bipush (-5), 2) := by decide +kernel
theorem dX5_lift_21 : decode cX5_lift 21 = .ok (.ireturn, 1) := by decide +kernel
theorem dX5_lift_22 : decode cX5_lift 22 = .ok (.aload_n 0, 1) := by decide +kernel
theorem dX5_lift_23 : decode cX5_lift 23 = .ok (.iload_n 1, 1) := by decide +kernel
theorem dX5_lift_24 : decode cX5_lift 24 = .ok (.iconst 1, 1) := by decide +kernel
theorem dX5_lift_25 : decode cX5_lift 25 = .ok (.iconst 1, 1) := by decide +kernel
theorem dX5_lift_26 : decode cX5_lift 26 = .ok (.invokevirtual 61, 3) := by decide +kernel
theorem dX5_lift_29 : decode cX5_lift 29 = .ok (.aload_n 0, 1) := by decide +kernel
theorem dX5_lift_30 : decode cX5_lift 30 = .ok (.iload_n 1, 1) := by decide +kernel
theorem dX5_lift_31 : decode cX5_lift 31 = .ok (.iconst 0, 1) := by decide +kernel
theorem dX5_lift_32 : decode cX5_lift 32 = .ok (.invokevirtual 67, 3) := by decide +kernel
theorem dX5_lift_35 : decode cX5_lift 35 = .ok (.ifCond .ne 44, 3) := by decide +kernel
theorem dX5_lift_38 : decode cX5_lift 38 = .ok (.aload_n 0, 1) := by decide +kernel
theorem dX5_lift_39 : decode cX5_lift 39 = .ok (.iload_n 1, 1) := by decide +kernel
theorem dX5_lift_40 : decode cX5_lift 40 = .ok (.iconst 0, 1) := by decide +kernel
theorem dX5_lift_41 : decode cX5_lift 41 = .ok (.iconst 1, 1) := by decide +kernel
theorem dX5_lift_42 : decode cX5_lift 42 = .ok (.invokevirtual 61, 3) := by decide +kernel
theorem dX5_lift_45 : decode cX5_lift 45 = .ok (.aload_n 0, 1) := by decide +kernel
theorem dX5_lift_46 : decode cX5_lift 46 = .ok (.iload_n 1, 1) := by decide +kernel
theorem dX5_lift_47 : decode cX5_lift 47 = .ok (.iconst 3, 1) := by decide +kernel
theorem dX5_lift_48 : decode cX5_lift 48 = .ok (.iconst 0, 1) := by decide +kernel
theorem dX5_lift_49 : decode cX5_lift 49 = .ok (.invokevirtual 61, 3) := by decide +kernel
theorem dX5_lift_52 : decode cX5_lift 52 = .ok (.aload_n 0, 1) := by decide +kernel
theorem dX5_lift_53 : decode cX5_lift 53 = .ok (.iload_n 1, 1) := by decide +kernel
theorem dX5_lift_54 : decode cX5_lift 54 = .ok (.iconst 4, 1) := by decide +kernel
theorem dX5_lift_55 : decode cX5_lift 55 = .ok (.aload_n 0, 1) := by decide +kernel
theorem dX5_lift_56 : decode cX5_lift 56 = .ok (.getfield 7, 3) := by decide +kernel
theorem dX5_lift_59 : decode cX5_lift 59 = .ok (.iconst 4, 1) := by decide +kernel
theorem dX5_lift_60 : decode cX5_lift 60 = .ok (.iaload, 1) := by decide +kernel
theorem dX5_lift_61 : decode cX5_lift 61 = .ok (.invokevirtual 61, 3) := by decide +kernel
theorem dX5_lift_64 : decode cX5_lift 64 = .ok (.aload_n 0, 1) := by decide +kernel
theorem dX5_lift_65 : decode cX5_lift 65 = .ok (.getfield 7, 3) := by decide +kernel
theorem dX5_lift_68 : decode cX5_lift 68 = .ok (.iconst 4, 1) := by decide +kernel
theorem dX5_lift_69 : decode cX5_lift 69 = .ok (.dup2, 1) := by decide +kernel
theorem dX5_lift_70 : decode cX5_lift 70 = .ok (.iaload, 1) := by decide +kernel
theorem dX5_lift_71 : decode cX5_lift 71 = .ok (.iconst 1, 1) := by decide +kernel
theorem dX5_lift_72 : decode cX5_lift 72 = .ok (.iadd, 1) := by decide +kernel
theorem dX5_lift_73 : decode cX5_lift 73 = .ok (.iastore, 1) := by decide +kernel
theorem dX5_lift_74 : decode cX5_lift 74 = .ok (.aload_n 0, 1) := by decide +kernel
theorem dX5_lift_75 : decode cX5_lift 75 = .ok (.iconst 0, 1) := by decide +kernel
theorem dX5_lift_76 : decode cX5_lift 76 = .ok (.invokevirtual 70, 3) := by decide +kernel
theorem dX5_lift_79 : decode cX5_lift 79 = .ok (.aload_n 0, 1) := by decide +kernel
theorem dX5_lift_80 : decode cX5_lift 80 = .ok (.iload_n 1, 1) := by decide +kernel
theorem dX5_lift_81 : decode cX5_lift 81 = .ok (.iconst 0, 1) := by decide +kernel
theorem dX5_lift_82 : decode cX5_lift 82 = .ok (.invokevirtual 67, 3) := by decide +kernel
theorem dX5_lift_85 : decode cX5_lift 85 = .ok (.ireturn, 1) := by decide +kernel
theorem dX5_dropCall_0 : decode cX5_dropCall 0 = .ok (.aload_n 0, 1) := by decide +kernel
theorem dX5_dropCall_1 : decode cX5_dropCall 1 = .ok (.iload_n 1, 1) := by decide +kernel
theorem dX5_dropCall_2 : decode cX5_dropCall 2 = .ok (.invokevirtual 73, 3) := by decide +kernel
theorem dX5_dropCall_5 : decode cX5_dropCall 5 = .ok (.istore_n 2, 1) := by decide +kernel
theorem dX5_dropCall_6 : decode cX5_dropCall 6 = .ok (.iload_n 2, 1) := by decide +kernel
theorem dX5_dropCall_7 : decode cX5_dropCall 7 = .ok (.ifCond .ge 4, 3) := by decide +kernel
theorem dX5_dropCall_10 : decode cX5_dropCall 10 = .ok (.return_, 1) := by decide +kernel
theorem dX5_dropCall_11 : decode cX5_dropCall 11 = .ok (.aload_n 0, 1) := by decide +kernel
theorem dX5_dropCall_12 : decode cX5_dropCall 12 = .ok (.iload_n 2, 1) := by decide +kernel
theorem dX5_dropCall_13 : decode cX5_dropCall 13 = .ok (.iconst 0, 1) := by decide +kernel
theorem dX5_dropCall_14 : decode cX5_dropCall 14 = .ok (.invokevirtual 41, 3) := by decide +kernel
theorem dX5_dropCall_17 : decode cX5_dropCall 17 = .ok (.bipush 7, 2) := by decide +kernel
theorem dX5_dropCall_19 : decode cX5_dropCall 19 = .ok (.bipush 8, 2) := by decide +kernel
theorem dX5_dropCall_21 : decode cX5_dropCall 21 = .ok (.invokestatic 33, 3) := by decide +kernel
theorem dX5_dropCall_24 : decode cX5_dropCall 24 = .ok (.ifCond .eq 13, 3) := by decide +kernel
theorem dX5_dropCall_27 : decode cX5_dropCall 27 = .ok (.aload_n 0, 1) := by decide +kernel
theorem dX5_dropCall_28 : decode cX5_dropCall 28 = .ok (.iload_n 2, 1) := by decide +kernel
theorem dX5_dropCall_29 : decode cX5_dropCall 29 = .ok (.bipush 9, 2) := by decide +kernel
theorem dX5_dropCall_31 : decode cX5_dropCall 31 = .ok (.invokevirtual 41, 3) := by decide +kernel
theorem dX5_dropCall_34 : decode cX5_dropCall 34 = .ok (.goto 5, 3) := by decide +kernel
theorem dX5_dropCall_37 : decode cX5_dropCall 37 = .ok (.bipush (-6), 2) := by decide +kernel
theorem dX5_dropCall_39 : decode cX5_dropCall 39 = .ok (.istore_n 3, 1) := by decide +kernel
theorem dX5_dropCall_40 : decode cX5_dropCall 40 = .ok (.aload_n 0, 1) := by decide +kernel
theorem dX5_dropCall_41 : decode cX5_dropCall 41 = .ok (.iload_n 2, 1) := by decide +kernel
theorem dX5_dropCall_42 : decode cX5_dropCall 42 = .ok (.invokevirtual 37, 3) := by decide +kernel
theorem dX5_dropCall_45 : decode cX5_dropCall 45 = .ok (.iload_n 3, 1) := by decide +kernel
theorem dX5_dropCall_46 : decode cX5_dropCall 46 = .ok (.ifCond .lt 29, 3) := by decide +kernel
theorem dX5_dropCall_49 : decode cX5_dropCall 49 = .ok (.aload_n 0, 1) := by decide +kernel
theorem dX5_dropCall_50 : decode cX5_dropCall 50 = .ok (.iload_n 3, 1) := by decide +kernel
theorem dX5_dropCall_51 : decode cX5_dropCall 51 = .ok (.iconst 1, 1) := by decide +kernel
theorem dX5_dropCall_52 : decode cX5_dropCall 52 = .ok (.invokevirtual 67, 3) := by decide +kernel
theorem dX5_dropCall_55 : decode cX5_dropCall 55 = .ok (.iconst 1, 1) := by decide +kernel
theorem dX5_dropCall_56 : decode cX5_dropCall 56 = .ok (.if_icmp .ne 19, 3) := by decide +kernel
theorem dX5_dropCall_59 : decode cX5_dropCall 59 = .ok (.aload_n 0, 1) := by decide +kernel
theorem dX5_dropCall_60 : decode cX5_dropCall 60 = .ok (.iload_n 3, 1) := by decide +kernel
theorem dX5_dropCall_61 : decode cX5_dropCall 61 = .ok (.invokevirtual 76, 3) := by decide +kernel
theorem dX5_dropCall_64 : decode cX5_dropCall 64 = .ok (.aload_n 0, 1) := by decide +kernel
theorem dX5_dropCall_65 : decode cX5_dropCall 65 = .ok (.iload_n 3, 1) := by decide +kernel
theorem dX5_dropCall_66 : decode cX5_dropCall 66 = .ok (.iconst 3, 1) := by decide +kernel
theorem dX5_dropCall_67 : decode cX5_dropCall 67 = .ok (.bipush 6, 2) := by decide +kernel
theorem dX5_dropCall_69 : decode cX5_dropCall 69 = .ok (.invokevirtual 61, 3) := by decide +kernel
theorem dX5_dropCall_72 : decode cX5_dropCall 72 = .ok (.goto 14, 3) := by decide +kernel
theorem dX5_dropCall_75 : decode cX5_dropCall 75 = .ok (.iload_n 3, 1) := by decide +kernel
theorem dX5_dropCall_76 : decode cX5_dropCall 76 = .ok (.ifCond .lt 10, 3) := by decide +kernel
theorem dX5_dropCall_79 : decode cX5_dropCall 79 = .ok (.aload_n 0, 1) := by decide +kernel
theorem dX5_dropCall_80 : decode cX5_dropCall 80 = .ok (.iload_n 3, 1) := by decide +kernel
theorem dX5_dropCall_81 : decode cX5_dropCall 81 = .ok (.iconst 0, 1) := by decide +kernel
theorem dX5_dropCall_82 : decode cX5_dropCall 82 = .ok (.iconst 0, 1) := by decide +kernel
theorem dX5_dropCall_83 : decode cX5_dropCall 83 = .ok (.invokevirtual 61, 3) := by decide +kernel
theorem dX5_dropCall_86 : decode cX5_dropCall 86 = .ok (.return_, 1) := by decide +kernel
theorem dX5_hang_0 : decode cX5_hang 0 = .ok (.iload_n 1, 1) := by decide +kernel
theorem dX5_hang_1 : decode cX5_hang 1 = .ok (.invokestatic 64, 3) := by decide +kernel
theorem dX5_hang_4 : decode cX5_hang 4 = .ok (.ifCond .ne 5, 3) := by decide +kernel
theorem dX5_hang_7 : decode cX5_hang 7 = .ok (.iconst (-1), 1) := by decide +kernel
theorem dX5_hang_8 : decode cX5_hang 8 = .ok (.ireturn, 1) := by decide +kernel
theorem dX5_hang_9 : decode cX5_hang 9 = .ok (.aload_n 0, 1) := by decide +kernel
theorem dX5_hang_10 : decode cX5_hang 10 = .ok (.iload_n 1, 1) := by decide +kernel
theorem dX5_hang_11 : decode cX5_hang 11 = .ok (.iconst 1, 1) := by decide +kernel
theorem dX5_hang_12 : decode cX5_hang 12 = .ok (.invokevirtual 67, 3) := by decide +kernel
theorem dX5_hang_15 : decode cX5_hang 15 = .ok (.ifCond .ne 6, 3) := by decide +kernel
theorem dX5_hang_18 : decode cX5_hang 18 = .ok (.bipush (-5), 2) := by decide +kernel
theorem dX5_hang_20 : decode cX5_hang 20 = .ok (.ireturn, 1) := by decide +kernel
theorem dX5_hang_21 : decode cX5_hang 21 = .ok (.aload_n 0, 1) := by decide +kernel
theorem dX5_hang_22 : decode cX5_hang 22 = .ok (.iload_n 1, 1) := by decide +kernel
theorem dX5_hang_23 : decode cX5_hang 23 = .ok (.iconst 0, 1) := by decide +kernel
theorem dX5_hang_24 : decode cX5_hang 24 = .ok (.invokevirtual 67, 3) := by decide +kernel
theorem dX5_hang_27 : decode cX5_hang 27 = .ok (.istore_n 2, 1) := by decide +kernel
theorem dX5_hang_28 : decode cX5_hang 28 = .ok (.aload_n 0, 1) := by decide +kernel
theorem dX5_hang_29 : decode cX5_hang 29 = .ok (.iload_n 1, 1) := by decide +kernel
theorem dX5_hang_30 : decode cX5_hang 30 = .ok (.iconst 1, 1) := by decide +kernel
theorem dX5_hang_31 : decode cX5_hang 31 = .ok (.iconst 0, 1) := by decide +kernel
theorem dX5_hang_32 : decode cX5_hang 32 = .ok (.invokevirtual 61, 3) := by decide +kernel
theorem dX5_hang_35 : decode cX5_hang 35 = .ok (.iload_n 2, 1) := by decide +kernel
theorem dX5_hang_36 : decode cX5_hang 36 = .ok (.iconst 5, 1) := by decide +kernel
theorem dX5_hang_37 : decode cX5_hang 37 = .ok (.if_icmp .eq 36, 3) := by decide +kernel
theorem dX5_hang_40 : decode cX5_hang 40 = .ok (.iload_n 2, 1) := by decide +kernel
theorem dX5_hang_41 : decode cX5_hang 41 = .ok (.bipush 7, 2) := by decide +kernel
theorem dX5_hang_43 : decode cX5_hang 43 = .ok (.if_icmp .eq 30, 3) := by decide +kernel
theorem dX5_hang_46 : decode cX5_hang 46 = .ok (.aload_n 0, 1) := by decide +kernel
theorem dX5_hang_47 : decode cX5_hang 47 = .ok (.iload_n 1, 1) := by decide +kernel
theorem dX5_hang_48 : decode cX5_hang 48 = .ok (.iconst 0, 1) := by decide +kernel
theorem dX5_hang_49 : decode cX5_hang 49 = .ok (.iconst 0, 1) := by decide +kernel
theorem dX5_hang_50 : decode cX5_hang 50 = .ok (.invokevirtual 61, 3) := by decide +kernel
theorem dX5_hang_53 : decode cX5_hang 53 = .ok (.aload_n 0, 1) := by decide +kernel
theorem dX5_hang_54 : decode cX5_hang 54 = .ok (.iload_n 1, 1) := by decide +kernel
theorem dX5_hang_55 : decode cX5_hang 55 = .ok (.bipush 10, 2) := by decide +kernel
theorem dX5_hang_57 : decode cX5_hang 57 = .ok (.iconst 0, 1) := by decide +kernel
theorem dX5_hang_58 : decode cX5_hang 58 = .ok (.invokevirtual 61, 3) := by decide +kernel
theorem dX5_hang_61 : decode cX5_hang 61 = .ok (.aload_n 0, 1) := by decide +kernel
theorem dX5_hang_62 : decode cX5_hang 62 = .ok (.iload_n 1, 1) := by decide +kernel
theorem dX5_hang_63 : decode cX5_hang 63 = .ok (.iconst 5, 1) := by decide +kernel
theorem dX5_hang_64 : decode cX5_hang 64 = .ok (.iconst 0, 1) := by decide +kernel
theorem dX5_hang_65 : decode cX5_hang 65 = .ok (.invokevirtual 61, 3) := by decide +kernel
theorem dX5_hang_68 : decode cX5_hang 68 = .ok (.aload_n 0, 1) := by decide +kernel
theorem dX5_hang_69 : decode cX5_hang 69 = .ok (.iload_n 1, 1) := by decide +kernel
theorem dX5_hang_70 : decode cX5_hang 70 = .ok (.invokevirtual 79, 3) := by decide +kernel
theorem dX5_hang_73 : decode cX5_hang 73 = .ok (.iload_n 2, 1) := by decide +kernel
theorem dX5_hang_74 : decode cX5_hang 74 = .ok (.ireturn, 1) := by decide +kernel
theorem dX5_dial_0 : decode cX5_dial 0 = .ok (.iload_n 1, 1) := by decide +kernel
theorem dX5_dial_1 : decode cX5_dial 1 = .ok (.invokestatic 64, 3) := by decide +kernel
theorem dX5_dial_4 : decode cX5_dial 4 = .ok (.ifCond .ne 5, 3) := by decide +kernel
theorem dX5_dial_7 : decode cX5_dial 7 = .ok (.iconst (-1), 1) := by decide +kernel
theorem dX5_dial_8 : decode cX5_dial 8 = .ok (.ireturn, 1) := by decide +kernel
theorem dX5_dial_9 : decode cX5_dial 9 = .ok (.iload_n 2, 1) := by decide +kernel
theorem dX5_dial_10 : decode cX5_dial 10 = .ok (.iconst 0, 1) := by decide +kernel
theorem dX5_dial_11 : decode cX5_dial 11 = .ok (.bipush 9, 2) := by decide +kernel
theorem dX5_dial_13 : decode cX5_dial 13 = .ok (.invokestatic 33, 3) := by decide +kernel
theorem dX5_dial_16 : decode cX5_dial 16 = .ok (.ifCond .ne 6, 3) := by decide +kernel
theorem dX5_dial_19 : decode cX5_dial 19 = .ok (.bipush (-2), 2) := by decide +kernel
theorem dX5_dial_21 : decode cX5_dial 21 = .ok (.ireturn, 1) := by decide +kernel
theorem dX5_dial_22 : decode cX5_dial 22 = .ok (.aload_n 0, 1) := by decide +kernel
theorem dX5_dial_23 : decode cX5_dial 23 = .ok (.iload_n 1, 1) := by decide +kernel
theorem dX5_dial_24 : decode cX5_dial 24 = .ok (.iconst 0, 1) := by decide +kernel
theorem dX5_dial_25 : decode cX5_dial 25 = .ok (.invokevirtual 67, 3) := by decide +kernel
theorem dX5_dial_28 : decode cX5_dial 28 = .ok (.iconst 2, 1) := by decide +kernel
theorem dX5_dial_29 : decode cX5_dial 29 = .ok (.iconst 3, 1) := by decide +kernel
theorem dX5_dial_30 : decode cX5_dial 30 = .ok (.invokestatic 33, 3) := by decide +kernel
theorem dX5_dial_33 : decode cX5_dial 33 = .ok (.ifCond .ne 6, 3) := by decide +kernel
theorem dX5_dial_36 : decode cX5_dial 36 = .ok (.bipush (-5), 2) := by decide +kernel
theorem dX5_dial_38 : decode cX5_dial 38 = .ok (.ireturn, 1) := by decide +kernel
theorem dX5_dial_39 : decode cX5_dial 39 = .ok (.aload_n 0, 1) := by decide +kernel
theorem dX5_dial_40 : decode cX5_dial 40 = .ok (.iload_n 1, 1) := by decide +kernel
theorem dX5_dial_41 : decode cX5_dial 41 = .ok (.bipush 10, 2) := by decide +kernel
theorem dX5_dial_43 : decode cX5_dial 43 = .ok (.invokevirtual 67, 3) := by decide +kernel
theorem dX5_dial_46 : decode cX5_dial 46 = .ok (.istore_n 3, 1) := by decide +kernel
theorem dX5_dial_47 : decode cX5_dial 47 = .ok (.iload_n 3, 1) := by decide +kernel
theorem dX5_dial_48 : decode cX5_dial 48 = .ok (.iconst 4, 1) := by decide +kernel
theorem dX5_dial_49 : decode cX5_dial 49 = .ok (.if_icmp .ne 6, 3) := by decide +kernel
theorem dX5_dial_52 : decode cX5_dial 52 = .ok (.bipush (-4), 2) := by decide +kernel
theorem dX5_dial_54 : decode cX5_dial 54 = .ok (.ireturn, 1) := by decide +kernel
theorem dX5_dial_55 : decode cX5_dial 55 = .ok (.aload_n 0, 1) := by decide +kernel
theorem dX5_dial_56 : decode cX5_dial 56 = .ok (.iload_n 1, 1) := by decide +kernel
theorem dX5_dial_57 : decode cX5_dial 57 = .ok (.bipush 6, 2) := by decide +kernel
theorem dX5_dial_59 : decode cX5_dial 59 = .ok (.iload_n 3, 1) := by decide +kernel
theorem dX5_dial_60 : decode cX5_dial 60 = .ok (.iadd, 1) := by decide +kernel
theorem dX5_dial_61 : decode cX5_dial 61 = .ok (.iload_n 2, 1) := by decide +kernel
theorem dX5_dial_62 : decode cX5_dial 62 = .ok (.invokevirtual 61, 3) := by decide +kernel
theorem dX5_dial_65 : decode cX5_dial 65 = .ok (.aload_n 0, 1) := by decide +kernel
theorem dX5_dial_66 : decode cX5_dial 66 = .ok (.iload_n 1, 1) := by decide +kernel
theorem dX5_dial_67 : decode cX5_dial 67 = .ok (.bipush 10, 2) := by decide +kernel
theorem dX5_dial_69 : decode cX5_dial 69 = .ok (.iload_n 3, 1) := by decide +kernel
theorem dX5_dial_70 : decode cX5_dial 70 = .ok (.iconst 1, 1) := by decide +kernel
theorem dX5_dial_71 : decode cX5_dial 71 = .ok (.iadd, 1) := by decide +kernel
theorem dX5_dial_72 : decode cX5_dial 72 = .ok (.invokevirtual 61, 3) := by decide +kernel
theorem dX5_dial_75 : decode cX5_dial 75 = .ok (.iload_n 3, 1) := by decide +kernel
theorem dX5_dial_76 : decode cX5_dial 76 = .ok (.iconst 1, 1) := by decide +kernel
theorem dX5_dial_77 : decode cX5_dial 77 = .ok (.iadd, 1) := by decide +kernel
theorem dX5_dial_78 : decode cX5_dial 78 = .ok (.ireturn, 1) := by decide +kernel
theorem dX5_takeDigit_0 : decode cX5_takeDigit 0 = .ok (.aload_n 0, 1) := by decide +kernel
theorem dX5_takeDigit_1 : decode cX5_takeDigit 1 = .ok (.iload_n 1, 1) := by decide +kernel
theorem dX5_takeDigit_2 : decode cX5_takeDigit 2 = .ok (.bipush 10, 2) := by decide +kernel
theorem dX5_takeDigit_4 : decode cX5_takeDigit 4 = .ok (.invokevirtual 67, 3) := by decide +kernel
theorem dX5_takeDigit_7 : decode cX5_takeDigit 7 = .ok (.istore_n 2, 1) := by decide +kernel
theorem dX5_takeDigit_8 : decode cX5_takeDigit 8 = .ok (.iload_n 2, 1) := by decide +kernel
theorem dX5_takeDigit_9 : decode cX5_takeDigit 9 = .ok (.ifCond .ne 5, 3) := by decide +kernel
theorem dX5_takeDigit_12 : decode cX5_takeDigit 12 = .ok (.iconst 0, 1) := by decide +kernel
theorem dX5_takeDigit_13 : decode cX5_takeDigit 13 = .ok (.ireturn, 1) := by decide +kernel
theorem dX5_takeDigit_14 : decode cX5_takeDigit 14 = .ok (.aload_n 0, 1) := by decide +kernel
theorem dX5_takeDigit_15 : decode cX5_takeDigit 15 = .ok (.iload_n 1, 1) := by decide +kernel
theorem dX5_takeDigit_16 : decode cX5_takeDigit 16 = .ok (.bipush 6, 2) := by decide +kernel
theorem dX5_takeDigit_18 : decode cX5_takeDigit 18 = .ok (.invokevirtual 67, 3) := by decide +kernel
theorem dX5_takeDigit_21 : decode cX5_takeDigit 21 = .ok (.istore_n 3, 1) := by decide +kernel
theorem dX5_takeDigit_22 : decode cX5_takeDigit 22 = .ok (.iconst 1, 1) := by decide +kernel
theorem dX5_takeDigit_23 : decode cX5_takeDigit 23 = .ok (.istore 4, 2) := by decide +kernel
theorem dX5_takeDigit_25 : decode cX5_takeDigit 25 = .ok (.iload 4, 2) := by decide +kernel
theorem dX5_takeDigit_27 : decode cX5_takeDigit 27 = .ok (.iload_n 2, 1) := by decide +kernel
theorem dX5_takeDigit_28 : decode cX5_takeDigit 28 = .ok (.if_icmp .ge 31, 3) := by decide +kernel
theorem dX5_takeDigit_31 : decode cX5_takeDigit 31 = .ok (.aload_n 0, 1) := by decide +kernel
theorem dX5_takeDigit_32 : decode cX5_takeDigit 32 = .ok (.iload_n 1, 1) := by decide +kernel
theorem dX5_takeDigit_33 : decode cX5_takeDigit 33 = .ok (.bipush 6, 2) := by decide +kernel
theorem dX5_takeDigit_35 : decode cX5_takeDigit 35 = .ok (.iload 4, 2) := by decide +kernel
theorem dX5_takeDigit_37 : decode cX5_takeDigit 37 = .ok (.iadd, 1) := by decide +kernel
theorem dX5_takeDigit_38 : decode cX5_takeDigit 38 = .ok (.iconst 1, 1) := by decide +kernel
theorem dX5_takeDigit_39 : decode cX5_takeDigit 39 = .ok (.isub, 1) := by decide +kernel
theorem dX5_takeDigit_40 : decode cX5_takeDigit 40 = .ok (.aload_n 0, 1) := by decide +kernel
theorem dX5_takeDigit_41 : decode cX5_takeDigit 41 = .ok (.iload_n 1, 1) := by decide +kernel
theorem dX5_takeDigit_42 : decode cX5_takeDigit 42 = .ok (.bipush 6, 2) := by decide +kernel
theorem dX5_takeDigit_44 : decode cX5_takeDigit 44 = .ok (.iload 4, 2) := by decide +kernel
theorem dX5_takeDigit_46 : decode cX5_takeDigit 46 = .ok (.iadd, 1) := by decide +kernel
theorem dX5_takeDigit_47 : decode cX5_takeDigit 47 = .ok (.invokevirtual 67, 3) := by decide +kernel
theorem dX5_takeDigit_50 : decode cX5_takeDigit 50 = .ok (.invokevirtual 61, 3) := by decide +kernel
theorem dX5_takeDigit_53 : decode cX5_takeDigit 53 = .ok (.iinc 4 1, 3) := by decide +kernel
theorem dX5_takeDigit_56 : decode cX5_takeDigit 56 = .ok (.goto (-31), 3) := by decide +kernel
theorem dX5_takeDigit_59 : decode cX5_takeDigit 59 = .ok (.aload_n 0, 1) := by decide +kernel
theorem dX5_takeDigit_60 : decode cX5_takeDigit 60 = .ok (.iload_n 1, 1) := by decide +kernel
theorem dX5_takeDigit_61 : decode cX5_takeDigit 61 = .ok (.bipush 10, 2) := by decide +kernel
theorem dX5_takeDigit_63 : decode cX5_takeDigit 63 = .ok (.iload_n 2, 1) := by decide +kernel
theorem dX5_takeDigit_64 : decode cX5_takeDigit 64 = .ok (.iconst 1, 1) := by decide +kernel
theorem dX5_takeDigit_65 : decode cX5_takeDigit 65 = .ok (.isub, 1) := by decide +kernel
theorem dX5_takeDigit_66 : decode cX5_takeDigit 66 = .ok (.invokevirtual 61, 3) := by decide +kernel
theorem dX5_takeDigit_69 : decode cX5_takeDigit 69 = .ok (.iload_n 3, 1) := by decide +kernel
theorem dX5_takeDigit_70 : decode cX5_takeDigit 70 = .ok (.ifCond .ne 8, 3) := by decide +kernel
theorem dX5_takeDigit_73 : decode cX5_takeDigit 73 = .ok (.bipush 10, 2) := by decide +kernel
theorem dX5_takeDigit_75 : decode cX5_takeDigit 75 = .ok (.goto 4, 3) := by decide +kernel
theorem dX5_takeDigit_78 : decode cX5_takeDigit 78 = .ok (.iload_n 3, 1) := by decide +kernel
theorem dX5_takeDigit_79 : decode cX5_takeDigit 79 = .ok (.ireturn, 1) := by decide +kernel
theorem dX5_giveUp_0 : decode cX5_giveUp 0 = .ok (.aload_n 0, 1) := by decide +kernel
theorem dX5_giveUp_1 : decode cX5_giveUp 1 = .ok (.iload_n 1, 1) := by decide +kernel
theorem dX5_giveUp_2 : decode cX5_giveUp 2 = .ok (.iconst 2, 1) := by decide +kernel
theorem dX5_giveUp_3 : decode cX5_giveUp 3 = .ok (.invokevirtual 41, 3) := by decide +kernel
theorem dX5_giveUp_6 : decode cX5_giveUp 6 = .ok (.istore_n 2, 1) := by decide +kernel
theorem dX5_giveUp_7 : decode cX5_giveUp 7 = .ok (.aload_n 0, 1) := by decide +kernel
theorem dX5_giveUp_8 : decode cX5_giveUp 8 = .ok (.iload_n 1, 1) := by decide +kernel
theorem dX5_giveUp_9 : decode cX5_giveUp 9 = .ok (.invokevirtual 37, 3) := by decide +kernel
theorem dX5_giveUp_12 : decode cX5_giveUp 12 = .ok (.aload_n 0, 1) := by decide +kernel
theorem dX5_giveUp_13 : decode cX5_giveUp 13 = .ok (.iload_n 2, 1) := by decide +kernel
theorem dX5_giveUp_14 : decode cX5_giveUp 14 = .ok (.invokevirtual 76, 3) := by decide +kernel
theorem dX5_giveUp_17 : decode cX5_giveUp 17 = .ok (.aload_n 0, 1) := by decide +kernel
theorem dX5_giveUp_18 : decode cX5_giveUp 18 = .ok (.iload_n 2, 1) := by decide +kernel
theorem dX5_giveUp_19 : decode cX5_giveUp 19 = .ok (.iconst 3, 1) := by decide +kernel
theorem dX5_giveUp_20 : decode cX5_giveUp 20 = .ok (.iconst 5, 1) := by decide +kernel
theorem dX5_giveUp_21 : decode cX5_giveUp 21 = .ok (.invokevirtual 61, 3) := by decide +kernel
theorem dX5_giveUp_24 : decode cX5_giveUp 24 = .ok (.aload_n 0, 1) := by decide +kernel
theorem dX5_giveUp_25 : decode cX5_giveUp 25 = .ok (.bipush 6, 2) := by decide +kernel
theorem dX5_giveUp_27 : decode cX5_giveUp 27 = .ok (.invokevirtual 70, 3) := by decide +kernel
theorem dX5_giveUp_30 : decode cX5_giveUp 30 = .ok (.return_, 1) := by decide +kernel
theorem dX5_sound_0 : decode cX5_sound 0 = .ok (.aload_n 0, 1) := by decide +kernel
theorem dX5_sound_1 : decode cX5_sound 1 = .ok (.iload_n 1, 1) := by decide +kernel
theorem dX5_sound_2 : decode cX5_sound 2 = .ok (.iconst 2, 1) := by decide +kernel
theorem dX5_sound_3 : decode cX5_sound 3 = .ok (.invokevirtual 41, 3) := by decide +kernel
theorem dX5_sound_6 : decode cX5_sound 6 = .ok (.istore 4, 2) := by decide +kernel
theorem dX5_sound_8 : decode cX5_sound 8 = .ok (.aload_n 0, 1) := by decide +kernel
theorem dX5_sound_9 : decode cX5_sound 9 = .ok (.iload_n 1, 1) := by decide +kernel
theorem dX5_sound_10 : decode cX5_sound 10 = .ok (.iconst 0, 1) := by decide +kernel
theorem dX5_sound_11 : decode cX5_sound 11 = .ok (.bipush 9, 2) := by decide +kernel
theorem dX5_sound_13 : decode cX5_sound 13 = .ok (.invokevirtual 45, 3) := by decide +kernel
theorem dX5_sound_16 : decode cX5_sound 16 = .ok (.aload_n 0, 1) := by decide +kernel
theorem dX5_sound_17 : decode cX5_sound 17 = .ok (.iload_n 1, 1) := by decide +kernel
theorem dX5_sound_18 : decode cX5_sound 18 = .ok (.iconst 4, 1) := by decide +kernel
theorem dX5_sound_19 : decode cX5_sound 19 = .ok (.bipush (-6), 2) := by decide +kernel
theorem dX5_sound_21 : decode cX5_sound 21 = .ok (.invokevirtual 45, 3) := by decide +kernel
theorem dX5_sound_24 : decode cX5_sound 24 = .ok (.aload_n 0, 1) := by decide +kernel
theorem dX5_sound_25 : decode cX5_sound 25 = .ok (.iload_n 1, 1) := by decide +kernel
theorem dX5_sound_26 : decode cX5_sound 26 = .ok (.bipush 9, 2) := by decide +kernel
theorem dX5_sound_28 : decode cX5_sound 28 = .ok (.bipush (-6), 2) := by decide +kernel
theorem dX5_sound_30 : decode cX5_sound 30 = .ok (.invokevirtual 45, 3) := by decide +kernel
theorem dX5_sound_33 : decode cX5_sound 33 = .ok (.aload_n 0, 1) := by decide +kernel
theorem dX5_sound_34 : decode cX5_sound 34 = .ok (.iload_n 1, 1) := by decide +kernel
theorem dX5_sound_35 : decode cX5_sound 35 = .ok (.bipush 7, 2) := by decide +kernel
theorem dX5_sound_37 : decode cX5_sound 37 = .ok (.iconst 0, 1) := by decide +kernel
theorem dX5_sound_38 : decode cX5_sound 38 = .ok (.invokevirtual 45, 3) := by decide +kernel
theorem dX5_sound_41 : decode cX5_sound 41 = .ok (.aload_n 0, 1) := by decide +kernel
theorem dX5_sound_42 : decode cX5_sound 42 = .ok (.iload_n 1, 1) := by decide +kernel
theorem dX5_sound_43 : decode cX5_sound 43 = .ok (.iconst 5, 1) := by decide +kernel
theorem dX5_sound_44 : decode cX5_sound 44 = .ok (.iconst 0, 1) := by decide +kernel
theorem dX5_sound_45 : decode cX5_sound 45 = .ok (.invokevirtual 45, 3) := by decide +kernel
theorem dX5_sound_48 : decode cX5_sound 48 = .ok (.aload_n 0, 1) := by decide +kernel
theorem dX5_sound_49 : decode cX5_sound 49 = .ok (.iload 4, 2) := by decide +kernel
theorem dX5_sound_51 : decode cX5_sound 51 = .ok (.iconst 0, 1) := by decide +kernel
theorem dX5_sound_52 : decode cX5_sound 52 = .ok (.iload_n 2, 1) := by decide +kernel
theorem dX5_sound_53 : decode cX5_sound 53 = .ok (.invokevirtual 61, 3) := by decide +kernel
theorem dX5_sound_56 : decode cX5_sound 56 = .ok (.aload_n 0, 1) := by decide +kernel
theorem dX5_sound_57 : decode cX5_sound 57 = .ok (.iload 4, 2) := by decide +kernel
theorem dX5_sound_59 : decode cX5_sound 59 = .ok (.iconst 3, 1) := by decide +kernel
theorem dX5_sound_60 : decode cX5_sound 60 = .ok (.iload_n 3, 1) := by decide +kernel
theorem dX5_sound_61 : decode cX5_sound 61 = .ok (.invokevirtual 61, 3) := by decide +kernel
theorem dX5_sound_64 : decode cX5_sound 64 = .ok (.aload_n 0, 1) := by decide +kernel
theorem dX5_sound_65 : decode cX5_sound 65 = .ok (.iload_n 2, 1) := by decide +kernel
theorem dX5_sound_66 : decode cX5_sound 66 = .ok (.bipush 8, 2) := by decide +kernel
theorem dX5_sound_68 : decode cX5_sound 68 = .ok (.if_icmp .ne 7, 3) := by decide +kernel
theorem dX5_sound_71 : decode cX5_sound 71 = .ok (.iconst 4, 1) := by decide +kernel
theorem dX5_sound_72 : decode cX5_sound 72 = .ok (.goto 4, 3) := by decide +kernel
theorem dX5_sound_75 : decode cX5_sound 75 = .ok (.iconst 5, 1) := by decide +kernel
theorem dX5_sound_76 : decode cX5_sound 76 = .ok (.invokevirtual 70, 3) := by decide +kernel
theorem dX5_sound_79 : decode cX5_sound 79 = .ok (.return_, 1) := by decide +kernel
theorem dX5_reaches_0 : decode cX5_reaches 0 = .ok (.aload_n 0, 1) := by decide +kernel
theorem dX5_reaches_1 : decode cX5_reaches 1 = .ok (.iload_n 1, 1) := by decide +kernel
theorem dX5_reaches_2 : decode cX5_reaches 2 = .ok (.iload_n 2, 1) := by decide +kernel
theorem dX5_reaches_3 : decode cX5_reaches 3 = .ok (.aload_n 0, 1) := by decide +kernel
theorem dX5_reaches_4 : decode cX5_reaches 4 = .ok (.iload_n 1, 1) := by decide +kernel
theorem dX5_reaches_5 : decode cX5_reaches 5 = .ok (.iload_n 2, 1) := by decide +kernel
theorem dX5_reaches_6 : decode cX5_reaches 6 = .ok (.invokevirtual 41, 3) := by decide +kernel
theorem dX5_reaches_9 : decode cX5_reaches 9 = .ok (.iconst 1, 1) := by decide +kernel
theorem dX5_reaches_10 : decode cX5_reaches 10 = .ok (.iadd, 1) := by decide +kernel
theorem dX5_reaches_11 : decode cX5_reaches 11 = .ok (.invokevirtual 45, 3) := by decide +kernel
theorem dX5_reaches_14 : decode cX5_reaches 14 = .ok (.aload_n 0, 1) := by decide +kernel
theorem dX5_reaches_15 : decode cX5_reaches 15 = .ok (.iload_n 1, 1) := by decide +kernel
theorem dX5_reaches_16 : decode cX5_reaches 16 = .ok (.iload_n 2, 1) := by decide +kernel
theorem dX5_reaches_17 : decode cX5_reaches 17 = .ok (.invokevirtual 41, 3) := by decide +kernel
theorem dX5_reaches_20 : decode cX5_reaches 20 = .ok (.iload_n 3, 1) := by decide +kernel
theorem dX5_reaches_21 : decode cX5_reaches 21 = .ok (.if_icmp .lt 7, 3) := by decide +kernel
theorem dX5_reaches_24 : decode cX5_reaches 24 = .ok (.iconst 1, 1) := by decide +kernel
theorem dX5_reaches_25 : decode cX5_reaches 25 = .ok (.goto 4, 3) := by decide +kernel
theorem dX5_reaches_28 : decode cX5_reaches 28 = .ok (.iconst 0, 1) := by decide +kernel
theorem dX5_reaches_29 : decode cX5_reaches 29 = .ok (.ireturn, 1) := by decide +kernel
theorem dX5_seek_0 : decode cX5_seek 0 = .ok (.aload_n 0, 1) := by decide +kernel
theorem dX5_seek_1 : decode cX5_seek 1 = .ok (.iload_n 1, 1) := by decide +kernel
theorem dX5_seek_2 : decode cX5_seek 2 = .ok (.iconst 2, 1) := by decide +kernel
theorem dX5_seek_3 : decode cX5_seek 3 = .ok (.invokevirtual 41, 3) := by decide +kernel
theorem dX5_seek_6 : decode cX5_seek 6 = .ok (.istore_n 2, 1) := by decide +kernel
theorem dX5_seek_7 : decode cX5_seek 7 = .ok (.aload_n 0, 1) := by decide +kernel
theorem dX5_seek_8 : decode cX5_seek 8 = .ok (.iload_n 1, 1) := by decide +kernel
theorem dX5_seek_9 : decode cX5_seek 9 = .ok (.iconst 1, 1) := by decide +kernel
theorem dX5_seek_10 : decode cX5_seek 10 = .ok (.invokevirtual 41, 3) := by decide +kernel
theorem dX5_seek_13 : decode cX5_seek 13 = .ok (.iload_n 2, 1) := by decide +kernel
theorem dX5_seek_14 : decode cX5_seek 14 = .ok (.if_icmp .ne 33, 3) := by decide +kernel
theorem dX5_seek_17 : decode cX5_seek 17 = .ok (.aload_n 0, 1) := by decide +kernel
theorem dX5_seek_18 : decode cX5_seek 18 = .ok (.iload_n 1, 1) := by decide +kernel
theorem dX5_seek_19 : decode cX5_seek 19 = .ok (.iconst 0, 1) := by decide +kernel
theorem dX5_seek_20 : decode cX5_seek 20 = .ok (.iconst 2, 1) := by decide +kernel
theorem dX5_seek_21 : decode cX5_seek 21 = .ok (.invokevirtual 45, 3) := by decide +kernel
theorem dX5_seek_24 : decode cX5_seek 24 = .ok (.aload_n 0, 1) := by decide +kernel
theorem dX5_seek_25 : decode cX5_seek 25 = .ok (.iload_n 1, 1) := by decide +kernel
theorem dX5_seek_26 : decode cX5_seek 26 = .ok (.bipush 7, 2) := by decide +kernel
theorem dX5_seek_28 : decode cX5_seek 28 = .ok (.iconst 0, 1) := by decide +kernel
theorem dX5_seek_29 : decode cX5_seek 29 = .ok (.invokevirtual 45, 3) := by decide +kernel
theorem dX5_seek_32 : decode cX5_seek 32 = .ok (.aload_n 0, 1) := by decide +kernel
theorem dX5_seek_33 : decode cX5_seek 33 = .ok (.iload_n 2, 1) := by decide +kernel
theorem dX5_seek_34 : decode cX5_seek 34 = .ok (.iconst 0, 1) := by decide +kernel
theorem dX5_seek_35 : decode cX5_seek 35 = .ok (.iconst 2, 1) := by decide +kernel
theorem dX5_seek_36 : decode cX5_seek 36 = .ok (.invokevirtual 61, 3) := by decide +kernel
theorem dX5_seek_39 : decode cX5_seek 39 = .ok (.aload_n 0, 1) := by decide +kernel
theorem dX5_seek_40 : decode cX5_seek 40 = .ok (.iconst 1, 1) := by decide +kernel
theorem dX5_seek_41 : decode cX5_seek 41 = .ok (.invokevirtual 70, 3) := by decide +kernel
theorem dX5_seek_44 : decode cX5_seek 44 = .ok (.goto 20, 3) := by decide +kernel
theorem dX5_seek_47 : decode cX5_seek 47 = .ok (.aload_n 0, 1) := by decide +kernel
theorem dX5_seek_48 : decode cX5_seek 48 = .ok (.iload_n 1, 1) := by decide +kernel
theorem dX5_seek_49 : decode cX5_seek 49 = .ok (.iconst 1, 1) := by decide +kernel
theorem dX5_seek_50 : decode cX5_seek 50 = .ok (.aload_n 0, 1) := by decide +kernel
theorem dX5_seek_51 : decode cX5_seek 51 = .ok (.iload_n 1, 1) := by decide +kernel
theorem dX5_seek_52 : decode cX5_seek 52 = .ok (.iconst 1, 1) := by decide +kernel
theorem dX5_seek_53 : decode cX5_seek 53 = .ok (.invokevirtual 41, 3) := by decide +kernel
theorem dX5_seek_56 : decode cX5_seek 56 = .ok (.iconst 1, 1) := by decide +kernel
theorem dX5_seek_57 : decode cX5_seek 57 = .ok (.iadd, 1) := by decide +kernel
theorem dX5_seek_58 : decode cX5_seek 58 = .ok (.bipush 16, 2) := by decide +kernel
theorem dX5_seek_60 : decode cX5_seek 60 = .ok (.irem, 1) := by decide +kernel
theorem dX5_seek_61 : decode cX5_seek 61 = .ok (.invokevirtual 45, 3) := by decide +kernel
theorem dX5_seek_64 : decode cX5_seek 64 = .ok (.return_, 1) := by decide +kernel
theorem dX5_waitForDigit_0 : decode cX5_waitForDigit 0 = .ok (.aload_n 0, 1) := by decide +kernel
theorem dX5_waitForDigit_1 : decode cX5_waitForDigit 1 = .ok (.iload_n 1, 1) := by decide +kernel
theorem dX5_waitForDigit_2 : decode cX5_waitForDigit 2 = .ok (.iconst 2, 1) := by decide +kernel
theorem dX5_waitForDigit_3 : decode cX5_waitForDigit 3 = .ok (.invokevirtual 41, 3) := by decide +kernel
theorem dX5_waitForDigit_6 : decode cX5_waitForDigit 6 = .ok (.istore_n 2, 1) := by decide +kernel
theorem dX5_waitForDigit_7 : decode cX5_waitForDigit 7 = .ok (.aload_n 0, 1) := by decide +kernel
theorem dX5_waitForDigit_8 : decode cX5_waitForDigit 8 = .ok (.iload_n 2, 1) := by decide +kernel
theorem dX5_waitForDigit_9 : decode cX5_waitForDigit 9 = .ok (.invokevirtual 82, 3) := by decide +kernel
theorem dX5_waitForDigit_12 : decode cX5_waitForDigit 12 = .ok (.istore_n 3, 1) := by decide +kernel
theorem dX5_waitForDigit_13 : decode cX5_waitForDigit 13 = .ok (.iload_n 3, 1) := by decide +kernel
theorem dX5_waitForDigit_14 : decode cX5_waitForDigit 14 = .ok (.ifCond .le 58, 3) := by decide +kernel
theorem dX5_waitForDigit_17 : decode cX5_waitForDigit 17 = .ok (.aload_n 0, 1) := by decide +kernel
theorem dX5_waitForDigit_18 : decode cX5_waitForDigit 18 = .ok (.iload_n 1, 1) := by decide +kernel
theorem dX5_waitForDigit_19 : decode cX5_waitForDigit 19 = .ok (.iconst 0, 1) := by decide +kernel
theorem dX5_waitForDigit_20 : decode cX5_waitForDigit 20 = .ok (.aload_n 0, 1) := by decide +kernel
theorem dX5_waitForDigit_21 : decode cX5_waitForDigit 21 = .ok (.iload_n 1, 1) := by decide +kernel
theorem dX5_waitForDigit_22 : decode cX5_waitForDigit 22 = .ok (.iconst 0, 1) := by decide +kernel
theorem dX5_waitForDigit_23 : decode cX5_waitForDigit 23 = .ok (.invokevirtual 41, 3) := by decide +kernel
theorem dX5_waitForDigit_26 : decode cX5_waitForDigit 26 = .ok (.iconst 2, 1) := by decide +kernel
theorem dX5_waitForDigit_27 : decode cX5_waitForDigit 27 = .ok (.if_icmp .ne 7, 3) := by decide +kernel
theorem dX5_waitForDigit_30 : decode cX5_waitForDigit 30 = .ok (.iconst 3, 1) := by decide +kernel
theorem dX5_waitForDigit_31 : decode cX5_waitForDigit 31 = .ok (.goto 5, 3) := by decide +kernel
theorem dX5_waitForDigit_34 : decode cX5_waitForDigit 34 = .ok (.bipush 6, 2) := by decide +kernel
theorem dX5_waitForDigit_36 : decode cX5_waitForDigit 36 = .ok (.invokevirtual 45, 3) := by decide +kernel
theorem dX5_waitForDigit_39 : decode cX5_waitForDigit 39 = .ok (.aload_n 0, 1) := by decide +kernel
theorem dX5_waitForDigit_40 : decode cX5_waitForDigit 40 = .ok (.iload_n 1, 1) := by decide +kernel
theorem dX5_waitForDigit_41 : decode cX5_waitForDigit 41 = .ok (.iconst 5, 1) := by decide +kernel
theorem dX5_waitForDigit_42 : decode cX5_waitForDigit 42 = .ok (.iload_n 3, 1) := by decide +kernel
theorem dX5_waitForDigit_43 : decode cX5_waitForDigit 43 = .ok (.invokevirtual 45, 3) := by decide +kernel
theorem dX5_waitForDigit_46 : decode cX5_waitForDigit 46 = .ok (.aload_n 0, 1) := by decide +kernel
theorem dX5_waitForDigit_47 : decode cX5_waitForDigit 47 = .ok (.iload_n 1, 1) := by decide +kernel
theorem dX5_waitForDigit_48 : decode cX5_waitForDigit 48 = .ok (.bipush 6, 2) := by decide +kernel
theorem dX5_waitForDigit_50 : decode cX5_waitForDigit 50 = .ok (.iload_n 3, 1) := by decide +kernel
theorem dX5_waitForDigit_51 : decode cX5_waitForDigit 51 = .ok (.invokevirtual 45, 3) := by decide +kernel
theorem dX5_waitForDigit_54 : decode cX5_waitForDigit 54 = .ok (.aload_n 0, 1) := by decide +kernel
theorem dX5_waitForDigit_55 : decode cX5_waitForDigit 55 = .ok (.iload_n 1, 1) := by decide +kernel
theorem dX5_waitForDigit_56 : decode cX5_waitForDigit 56 = .ok (.bipush 7, 2) := by decide +kernel
theorem dX5_waitForDigit_58 : decode cX5_waitForDigit 58 = .ok (.iconst 0, 1) := by decide +kernel
theorem dX5_waitForDigit_59 : decode cX5_waitForDigit 59 = .ok (.invokevirtual 45, 3) := by decide +kernel
theorem dX5_waitForDigit_62 : decode cX5_waitForDigit 62 = .ok (.aload_n 0, 1) := by decide +kernel
theorem dX5_waitForDigit_63 : decode cX5_waitForDigit 63 = .ok (.iload_n 2, 1) := by decide +kernel
theorem dX5_waitForDigit_64 : decode cX5_waitForDigit 64 = .ok (.iconst 0, 1) := by decide +kernel
theorem dX5_waitForDigit_65 : decode cX5_waitForDigit 65 = .ok (.iconst 3, 1) := by decide +kernel
theorem dX5_waitForDigit_66 : decode cX5_waitForDigit 66 = .ok (.invokevirtual 61, 3) := by decide +kernel
theorem dX5_waitForDigit_69 : decode cX5_waitForDigit 69 = .ok (.goto 23, 3) := by decide +kernel
theorem dX5_waitForDigit_72 : decode cX5_waitForDigit 72 = .ok (.aload_n 0, 1) := by decide +kernel
theorem dX5_waitForDigit_73 : decode cX5_waitForDigit 73 = .ok (.iload_n 1, 1) := by decide +kernel
theorem dX5_waitForDigit_74 : decode cX5_waitForDigit 74 = .ok (.bipush 7, 2) := by decide +kernel
theorem dX5_waitForDigit_76 : decode cX5_waitForDigit 76 = .ok (.aload_n 0, 1) := by decide +kernel
theorem dX5_waitForDigit_77 : decode cX5_waitForDigit 77 = .ok (.iconst 0, 1) := by decide +kernel
theorem dX5_waitForDigit_78 : decode cX5_waitForDigit 78 = .ok (.invokevirtual 53, 3) := by decide +kernel
theorem dX5_waitForDigit_81 : decode cX5_waitForDigit 81 = .ok (.invokevirtual 85, 3) := by decide +kernel
theorem dX5_waitForDigit_84 : decode cX5_waitForDigit 84 = .ok (.ifCond .eq 8, 3) := by decide +kernel
theorem dX5_waitForDigit_87 : decode cX5_waitForDigit 87 = .ok (.aload_n 0, 1) := by decide +kernel
theorem dX5_waitForDigit_88 : decode cX5_waitForDigit 88 = .ok (.iload_n 1, 1) := by decide +kernel
theorem dX5_waitForDigit_89 : decode cX5_waitForDigit 89 = .ok (.invokevirtual 88, 3) := by decide +kernel
theorem dX5_waitForDigit_92 : decode cX5_waitForDigit 92 = .ok (.return_, 1) := by decide +kernel
theorem dX5_rise_0 : decode cX5_rise 0 = .ok (.aload_n 0, 1) := by decide +kernel
theorem dX5_rise_1 : decode cX5_rise 1 = .ok (.iload_n 1, 1) := by decide +kernel
theorem dX5_rise_2 : decode cX5_rise 2 = .ok (.iconst 5, 1) := by decide +kernel
theorem dX5_rise_3 : decode cX5_rise 3 = .ok (.aload_n 0, 1) := by decide +kernel
theorem dX5_rise_4 : decode cX5_rise 4 = .ok (.iload_n 1, 1) := by decide +kernel
theorem dX5_rise_5 : decode cX5_rise 5 = .ok (.iconst 5, 1) := by decide +kernel
theorem dX5_rise_6 : decode cX5_rise 6 = .ok (.invokevirtual 41, 3) := by decide +kernel
theorem dX5_rise_9 : decode cX5_rise 9 = .ok (.iconst 1, 1) := by decide +kernel
theorem dX5_rise_10 : decode cX5_rise 10 = .ok (.isub, 1) := by decide +kernel
theorem dX5_rise_11 : decode cX5_rise 11 = .ok (.invokevirtual 45, 3) := by decide +kernel
theorem dX5_rise_14 : decode cX5_rise 14 = .ok (.aload_n 0, 1) := by decide +kernel
theorem dX5_rise_15 : decode cX5_rise 15 = .ok (.iload_n 1, 1) := by decide +kernel
theorem dX5_rise_16 : decode cX5_rise 16 = .ok (.iconst 3, 1) := by decide +kernel
theorem dX5_rise_17 : decode cX5_rise 17 = .ok (.aload_n 0, 1) := by decide +kernel
theorem dX5_rise_18 : decode cX5_rise 18 = .ok (.iload_n 1, 1) := by decide +kernel
theorem dX5_rise_19 : decode cX5_rise 19 = .ok (.iconst 3, 1) := by decide +kernel
theorem dX5_rise_20 : decode cX5_rise 20 = .ok (.invokevirtual 41, 3) := by decide +kernel
theorem dX5_rise_23 : decode cX5_rise 23 = .ok (.iconst 1, 1) := by decide +kernel
theorem dX5_rise_24 : decode cX5_rise 24 = .ok (.iadd, 1) := by decide +kernel
theorem dX5_rise_25 : decode cX5_rise 25 = .ok (.invokevirtual 45, 3) := by decide +kernel
theorem dX5_rise_28 : decode cX5_rise 28 = .ok (.aload_n 0, 1) := by decide +kernel
theorem dX5_rise_29 : decode cX5_rise 29 = .ok (.iload_n 1, 1) := by decide +kernel
theorem dX5_rise_30 : decode cX5_rise 30 = .ok (.iconst 5, 1) := by decide +kernel
theorem dX5_rise_31 : decode cX5_rise 31 = .ok (.invokevirtual 41, 3) := by decide +kernel
theorem dX5_rise_34 : decode cX5_rise 34 = .ok (.ifCond .ne 30, 3) := by decide +kernel
theorem dX5_rise_37 : decode cX5_rise 37 = .ok (.aload_n 0, 1) := by decide +kernel
theorem dX5_rise_38 : decode cX5_rise 38 = .ok (.iload_n 1, 1) := by decide +kernel
theorem dX5_rise_39 : decode cX5_rise 39 = .ok (.iconst 3, 1) := by decide +kernel
theorem dX5_rise_40 : decode cX5_rise 40 = .ok (.invokevirtual 41, 3) := by decide +kernel
theorem dX5_rise_43 : decode cX5_rise 43 = .ok (.iconst 4, 1) := by decide +kernel
theorem dX5_rise_44 : decode cX5_rise 44 = .ok (.if_icmp .gt 20, 3) := by decide +kernel
theorem dX5_rise_47 : decode cX5_rise 47 = .ok (.aload_n 0, 1) := by decide +kernel
theorem dX5_rise_48 : decode cX5_rise 48 = .ok (.iload_n 1, 1) := by decide +kernel
theorem dX5_rise_49 : decode cX5_rise 49 = .ok (.iconst 0, 1) := by decide +kernel
theorem dX5_rise_50 : decode cX5_rise 50 = .ok (.iconst 4, 1) := by decide +kernel
theorem dX5_rise_51 : decode cX5_rise 51 = .ok (.invokevirtual 45, 3) := by decide +kernel
theorem dX5_rise_54 : decode cX5_rise 54 = .ok (.aload_n 0, 1) := by decide +kernel
theorem dX5_rise_55 : decode cX5_rise 55 = .ok (.iload_n 1, 1) := by decide +kernel
theorem dX5_rise_56 : decode cX5_rise 56 = .ok (.iconst 4, 1) := by decide +kernel
theorem dX5_rise_57 : decode cX5_rise 57 = .ok (.iconst 0, 1) := by decide +kernel
theorem dX5_rise_58 : decode cX5_rise 58 = .ok (.invokevirtual 45, 3) := by decide +kernel
theorem dX5_rise_61 : decode cX5_rise 61 = .ok (.goto 20, 3) := by decide +kernel
theorem dX5_rise_64 : decode cX5_rise 64 = .ok (.aload_n 0, 1) := by decide +kernel
theorem dX5_rise_65 : decode cX5_rise 65 = .ok (.iload_n 1, 1) := by decide +kernel
theorem dX5_rise_66 : decode cX5_rise 66 = .ok (.iconst 5, 1) := by decide +kernel
theorem dX5_rise_67 : decode cX5_rise 67 = .ok (.invokevirtual 41, 3) := by decide +kernel
theorem dX5_rise_70 : decode cX5_rise 70 = .ok (.ifCond .ne 11, 3) := by decide +kernel
theorem dX5_rise_73 : decode cX5_rise 73 = .ok (.aload_n 0, 1) := by decide +kernel
theorem dX5_rise_74 : decode cX5_rise 74 = .ok (.iload_n 1, 1) := by decide +kernel
theorem dX5_rise_75 : decode cX5_rise 75 = .ok (.bipush 9, 2) := by decide +kernel
theorem dX5_rise_77 : decode cX5_rise 77 = .ok (.iconst 3, 1) := by decide +kernel
theorem dX5_rise_78 : decode cX5_rise 78 = .ok (.invokevirtual 91, 3) := by decide +kernel
theorem dX5_rise_81 : decode cX5_rise 81 = .ok (.return_, 1) := by decide +kernel
theorem dX5_hunt_0 : decode cX5_hunt 0 = .ok (.aload_n 0, 1) := by decide +kernel
theorem dX5_hunt_1 : decode cX5_hunt 1 = .ok (.iload_n 1, 1) := by decide +kernel
theorem dX5_hunt_2 : decode cX5_hunt 2 = .ok (.iconst 4, 1) := by decide +kernel
theorem dX5_hunt_3 : decode cX5_hunt 3 = .ok (.invokevirtual 41, 3) := by decide +kernel
theorem dX5_hunt_6 : decode cX5_hunt 6 = .ok (.istore_n 2, 1) := by decide +kernel
theorem dX5_hunt_7 : decode cX5_hunt 7 = .ok (.aload_n 0, 1) := by decide +kernel
theorem dX5_hunt_8 : decode cX5_hunt 8 = .ok (.aload_n 0, 1) := by decide +kernel
theorem dX5_hunt_9 : decode cX5_hunt 9 = .ok (.iload_n 1, 1) := by decide +kernel
theorem dX5_hunt_10 : decode cX5_hunt 10 = .ok (.iconst 3, 1) := by decide +kernel
theorem dX5_hunt_11 : decode cX5_hunt 11 = .ok (.invokevirtual 41, 3) := by decide +kernel
theorem dX5_hunt_14 : decode cX5_hunt 14 = .ok (.iload_n 2, 1) := by decide +kernel
theorem dX5_hunt_15 : decode cX5_hunt 15 = .ok (.invokevirtual 94, 3) := by decide +kernel
theorem dX5_hunt_18 : decode cX5_hunt 18 = .ok (.ifCond .ge 21, 3) := by decide +kernel
theorem dX5_hunt_21 : decode cX5_hunt 21 = .ok (.aload_n 0, 1) := by decide +kernel
theorem dX5_hunt_22 : decode cX5_hunt 22 = .ok (.iload_n 1, 1) := by decide +kernel
theorem dX5_hunt_23 : decode cX5_hunt 23 = .ok (.iconst 0, 1) := by decide +kernel
theorem dX5_hunt_24 : decode cX5_hunt 24 = .ok (.iconst 5, 1) := by decide +kernel
theorem dX5_hunt_25 : decode cX5_hunt 25 = .ok (.invokevirtual 45, 3) := by decide +kernel
theorem dX5_hunt_28 : decode cX5_hunt 28 = .ok (.aload_n 0, 1) := by decide +kernel
theorem dX5_hunt_29 : decode cX5_hunt 29 = .ok (.iload_n 1, 1) := by decide +kernel
theorem dX5_hunt_30 : decode cX5_hunt 30 = .ok (.bipush 7, 2) := by decide +kernel
theorem dX5_hunt_32 : decode cX5_hunt 32 = .ok (.iconst 0, 1) := by decide +kernel
theorem dX5_hunt_33 : decode cX5_hunt 33 = .ok (.invokevirtual 45, 3) := by decide +kernel
theorem dX5_hunt_36 : decode cX5_hunt 36 = .ok (.goto 35, 3) := by decide +kernel
theorem dX5_hunt_39 : decode cX5_hunt 39 = .ok (.iload_n 2, 1) := by decide +kernel
theorem dX5_hunt_40 : decode cX5_hunt 40 = .ok (.iconst 1, 1) := by decide +kernel
theorem dX5_hunt_41 : decode cX5_hunt 41 = .ok (.iadd, 1) := by decide +kernel
theorem dX5_hunt_42 : decode cX5_hunt 42 = .ok (.aload_n 0, 1) := by decide +kernel
theorem dX5_hunt_43 : decode cX5_hunt 43 = .ok (.getfield 7, 3) := by decide +kernel
theorem dX5_hunt_46 : decode cX5_hunt 46 = .ok (.iconst 2, 1) := by decide +kernel
theorem dX5_hunt_47 : decode cX5_hunt 47 = .ok (.iaload, 1) := by decide +kernel
theorem dX5_hunt_48 : decode cX5_hunt 48 = .ok (.if_icmp .ge 15, 3) := by decide +kernel
theorem dX5_hunt_51 : decode cX5_hunt 51 = .ok (.aload_n 0, 1) := by decide +kernel
theorem dX5_hunt_52 : decode cX5_hunt 52 = .ok (.iload_n 1, 1) := by decide +kernel
theorem dX5_hunt_53 : decode cX5_hunt 53 = .ok (.iconst 4, 1) := by decide +kernel
theorem dX5_hunt_54 : decode cX5_hunt 54 = .ok (.iload_n 2, 1) := by decide +kernel
theorem dX5_hunt_55 : decode cX5_hunt 55 = .ok (.iconst 1, 1) := by decide +kernel
theorem dX5_hunt_56 : decode cX5_hunt 56 = .ok (.iadd, 1) := by decide +kernel
theorem dX5_hunt_57 : decode cX5_hunt 57 = .ok (.invokevirtual 45, 3) := by decide +kernel
theorem dX5_hunt_60 : decode cX5_hunt 60 = .ok (.goto 11, 3) := by decide +kernel
theorem dX5_hunt_63 : decode cX5_hunt 63 = .ok (.aload_n 0, 1) := by decide +kernel
theorem dX5_hunt_64 : decode cX5_hunt 64 = .ok (.iload_n 1, 1) := by decide +kernel
theorem dX5_hunt_65 : decode cX5_hunt 65 = .ok (.bipush 8, 2) := by decide +kernel
theorem dX5_hunt_67 : decode cX5_hunt 67 = .ok (.iconst 2, 1) := by decide +kernel
theorem dX5_hunt_68 : decode cX5_hunt 68 = .ok (.invokevirtual 91, 3) := by decide +kernel
theorem dX5_hunt_71 : decode cX5_hunt 71 = .ok (.return_, 1) := by decide +kernel
theorem dX5_test_0 : decode cX5_test 0 = .ok (.iconst 4, 1) := by decide +kernel
theorem dX5_test_1 : decode cX5_test 1 = .ok (.aload_n 0, 1) := by decide +kernel
theorem dX5_test_2 : decode cX5_test 2 = .ok (.iload_n 1, 1) := by decide +kernel
theorem dX5_test_3 : decode cX5_test 3 = .ok (.iconst 3, 1) := by decide +kernel
theorem dX5_test_4 : decode cX5_test 4 = .ok (.invokevirtual 41, 3) := by decide +kernel
theorem dX5_test_7 : decode cX5_test 7 = .ok (.iconst 1, 1) := by decide +kernel
theorem dX5_test_8 : decode cX5_test 8 = .ok (.isub, 1) := by decide +kernel
theorem dX5_test_9 : decode cX5_test 9 = .ok (.imul, 1) := by decide +kernel
theorem dX5_test_10 : decode cX5_test 10 = .ok (.aload_n 0, 1) := by decide +kernel
theorem dX5_test_11 : decode cX5_test 11 = .ok (.iload_n 1, 1) := by decide +kernel
theorem dX5_test_12 : decode cX5_test 12 = .ok (.bipush 6, 2) := by decide +kernel
theorem dX5_test_14 : decode cX5_test 14 = .ok (.invokevirtual 41, 3) := by decide +kernel
theorem dX5_test_17 : decode cX5_test 17 = .ok (.iadd, 1) := by decide +kernel
theorem dX5_test_18 : decode cX5_test 18 = .ok (.iconst 1, 1) := by decide +kernel
theorem dX5_test_19 : decode cX5_test 19 = .ok (.isub, 1) := by decide +kernel
theorem dX5_test_20 : decode cX5_test 20 = .ok (.istore_n 2, 1) := by decide +kernel
theorem dX5_test_21 : decode cX5_test 21 = .ok (.aload_n 0, 1) := by decide +kernel
theorem dX5_test_22 : decode cX5_test 22 = .ok (.iload_n 2, 1) := by decide +kernel
theorem dX5_test_23 : decode cX5_test 23 = .ok (.iconst 0, 1) := by decide +kernel
theorem dX5_test_24 : decode cX5_test 24 = .ok (.invokevirtual 67, 3) := by decide +kernel
theorem dX5_test_27 : decode cX5_test 27 = .ok (.ifCond .eq 12, 3) := by decide +kernel
theorem dX5_test_30 : decode cX5_test 30 = .ok (.aload_n 0, 1) := by decide +kernel
theorem dX5_test_31 : decode cX5_test 31 = .ok (.iload_n 1, 1) := by decide +kernel
theorem dX5_test_32 : decode cX5_test 32 = .ok (.bipush 8, 2) := by decide +kernel
theorem dX5_test_34 : decode cX5_test 34 = .ok (.iconst 1, 1) := by decide +kernel
theorem dX5_test_35 : decode cX5_test 35 = .ok (.invokevirtual 91, 3) := by decide +kernel
theorem dX5_test_38 : decode cX5_test 38 = .ok (.return_, 1) := by decide +kernel
theorem dX5_test_39 : decode cX5_test 39 = .ok (.aload_n 0, 1) := by decide +kernel
theorem dX5_test_40 : decode cX5_test 40 = .ok (.iload_n 1, 1) := by decide +kernel
theorem dX5_test_41 : decode cX5_test 41 = .ok (.iconst 0, 1) := by decide +kernel
theorem dX5_test_42 : decode cX5_test 42 = .ok (.bipush 7, 2) := by decide +kernel
theorem dX5_test_44 : decode cX5_test 44 = .ok (.invokevirtual 45, 3) := by decide +kernel
theorem dX5_test_47 : decode cX5_test 47 = .ok (.aload_n 0, 1) := by decide +kernel
theorem dX5_test_48 : decode cX5_test 48 = .ok (.iload_n 1, 1) := by decide +kernel
theorem dX5_test_49 : decode cX5_test 49 = .ok (.bipush 7, 2) := by decide +kernel
theorem dX5_test_51 : decode cX5_test 51 = .ok (.iconst 0, 1) := by decide +kernel
theorem dX5_test_52 : decode cX5_test 52 = .ok (.invokevirtual 45, 3) := by decide +kernel
theorem dX5_test_55 : decode cX5_test 55 = .ok (.aload_n 0, 1) := by decide +kernel
theorem dX5_test_56 : decode cX5_test 56 = .ok (.iload_n 1, 1) := by decide +kernel
theorem dX5_test_57 : decode cX5_test 57 = .ok (.bipush 9, 2) := by decide +kernel
theorem dX5_test_59 : decode cX5_test 59 = .ok (.iload_n 2, 1) := by decide +kernel
theorem dX5_test_60 : decode cX5_test 60 = .ok (.invokevirtual 45, 3) := by decide +kernel
theorem dX5_test_63 : decode cX5_test 63 = .ok (.aload_n 0, 1) := by decide +kernel
theorem dX5_test_64 : decode cX5_test 64 = .ok (.aload_n 0, 1) := by decide +kernel
theorem dX5_test_65 : decode cX5_test 65 = .ok (.iload_n 1, 1) := by decide +kernel
theorem dX5_test_66 : decode cX5_test 66 = .ok (.iconst 2, 1) := by decide +kernel
theorem dX5_test_67 : decode cX5_test 67 = .ok (.invokevirtual 41, 3) := by decide +kernel
theorem dX5_test_70 : decode cX5_test 70 = .ok (.iconst 0, 1) := by decide +kernel
theorem dX5_test_71 : decode cX5_test 71 = .ok (.iconst 4, 1) := by decide +kernel
theorem dX5_test_72 : decode cX5_test 72 = .ok (.invokevirtual 61, 3) := by decide +kernel
theorem dX5_test_75 : decode cX5_test 75 = .ok (.aload_n 0, 1) := by decide +kernel
theorem dX5_test_76 : decode cX5_test 76 = .ok (.iload_n 2, 1) := by decide +kernel
theorem dX5_test_77 : decode cX5_test 77 = .ok (.iconst 0, 1) := by decide +kernel
theorem dX5_test_78 : decode cX5_test 78 = .ok (.iconst 5, 1) := by decide +kernel
theorem dX5_test_79 : decode cX5_test 79 = .ok (.invokevirtual 61, 3) := by decide +kernel
theorem dX5_test_82 : decode cX5_test 82 = .ok (.aload_n 0, 1) := by decide +kernel
theorem dX5_test_83 : decode cX5_test 83 = .ok (.iconst 2, 1) := by decide +kernel
theorem dX5_test_84 : decode cX5_test 84 = .ok (.invokevirtual 70, 3) := by decide +kernel
theorem dX5_test_87 : decode cX5_test 87 = .ok (.return_, 1) := by decide +kernel
theorem dX5_step_0 : decode cX5_step 0 = .ok (.aload_n 0, 1) := by decide +kernel
theorem dX5_step_1 : decode cX5_step 1 = .ok (.iload_n 1, 1) := by decide +kernel
theorem dX5_step_2 : decode cX5_step 2 = .ok (.iconst 5, 1) := by decide +kernel
theorem dX5_step_3 : decode cX5_step 3 = .ok (.aload_n 0, 1) := by decide +kernel
theorem dX5_step_4 : decode cX5_step 4 = .ok (.iload_n 1, 1) := by decide +kernel
theorem dX5_step_5 : decode cX5_step 5 = .ok (.iconst 5, 1) := by decide +kernel
theorem dX5_step_6 : decode cX5_step 6 = .ok (.invokevirtual 41, 3) := by decide +kernel
theorem dX5_step_9 : decode cX5_step 9 = .ok (.iconst 1, 1) := by decide +kernel
theorem dX5_step_10 : decode cX5_step 10 = .ok (.isub, 1) := by decide +kernel
theorem dX5_step_11 : decode cX5_step 11 = .ok (.invokevirtual 45, 3) := by decide +kernel
theorem dX5_step_14 : decode cX5_step 14 = .ok (.aload_n 0, 1) := by decide +kernel
theorem dX5_step_15 : decode cX5_step 15 = .ok (.iload_n 1, 1) := by decide +kernel
theorem dX5_step_16 : decode cX5_step 16 = .ok (.iconst 5, 1) := by decide +kernel
theorem dX5_step_17 : decode cX5_step 17 = .ok (.invokevirtual 41, 3) := by decide +kernel
theorem dX5_step_20 : decode cX5_step 20 = .ok (.ifCond .le 4, 3) := by decide +kernel
theorem dX5_step_23 : decode cX5_step 23 = .ok (.return_, 1) := by decide +kernel
theorem dX5_step_24 : decode cX5_step 24 = .ok (.aload_n 0, 1) := by decide +kernel
theorem dX5_step_25 : decode cX5_step 25 = .ok (.iload_n 1, 1) := by decide +kernel
theorem dX5_step_26 : decode cX5_step 26 = .ok (.bipush 6, 2) := by decide +kernel
theorem dX5_step_28 : decode cX5_step 28 = .ok (.invokevirtual 41, 3) := by decide +kernel
theorem dX5_step_31 : decode cX5_step 31 = .ok (.iconst 4, 1) := by decide +kernel
theorem dX5_step_32 : decode cX5_step 32 = .ok (.if_icmp .le 14, 3) := by decide +kernel
theorem dX5_step_35 : decode cX5_step 35 = .ok (.aload_n 0, 1) := by decide +kernel
theorem dX5_step_36 : decode cX5_step 36 = .ok (.iload_n 1, 1) := by decide +kernel
theorem dX5_step_37 : decode cX5_step 37 = .ok (.bipush 9, 2) := by decide +kernel
theorem dX5_step_39 : decode cX5_step 39 = .ok (.iconst 3, 1) := by decide +kernel
theorem dX5_step_40 : decode cX5_step 40 = .ok (.invokevirtual 91, 3) := by decide +kernel
theorem dX5_step_43 : decode cX5_step 43 = .ok (.goto 8, 3) := by decide +kernel
theorem dX5_step_46 : decode cX5_step 46 = .ok (.aload_n 0, 1) := by decide +kernel
theorem dX5_step_47 : decode cX5_step 47 = .ok (.iload_n 1, 1) := by decide +kernel
theorem dX5_step_48 : decode cX5_step 48 = .ok (.invokevirtual 97, 3) := by decide +kernel
theorem dX5_step_51 : decode cX5_step 51 = .ok (.return_, 1) := by decide +kernel
theorem dX5_meter_0 : decode cX5_meter 0 = .ok (.aload_n 0, 1) := by decide +kernel
theorem dX5_meter_1 : decode cX5_meter 1 = .ok (.iload_n 1, 1) := by decide +kernel
theorem dX5_meter_2 : decode cX5_meter 2 = .ok (.iconst 2, 1) := by decide +kernel
theorem dX5_meter_3 : decode cX5_meter 3 = .ok (.aload_n 0, 1) := by decide +kernel
theorem dX5_meter_4 : decode cX5_meter 4 = .ok (.iload_n 1, 1) := by decide +kernel
theorem dX5_meter_5 : decode cX5_meter 5 = .ok (.iconst 2, 1) := by decide +kernel
theorem dX5_meter_6 : decode cX5_meter 6 = .ok (.invokevirtual 67, 3) := by decide +kernel
theorem dX5_meter_9 : decode cX5_meter 9 = .ok (.iconst 1, 1) := by decide +kernel
theorem dX5_meter_10 : decode cX5_meter 10 = .ok (.iadd, 1) := by decide +kernel
theorem dX5_meter_11 : decode cX5_meter 11 = .ok (.invokevirtual 61, 3) := by decide +kernel
theorem dX5_meter_14 : decode cX5_meter 14 = .ok (.return_, 1) := by decide +kernel
theorem dX5_ring_0 : decode cX5_ring 0 = .ok (.aload_n 0, 1) := by decide +kernel
theorem dX5_ring_1 : decode cX5_ring 1 = .ok (.iload_n 1, 1) := by decide +kernel
theorem dX5_ring_2 : decode cX5_ring 2 = .ok (.iconst 2, 1) := by decide +kernel
theorem dX5_ring_3 : decode cX5_ring 3 = .ok (.invokevirtual 41, 3) := by decide +kernel
theorem dX5_ring_6 : decode cX5_ring 6 = .ok (.istore_n 2, 1) := by decide +kernel
theorem dX5_ring_7 : decode cX5_ring 7 = .ok (.aload_n 0, 1) := by decide +kernel
theorem dX5_ring_8 : decode cX5_ring 8 = .ok (.iload_n 1, 1) := by decide +kernel
theorem dX5_ring_9 : decode cX5_ring 9 = .ok (.bipush 9, 2) := by decide +kernel
theorem dX5_ring_11 : decode cX5_ring 11 = .ok (.invokevirtual 41, 3) := by decide +kernel
theorem dX5_ring_14 : decode cX5_ring 14 = .ok (.istore_n 3, 1) := by decide +kernel
theorem dX5_ring_15 : decode cX5_ring 15 = .ok (.aload_n 0, 1) := by decide +kernel
theorem dX5_ring_16 : decode cX5_ring 16 = .ok (.iload_n 3, 1) := by decide +kernel
theorem dX5_ring_17 : decode cX5_ring 17 = .ok (.iconst 1, 1) := by decide +kernel
theorem dX5_ring_18 : decode cX5_ring 18 = .ok (.invokevirtual 67, 3) := by decide +kernel
theorem dX5_ring_21 : decode cX5_ring 21 = .ok (.iconst 1, 1) := by decide +kernel
theorem dX5_ring_22 : decode cX5_ring 22 = .ok (.if_icmp .ne 56, 3) := by decide +kernel
theorem dX5_ring_25 : decode cX5_ring 25 = .ok (.aload_n 0, 1) := by decide +kernel
theorem dX5_ring_26 : decode cX5_ring 26 = .ok (.iload_n 1, 1) := by decide +kernel
theorem dX5_ring_27 : decode cX5_ring 27 = .ok (.iconst 0, 1) := by decide +kernel
theorem dX5_ring_28 : decode cX5_ring 28 = .ok (.bipush 8, 2) := by decide +kernel
theorem dX5_ring_30 : decode cX5_ring 30 = .ok (.invokevirtual 45, 3) := by decide +kernel
theorem dX5_ring_33 : decode cX5_ring 33 = .ok (.aload_n 0, 1) := by decide +kernel
theorem dX5_ring_34 : decode cX5_ring 34 = .ok (.iload_n 1, 1) := by decide +kernel
theorem dX5_ring_35 : decode cX5_ring 35 = .ok (.bipush 7, 2) := by decide +kernel
theorem dX5_ring_37 : decode cX5_ring 37 = .ok (.iconst 0, 1) := by decide +kernel
theorem dX5_ring_38 : decode cX5_ring 38 = .ok (.invokevirtual 45, 3) := by decide +kernel
theorem dX5_ring_41 : decode cX5_ring 41 = .ok (.aload_n 0, 1) := by decide +kernel
theorem dX5_ring_42 : decode cX5_ring 42 = .ok (.iload_n 1, 1) := by decide +kernel
theorem dX5_ring_43 : decode cX5_ring 43 = .ok (.bipush 8, 2) := by decide +kernel
theorem dX5_ring_45 : decode cX5_ring 45 = .ok (.iconst 0, 1) := by decide +kernel
theorem dX5_ring_46 : decode cX5_ring 46 = .ok (.invokevirtual 45, 3) := by decide +kernel
theorem dX5_ring_49 : decode cX5_ring 49 = .ok (.aload_n 0, 1) := by decide +kernel
theorem dX5_ring_50 : decode cX5_ring 50 = .ok (.iload_n 2, 1) := by decide +kernel
theorem dX5_ring_51 : decode cX5_ring 51 = .ok (.iconst 0, 1) := by decide +kernel
theorem dX5_ring_52 : decode cX5_ring 52 = .ok (.bipush 6, 2) := by decide +kernel
theorem dX5_ring_54 : decode cX5_ring 54 = .ok (.invokevirtual 61, 3) := by decide +kernel
theorem dX5_ring_57 : decode cX5_ring 57 = .ok (.aload_n 0, 1) := by decide +kernel
theorem dX5_ring_58 : decode cX5_ring 58 = .ok (.iload_n 3, 1) := by decide +kernel
theorem dX5_ring_59 : decode cX5_ring 59 = .ok (.iconst 0, 1) := by decide +kernel
theorem dX5_ring_60 : decode cX5_ring 60 = .ok (.bipush 7, 2) := by decide +kernel
theorem dX5_ring_62 : decode cX5_ring 62 = .ok (.invokevirtual 61, 3) := by decide +kernel
theorem dX5_ring_65 : decode cX5_ring 65 = .ok (.aload_n 0, 1) := by decide +kernel
theorem dX5_ring_66 : decode cX5_ring 66 = .ok (.iload_n 2, 1) := by decide +kernel
theorem dX5_ring_67 : decode cX5_ring 67 = .ok (.invokevirtual 100, 3) := by decide +kernel
theorem dX5_ring_70 : decode cX5_ring 70 = .ok (.aload_n 0, 1) := by decide +kernel
theorem dX5_ring_71 : decode cX5_ring 71 = .ok (.iconst 3, 1) := by decide +kernel
theorem dX5_ring_72 : decode cX5_ring 72 = .ok (.invokevirtual 70, 3) := by decide +kernel
theorem dX5_ring_75 : decode cX5_ring 75 = .ok (.goto 33, 3) := by decide +kernel
theorem dX5_ring_78 : decode cX5_ring 78 = .ok (.aload_n 0, 1) := by decide +kernel
theorem dX5_ring_79 : decode cX5_ring 79 = .ok (.iload_n 1, 1) := by decide +kernel
theorem dX5_ring_80 : decode cX5_ring 80 = .ok (.bipush 7, 2) := by decide +kernel
theorem dX5_ring_82 : decode cX5_ring 82 = .ok (.aload_n 0, 1) := by decide +kernel
theorem dX5_ring_83 : decode cX5_ring 83 = .ok (.iconst 1, 1) := by decide +kernel
theorem dX5_ring_84 : decode cX5_ring 84 = .ok (.invokevirtual 53, 3) := by decide +kernel
theorem dX5_ring_87 : decode cX5_ring 87 = .ok (.invokevirtual 85, 3) := by decide +kernel
theorem dX5_ring_90 : decode cX5_ring 90 = .ok (.ifCond .eq 18, 3) := by decide +kernel
theorem dX5_ring_93 : decode cX5_ring 93 = .ok (.aload_n 0, 1) := by decide +kernel
theorem dX5_ring_94 : decode cX5_ring 94 = .ok (.iload_n 1, 1) := by decide +kernel
theorem dX5_ring_95 : decode cX5_ring 95 = .ok (.bipush 8, 2) := by decide +kernel
theorem dX5_ring_97 : decode cX5_ring 97 = .ok (.iconst 4, 1) := by decide +kernel
theorem dX5_ring_98 : decode cX5_ring 98 = .ok (.invokevirtual 91, 3) := by decide +kernel
theorem dX5_ring_101 : decode cX5_ring 101 = .ok (.aload_n 0, 1) := by decide +kernel
theorem dX5_ring_102 : decode cX5_ring 102 = .ok (.iload_n 3, 1) := by decide +kernel
theorem dX5_ring_103 : decode cX5_ring 103 = .ok (.iconst 0, 1) := by decide +kernel
theorem dX5_ring_104 : decode cX5_ring 104 = .ok (.iconst 0, 1) := by decide +kernel
theorem dX5_ring_105 : decode cX5_ring 105 = .ok (.invokevirtual 61, 3) := by decide +kernel
theorem dX5_ring_108 : decode cX5_ring 108 = .ok (.return_, 1) := by decide +kernel
theorem dX5_talk_0 : decode cX5_talk 0 = .ok (.aload_n 0, 1) := by decide +kernel
theorem dX5_talk_1 : decode cX5_talk 1 = .ok (.iload_n 1, 1) := by decide +kernel
theorem dX5_talk_2 : decode cX5_talk 2 = .ok (.iconst 2, 1) := by decide +kernel
theorem dX5_talk_3 : decode cX5_talk 3 = .ok (.invokevirtual 41, 3) := by decide +kernel
theorem dX5_talk_6 : decode cX5_talk 6 = .ok (.istore_n 2, 1) := by decide +kernel
theorem dX5_talk_7 : decode cX5_talk 7 = .ok (.aload_n 0, 1) := by decide +kernel
theorem dX5_talk_8 : decode cX5_talk 8 = .ok (.iload_n 1, 1) := by decide +kernel
theorem dX5_talk_9 : decode cX5_talk 9 = .ok (.bipush 9, 2) := by decide +kernel
theorem dX5_talk_11 : decode cX5_talk 11 = .ok (.invokevirtual 41, 3) := by decide +kernel
theorem dX5_talk_14 : decode cX5_talk 14 = .ok (.istore_n 3, 1) := by decide +kernel
theorem dX5_talk_15 : decode cX5_talk 15 = .ok (.aload_n 0, 1) := by decide +kernel
theorem dX5_talk_16 : decode cX5_talk 16 = .ok (.iload_n 3, 1) := by decide +kernel
theorem dX5_talk_17 : decode cX5_talk 17 = .ok (.iconst 1, 1) := by decide +kernel
theorem dX5_talk_18 : decode cX5_talk 18 = .ok (.invokevirtual 67, 3) := by decide +kernel
theorem dX5_talk_21 : decode cX5_talk 21 = .ok (.iconst 1, 1) := by decide +kernel
theorem dX5_talk_22 : decode cX5_talk 22 = .ok (.if_icmp .ne 14, 3) := by decide +kernel
theorem dX5_talk_25 : decode cX5_talk 25 = .ok (.aload_n 0, 1) := by decide +kernel
theorem dX5_talk_26 : decode cX5_talk 26 = .ok (.iload_n 1, 1) := by decide +kernel
theorem dX5_talk_27 : decode cX5_talk 27 = .ok (.bipush 8, 2) := by decide +kernel
theorem dX5_talk_29 : decode cX5_talk 29 = .ok (.iconst 0, 1) := by decide +kernel
theorem dX5_talk_30 : decode cX5_talk 30 = .ok (.invokevirtual 45, 3) := by decide +kernel
theorem dX5_talk_33 : decode cX5_talk 33 = .ok (.goto 44, 3) := by decide +kernel
theorem dX5_talk_36 : decode cX5_talk 36 = .ok (.aload_n 0, 1) := by decide +kernel
theorem dX5_talk_37 : decode cX5_talk 37 = .ok (.iload_n 1, 1) := by decide +kernel
theorem dX5_talk_38 : decode cX5_talk 38 = .ok (.bipush 8, 2) := by decide +kernel
theorem dX5_talk_40 : decode cX5_talk 40 = .ok (.aload_n 0, 1) := by decide +kernel
theorem dX5_talk_41 : decode cX5_talk 41 = .ok (.iconst 3, 1) := by decide +kernel
theorem dX5_talk_42 : decode cX5_talk 42 = .ok (.invokevirtual 53, 3) := by decide +kernel
theorem dX5_talk_45 : decode cX5_talk 45 = .ok (.invokevirtual 85, 3) := by decide +kernel
theorem dX5_talk_48 : decode cX5_talk 48 = .ok (.ifCond .eq 29, 3) := by decide +kernel
theorem dX5_talk_51 : decode cX5_talk 51 = .ok (.aload_n 0, 1) := by decide +kernel
theorem dX5_talk_52 : decode cX5_talk 52 = .ok (.iload_n 1, 1) := by decide +kernel
theorem dX5_talk_53 : decode cX5_talk 53 = .ok (.invokevirtual 37, 3) := by decide +kernel
theorem dX5_talk_56 : decode cX5_talk 56 = .ok (.aload_n 0, 1) := by decide +kernel
theorem dX5_talk_57 : decode cX5_talk 57 = .ok (.iload_n 2, 1) := by decide +kernel
theorem dX5_talk_58 : decode cX5_talk 58 = .ok (.invokevirtual 76, 3) := by decide +kernel
theorem dX5_talk_61 : decode cX5_talk 61 = .ok (.aload_n 0, 1) := by decide +kernel
theorem dX5_talk_62 : decode cX5_talk 62 = .ok (.iload_n 2, 1) := by decide +kernel
theorem dX5_talk_63 : decode cX5_talk 63 = .ok (.iconst 3, 1) := by decide +kernel
theorem dX5_talk_64 : decode cX5_talk 64 = .ok (.bipush 6, 2) := by decide +kernel
theorem dX5_talk_66 : decode cX5_talk 66 = .ok (.invokevirtual 61, 3) := by decide +kernel
theorem dX5_talk_69 : decode cX5_talk 69 = .ok (.aload_n 0, 1) := by decide +kernel
theorem dX5_talk_70 : decode cX5_talk 70 = .ok (.iload_n 3, 1) := by decide +kernel
theorem dX5_talk_71 : decode cX5_talk 71 = .ok (.iconst 0, 1) := by decide +kernel
theorem dX5_talk_72 : decode cX5_talk 72 = .ok (.iconst 0, 1) := by decide +kernel
theorem dX5_talk_73 : decode cX5_talk 73 = .ok (.invokevirtual 61, 3) := by decide +kernel
theorem dX5_talk_76 : decode cX5_talk 76 = .ok (.return_, 1) := by decide +kernel
theorem dX5_talk_77 : decode cX5_talk 77 = .ok (.aload_n 0, 1) := by decide +kernel
theorem dX5_talk_78 : decode cX5_talk 78 = .ok (.iload_n 1, 1) := by decide +kernel
theorem dX5_talk_79 : decode cX5_talk 79 = .ok (.bipush 7, 2) := by decide +kernel
theorem dX5_talk_81 : decode cX5_talk 81 = .ok (.aload_n 0, 1) := by decide +kernel
theorem dX5_talk_82 : decode cX5_talk 82 = .ok (.iload_n 1, 1) := by decide +kernel
theorem dX5_talk_83 : decode cX5_talk 83 = .ok (.bipush 7, 2) := by decide +kernel
theorem dX5_talk_85 : decode cX5_talk 85 = .ok (.invokevirtual 41, 3) := by decide +kernel
theorem dX5_talk_88 : decode cX5_talk 88 = .ok (.iconst 1, 1) := by decide +kernel
theorem dX5_talk_89 : decode cX5_talk 89 = .ok (.iadd, 1) := by decide +kernel
theorem dX5_talk_90 : decode cX5_talk 90 = .ok (.invokevirtual 45, 3) := by decide +kernel
theorem dX5_talk_93 : decode cX5_talk 93 = .ok (.aload_n 0, 1) := by decide +kernel
theorem dX5_talk_94 : decode cX5_talk 94 = .ok (.iload_n 1, 1) := by decide +kernel
theorem dX5_talk_95 : decode cX5_talk 95 = .ok (.bipush 7, 2) := by decide +kernel
theorem dX5_talk_97 : decode cX5_talk 97 = .ok (.invokevirtual 41, 3) := by decide +kernel
theorem dX5_talk_100 : decode cX5_talk 100 = .ok (.aload_n 0, 1) := by decide +kernel
theorem dX5_talk_101 : decode cX5_talk 101 = .ok (.iconst 2, 1) := by decide +kernel
theorem dX5_talk_102 : decode cX5_talk 102 = .ok (.invokevirtual 53, 3) := by decide +kernel
theorem dX5_talk_105 : decode cX5_talk 105 = .ok (.irem, 1) := by decide +kernel
theorem dX5_talk_106 : decode cX5_talk 106 = .ok (.ifCond .ne 8, 3) := by decide +kernel
theorem dX5_talk_109 : decode cX5_talk 109 = .ok (.aload_n 0, 1) := by decide +kernel
theorem dX5_talk_110 : decode cX5_talk 110 = .ok (.iload_n 2, 1) := by decide +kernel
theorem dX5_talk_111 : decode cX5_talk 111 = .ok (.invokevirtual 100, 3) := by decide +kernel
theorem dX5_talk_114 : decode cX5_talk 114 = .ok (.return_, 1) := by decide +kernel
theorem dX5_soundOn_0 : decode cX5_soundOn 0 = .ok (.aload_n 0, 1) := by decide +kernel
theorem dX5_soundOn_1 : decode cX5_soundOn 1 = .ok (.iload_n 1, 1) := by decide +kernel
theorem dX5_soundOn_2 : decode cX5_soundOn 2 = .ok (.iconst 2, 1) := by decide +kernel
theorem dX5_soundOn_3 : decode cX5_soundOn 3 = .ok (.invokevirtual 41, 3) := by decide +kernel
theorem dX5_soundOn_6 : decode cX5_soundOn 6 = .ok (.istore_n 2, 1) := by decide +kernel
theorem dX5_soundOn_7 : decode cX5_soundOn 7 = .ok (.aload_n 0, 1) := by decide +kernel
theorem dX5_soundOn_8 : decode cX5_soundOn 8 = .ok (.iload_n 1, 1) := by decide +kernel
theorem dX5_soundOn_9 : decode cX5_soundOn 9 = .ok (.bipush 7, 2) := by decide +kernel
theorem dX5_soundOn_11 : decode cX5_soundOn 11 = .ok (.aload_n 0, 1) := by decide +kernel
theorem dX5_soundOn_12 : decode cX5_soundOn 12 = .ok (.iconst 0, 1) := by decide +kernel
theorem dX5_soundOn_13 : decode cX5_soundOn 13 = .ok (.invokevirtual 53, 3) := by decide +kernel
theorem dX5_soundOn_16 : decode cX5_soundOn 16 = .ok (.invokevirtual 85, 3) := by decide +kernel
theorem dX5_soundOn_19 : decode cX5_soundOn 19 = .ok (.ifCond .eq 13, 3) := by decide +kernel
theorem dX5_soundOn_22 : decode cX5_soundOn 22 = .ok (.aload_n 0, 1) := by decide +kernel
theorem dX5_soundOn_23 : decode cX5_soundOn 23 = .ok (.iload_n 1, 1) := by decide +kernel
theorem dX5_soundOn_24 : decode cX5_soundOn 24 = .ok (.invokevirtual 37, 3) := by decide +kernel
theorem dX5_soundOn_27 : decode cX5_soundOn 27 = .ok (.aload_n 0, 1) := by decide +kernel
theorem dX5_soundOn_28 : decode cX5_soundOn 28 = .ok (.iload_n 2, 1) := by decide +kernel
theorem dX5_soundOn_29 : decode cX5_soundOn 29 = .ok (.invokevirtual 76, 3) := by decide +kernel
theorem dX5_soundOn_32 : decode cX5_soundOn 32 = .ok (.return_, 1) := by decide +kernel
theorem dX5_stepFinder_0 : decode cX5_stepFinder 0 = .ok (.aload_n 0, 1) := by decide +kernel
theorem dX5_stepFinder_1 : decode cX5_stepFinder 1 = .ok (.iload_n 1, 1) := by decide +kernel
theorem dX5_stepFinder_2 : decode cX5_stepFinder 2 = .ok (.iconst 0, 1) := by decide +kernel
theorem dX5_stepFinder_3 : decode cX5_stepFinder 3 = .ok (.invokevirtual 41, 3) := by decide +kernel
theorem dX5_stepFinder_6 : decode cX5_stepFinder 6 = .ok (.tableswitch 114 1 9 #[50, 58, 66, 74, 58, 82, 90, 98, 106], 50) := by decide +kernel
theorem dX5_stepFinder_56 : decode cX5_stepFinder 56 = .ok (.aload_n 0, 1) := by decide +kernel
theorem dX5_stepFinder_57 : decode cX5_stepFinder 57 = .ok (.iload_n 1, 1) := by decide +kernel
theorem dX5_stepFinder_58 : decode cX5_stepFinder 58 = .ok (.invokevirtual 103, 3) := by decide +kernel
theorem dX5_stepFinder_61 : decode cX5_stepFinder 61 = .ok (.goto 59, 3) := by decide +kernel
theorem dX5_stepFinder_64 : decode cX5_stepFinder 64 = .ok (.aload_n 0, 1) := by decide +kernel
theorem dX5_stepFinder_65 : decode cX5_stepFinder 65 = .ok (.iload_n 1, 1) := by decide +kernel
theorem dX5_stepFinder_66 : decode cX5_stepFinder 66 = .ok (.invokevirtual 106, 3) := by decide +kernel
theorem dX5_stepFinder_69 : decode cX5_stepFinder 69 = .ok (.goto 51, 3) := by decide +kernel
theorem dX5_stepFinder_72 : decode cX5_stepFinder 72 = .ok (.aload_n 0, 1) := by decide +kernel
theorem dX5_stepFinder_73 : decode cX5_stepFinder 73 = .ok (.iload_n 1, 1) := by decide +kernel
theorem dX5_stepFinder_74 : decode cX5_stepFinder 74 = .ok (.invokevirtual 109, 3) := by decide +kernel
theorem dX5_stepFinder_77 : decode cX5_stepFinder 77 = .ok (.goto 43, 3) := by decide +kernel
theorem dX5_stepFinder_80 : decode cX5_stepFinder 80 = .ok (.aload_n 0, 1) := by decide +kernel
theorem dX5_stepFinder_81 : decode cX5_stepFinder 81 = .ok (.iload_n 1, 1) := by decide +kernel
theorem dX5_stepFinder_82 : decode cX5_stepFinder 82 = .ok (.invokevirtual 112, 3) := by decide +kernel
theorem dX5_stepFinder_85 : decode cX5_stepFinder 85 = .ok (.goto 35, 3) := by decide +kernel
theorem dX5_stepFinder_88 : decode cX5_stepFinder 88 = .ok (.aload_n 0, 1) := by decide +kernel
theorem dX5_stepFinder_89 : decode cX5_stepFinder 89 = .ok (.iload_n 1, 1) := by decide +kernel
theorem dX5_stepFinder_90 : decode cX5_stepFinder 90 = .ok (.invokevirtual 115, 3) := by decide +kernel
theorem dX5_stepFinder_93 : decode cX5_stepFinder 93 = .ok (.goto 27, 3) := by decide +kernel
theorem dX5_stepFinder_96 : decode cX5_stepFinder 96 = .ok (.aload_n 0, 1) := by decide +kernel
theorem dX5_stepFinder_97 : decode cX5_stepFinder 97 = .ok (.iload_n 1, 1) := by decide +kernel
theorem dX5_stepFinder_98 : decode cX5_stepFinder 98 = .ok (.invokevirtual 118, 3) := by decide +kernel
theorem dX5_stepFinder_101 : decode cX5_stepFinder 101 = .ok (.goto 19, 3) := by decide +kernel
theorem dX5_stepFinder_104 : decode cX5_stepFinder 104 = .ok (.aload_n 0, 1) := by decide +kernel
theorem dX5_stepFinder_105 : decode cX5_stepFinder 105 = .ok (.iload_n 1, 1) := by decide +kernel
theorem dX5_stepFinder_106 : decode cX5_stepFinder 106 = .ok (.invokevirtual 121, 3) := by decide +kernel
theorem dX5_stepFinder_109 : decode cX5_stepFinder 109 = .ok (.goto 11, 3) := by decide +kernel
theorem dX5_stepFinder_112 : decode cX5_stepFinder 112 = .ok (.aload_n 0, 1) := by decide +kernel
theorem dX5_stepFinder_113 : decode cX5_stepFinder 113 = .ok (.iload_n 1, 1) := by decide +kernel
theorem dX5_stepFinder_114 : decode cX5_stepFinder 114 = .ok (.invokevirtual 124, 3) := by decide +kernel
theorem dX5_stepFinder_117 : decode cX5_stepFinder 117 = .ok (.goto 3, 3) := by decide +kernel
theorem dX5_stepFinder_120 : decode cX5_stepFinder 120 = .ok (.return_, 1) := by decide +kernel
theorem dX5_isQueued_0 : decode cX5_isQueued 0 = .ok (.aload_n 0, 1) := by decide +kernel
theorem dX5_isQueued_1 : decode cX5_isQueued 1 = .ok (.iload_n 1, 1) := by decide +kernel
theorem dX5_isQueued_2 : decode cX5_isQueued 2 = .ok (.iconst 0, 1) := by decide +kernel
theorem dX5_isQueued_3 : decode cX5_isQueued 3 = .ok (.invokevirtual 67, 3) := by decide +kernel
theorem dX5_isQueued_6 : decode cX5_isQueued 6 = .ok (.iconst 1, 1) := by decide +kernel
theorem dX5_isQueued_7 : decode cX5_isQueued 7 = .ok (.if_icmp .ne 15, 3) := by decide +kernel
theorem dX5_isQueued_10 : decode cX5_isQueued 10 = .ok (.aload_n 0, 1) := by decide +kernel
theorem dX5_isQueued_11 : decode cX5_isQueued 11 = .ok (.iload_n 1, 1) := by decide +kernel
theorem dX5_isQueued_12 : decode cX5_isQueued 12 = .ok (.invokevirtual 73, 3) := by decide +kernel
theorem dX5_isQueued_15 : decode cX5_isQueued 15 = .ok (.ifCond .ge 7, 3) := by decide +kernel
theorem dX5_isQueued_18 : decode cX5_isQueued 18 = .ok (.iconst 1, 1) := by decide +kernel
theorem dX5_isQueued_19 : decode cX5_isQueued 19 = .ok (.goto 4, 3) := by decide +kernel
theorem dX5_isQueued_22 : decode cX5_isQueued 22 = .ok (.iconst 0, 1) := by decide +kernel
theorem dX5_isQueued_23 : decode cX5_isQueued 23 = .ok (.ireturn, 1) := by decide +kernel
theorem dX5_allot_0 : decode cX5_allot 0 = .ok (.bipush (-6), 2) := by decide +kernel
theorem dX5_allot_2 : decode cX5_allot 2 = .ok (.istore_n 1, 1) := by decide +kernel
theorem dX5_allot_3 : decode cX5_allot 3 = .ok (.iconst 0, 1) := by decide +kernel
theorem dX5_allot_4 : decode cX5_allot 4 = .ok (.istore_n 2, 1) := by decide +kernel
theorem dX5_allot_5 : decode cX5_allot 5 = .ok (.iload_n 2, 1) := by decide +kernel
theorem dX5_allot_6 : decode cX5_allot 6 = .ok (.bipush 16, 2) := by decide +kernel
theorem dX5_allot_8 : decode cX5_allot 8 = .ok (.if_icmp .ge 42, 3) := by decide +kernel
theorem dX5_allot_11 : decode cX5_allot 11 = .ok (.aload_n 0, 1) := by decide +kernel
theorem dX5_allot_12 : decode cX5_allot 12 = .ok (.iload_n 2, 1) := by decide +kernel
theorem dX5_allot_13 : decode cX5_allot 13 = .ok (.invokevirtual 127, 3) := by decide +kernel
theorem dX5_allot_16 : decode cX5_allot 16 = .ok (.ifCond .eq 26, 3) := by decide +kernel
theorem dX5_allot_19 : decode cX5_allot 19 = .ok (.iload_n 1, 1) := by decide +kernel
theorem dX5_allot_20 : decode cX5_allot 20 = .ok (.ifCond .lt 18, 3) := by decide +kernel
theorem dX5_allot_23 : decode cX5_allot 23 = .ok (.aload_n 0, 1) := by decide +kernel
theorem dX5_allot_24 : decode cX5_allot 24 = .ok (.iload_n 2, 1) := by decide +kernel
theorem dX5_allot_25 : decode cX5_allot 25 = .ok (.iconst 4, 1) := by decide +kernel
theorem dX5_allot_26 : decode cX5_allot 26 = .ok (.invokevirtual 67, 3) := by decide +kernel
theorem dX5_allot_29 : decode cX5_allot 29 = .ok (.aload_n 0, 1) := by decide +kernel
theorem dX5_allot_30 : decode cX5_allot 30 = .ok (.iload_n 1, 1) := by decide +kernel
theorem dX5_allot_31 : decode cX5_allot 31 = .ok (.iconst 4, 1) := by decide +kernel
theorem dX5_allot_32 : decode cX5_allot 32 = .ok (.invokevirtual 67, 3) := by decide +kernel
theorem dX5_allot_35 : decode cX5_allot 35 = .ok (.if_icmp .ge 7, 3) := by decide +kernel
theorem dX5_allot_38 : decode cX5_allot 38 = .ok (.iload_n 2, 1) := by decide +kernel
theorem dX5_allot_39 : decode cX5_allot 39 = .ok (.goto 4, 3) := by decide +kernel
theorem dX5_allot_42 : decode cX5_allot 42 = .ok (.iload_n 1, 1) := by decide +kernel
theorem dX5_allot_43 : decode cX5_allot 43 = .ok (.istore_n 1, 1) := by decide +kernel
theorem dX5_allot_44 : decode cX5_allot 44 = .ok (.iinc 2 1, 3) := by decide +kernel
theorem dX5_allot_47 : decode cX5_allot 47 = .ok (.goto (-42), 3) := by decide +kernel
theorem dX5_allot_50 : decode cX5_allot 50 = .ok (.aload_n 0, 1) := by decide +kernel
theorem dX5_allot_51 : decode cX5_allot 51 = .ok (.getfield 7, 3) := by decide +kernel
theorem dX5_allot_54 : decode cX5_allot 54 = .ok (.iconst 3, 1) := by decide +kernel
theorem dX5_allot_55 : decode cX5_allot 55 = .ok (.iaload, 1) := by decide +kernel
theorem dX5_allot_56 : decode cX5_allot 56 = .ok (.ifCond .ge 7, 3) := by decide +kernel
theorem dX5_allot_59 : decode cX5_allot 59 = .ok (.iconst 0, 1) := by decide +kernel
theorem dX5_allot_60 : decode cX5_allot 60 = .ok (.goto 11, 3) := by decide +kernel
theorem dX5_allot_63 : decode cX5_allot 63 = .ok (.aload_n 0, 1) := by decide +kernel
theorem dX5_allot_64 : decode cX5_allot 64 = .ok (.getfield 7, 3) := by decide +kernel
theorem dX5_allot_67 : decode cX5_allot 67 = .ok (.iconst 3, 1) := by decide +kernel
theorem dX5_allot_68 : decode cX5_allot 68 = .ok (.iaload, 1) := by decide +kernel
theorem dX5_allot_69 : decode cX5_allot 69 = .ok (.iconst 1, 1) := by decide +kernel
theorem dX5_allot_70 : decode cX5_allot 70 = .ok (.iadd, 1) := by decide +kernel
theorem dX5_allot_71 : decode cX5_allot 71 = .ok (.istore_n 2, 1) := by decide +kernel
theorem dX5_allot_72 : decode cX5_allot 72 = .ok (.bipush (-6), 2) := by decide +kernel
theorem dX5_allot_74 : decode cX5_allot 74 = .ok (.istore_n 3, 1) := by decide +kernel
theorem dX5_allot_75 : decode cX5_allot 75 = .ok (.aload_n 0, 1) := by decide +kernel
theorem dX5_allot_76 : decode cX5_allot 76 = .ok (.getfield 7, 3) := by decide +kernel
theorem dX5_allot_79 : decode cX5_allot 79 = .ok (.iconst 1, 1) := by decide +kernel
theorem dX5_allot_80 : decode cX5_allot 80 = .ok (.iaload, 1) := by decide +kernel
theorem dX5_allot_81 : decode cX5_allot 81 = .ok (.iconst 1, 1) := by decide +kernel
theorem dX5_allot_82 : decode cX5_allot 82 = .ok (.isub, 1) := by decide +kernel
theorem dX5_allot_83 : decode cX5_allot 83 = .ok (.istore 4, 2) := by decide +kernel
theorem dX5_allot_85 : decode cX5_allot 85 = .ok (.iload 4, 2) := by decide +kernel
theorem dX5_allot_87 : decode cX5_allot 87 = .ok (.ifCond .lt 39, 3) := by decide +kernel
theorem dX5_allot_90 : decode cX5_allot 90 = .ok (.iload_n 2, 1) := by decide +kernel
theorem dX5_allot_91 : decode cX5_allot 91 = .ok (.iload 4, 2) := by decide +kernel
theorem dX5_allot_93 : decode cX5_allot 93 = .ok (.iadd, 1) := by decide +kernel
theorem dX5_allot_94 : decode cX5_allot 94 = .ok (.aload_n 0, 1) := by decide +kernel
theorem dX5_allot_95 : decode cX5_allot 95 = .ok (.getfield 7, 3) := by decide +kernel
theorem dX5_allot_98 : decode cX5_allot 98 = .ok (.iconst 1, 1) := by decide +kernel
theorem dX5_allot_99 : decode cX5_allot 99 = .ok (.iaload, 1) := by decide +kernel
theorem dX5_allot_100 : decode cX5_allot 100 = .ok (.irem, 1) := by decide +kernel
theorem dX5_allot_101 : decode cX5_allot 101 = .ok (.istore 5, 2) := by decide +kernel
theorem dX5_allot_103 : decode cX5_allot 103 = .ok (.aload_n 0, 1) := by decide +kernel
theorem dX5_allot_104 : decode cX5_allot 104 = .ok (.iload 5, 2) := by decide +kernel
theorem dX5_allot_106 : decode cX5_allot 106 = .ok (.iconst 0, 1) := by decide +kernel
theorem dX5_allot_107 : decode cX5_allot 107 = .ok (.invokevirtual 41, 3) := by decide +kernel
theorem dX5_allot_110 : decode cX5_allot 110 = .ok (.ifCond .ne 8, 3) := by decide +kernel
theorem dX5_allot_113 : decode cX5_allot 113 = .ok (.iload 5, 2) := by decide +kernel
theorem dX5_allot_115 : decode cX5_allot 115 = .ok (.goto 4, 3) := by decide +kernel
theorem dX5_allot_118 : decode cX5_allot 118 = .ok (.iload_n 3, 1) := by decide +kernel
theorem dX5_allot_119 : decode cX5_allot 119 = .ok (.istore_n 3, 1) := by decide +kernel
theorem dX5_allot_120 : decode cX5_allot 120 = .ok (.iinc 4 (-1), 3) := by decide +kernel
theorem dX5_allot_123 : decode cX5_allot 123 = .ok (.goto (-38), 3) := by decide +kernel
theorem dX5_allot_126 : decode cX5_allot 126 = .ok (.iload_n 1, 1) := by decide +kernel
theorem dX5_allot_127 : decode cX5_allot 127 = .ok (.ifCond .lt 28, 3) := by decide +kernel
theorem dX5_allot_130 : decode cX5_allot 130 = .ok (.iload_n 3, 1) := by decide +kernel
theorem dX5_allot_131 : decode cX5_allot 131 = .ok (.ifCond .lt 24, 3) := by decide +kernel
theorem dX5_allot_134 : decode cX5_allot 134 = .ok (.aload_n 0, 1) := by decide +kernel
theorem dX5_allot_135 : decode cX5_allot 135 = .ok (.iload_n 3, 1) := by decide +kernel
theorem dX5_allot_136 : decode cX5_allot 136 = .ok (.iconst 0, 1) := by decide +kernel
theorem dX5_allot_137 : decode cX5_allot 137 = .ok (.iconst 1, 1) := by decide +kernel
theorem dX5_allot_138 : decode cX5_allot 138 = .ok (.invokevirtual 45, 3) := by decide +kernel
theorem dX5_allot_141 : decode cX5_allot 141 = .ok (.aload_n 0, 1) := by decide +kernel
theorem dX5_allot_142 : decode cX5_allot 142 = .ok (.iload_n 3, 1) := by decide +kernel
theorem dX5_allot_143 : decode cX5_allot 143 = .ok (.iconst 2, 1) := by decide +kernel
theorem dX5_allot_144 : decode cX5_allot 144 = .ok (.iload_n 1, 1) := by decide +kernel
theorem dX5_allot_145 : decode cX5_allot 145 = .ok (.invokevirtual 45, 3) := by decide +kernel
theorem dX5_allot_148 : decode cX5_allot 148 = .ok (.aload_n 0, 1) := by decide +kernel
theorem dX5_allot_149 : decode cX5_allot 149 = .ok (.getfield 7, 3) := by decide +kernel
theorem dX5_allot_152 : decode cX5_allot 152 = .ok (.iconst 3, 1) := by decide +kernel
theorem dX5_allot_153 : decode cX5_allot 153 = .ok (.iload_n 3, 1) := by decide +kernel
theorem dX5_allot_154 : decode cX5_allot 154 = .ok (.iastore, 1) := by decide +kernel
theorem dX5_allot_155 : decode cX5_allot 155 = .ok (.return_, 1) := by decide +kernel
theorem dX5_makeTick_0 : decode cX5_makeTick 0 = .ok (.iconst 0, 1) := by decide +kernel
theorem dX5_makeTick_1 : decode cX5_makeTick 1 = .ok (.istore_n 1, 1) := by decide +kernel
theorem dX5_makeTick_2 : decode cX5_makeTick 2 = .ok (.iload_n 1, 1) := by decide +kernel
theorem dX5_makeTick_3 : decode cX5_makeTick 3 = .ok (.aload_n 0, 1) := by decide +kernel
theorem dX5_makeTick_4 : decode cX5_makeTick 4 = .ok (.getfield 7, 3) := by decide +kernel
theorem dX5_makeTick_7 : decode cX5_makeTick 7 = .ok (.iconst 1, 1) := by decide +kernel
theorem dX5_makeTick_8 : decode cX5_makeTick 8 = .ok (.iaload, 1) := by decide +kernel
theorem dX5_makeTick_9 : decode cX5_makeTick 9 = .ok (.if_icmp .ge 14, 3) := by decide +kernel
theorem dX5_makeTick_12 : decode cX5_makeTick 12 = .ok (.aload_n 0, 1) := by decide +kernel
theorem dX5_makeTick_13 : decode cX5_makeTick 13 = .ok (.iload_n 1, 1) := by decide +kernel
theorem dX5_makeTick_14 : decode cX5_makeTick 14 = .ok (.invokevirtual 130, 3) := by decide +kernel
theorem dX5_makeTick_17 : decode cX5_makeTick 17 = .ok (.iinc 1 1, 3) := by decide +kernel
theorem dX5_makeTick_20 : decode cX5_makeTick 20 = .ok (.goto (-18), 3) := by decide +kernel
theorem dX5_makeTick_23 : decode cX5_makeTick 23 = .ok (.aload_n 0, 1) := by decide +kernel
theorem dX5_makeTick_24 : decode cX5_makeTick 24 = .ok (.invokevirtual 133, 3) := by decide +kernel
theorem dX5_makeTick_27 : decode cX5_makeTick 27 = .ok (.iconst 0, 1) := by decide +kernel
theorem dX5_makeTick_28 : decode cX5_makeTick 28 = .ok (.istore_n 1, 1) := by decide +kernel
theorem dX5_makeTick_29 : decode cX5_makeTick 29 = .ok (.iload_n 1, 1) := by decide +kernel
theorem dX5_makeTick_30 : decode cX5_makeTick 30 = .ok (.bipush 16, 2) := by decide +kernel
theorem dX5_makeTick_32 : decode cX5_makeTick 32 = .ok (.if_icmp .ge 61, 3) := by decide +kernel
theorem dX5_makeTick_35 : decode cX5_makeTick 35 = .ok (.aload_n 0, 1) := by decide +kernel
theorem dX5_makeTick_36 : decode cX5_makeTick 36 = .ok (.iload_n 1, 1) := by decide +kernel
theorem dX5_makeTick_37 : decode cX5_makeTick 37 = .ok (.iconst 0, 1) := by decide +kernel
theorem dX5_makeTick_38 : decode cX5_makeTick 38 = .ok (.invokevirtual 67, 3) := by decide +kernel
theorem dX5_makeTick_41 : decode cX5_makeTick 41 = .ok (.bipush 10, 2) := by decide +kernel
theorem dX5_makeTick_43 : decode cX5_makeTick 43 = .ok (.if_icmp .ne 44, 3) := by decide +kernel
theorem dX5_makeTick_46 : decode cX5_makeTick 46 = .ok (.aload_n 0, 1) := by decide +kernel
theorem dX5_makeTick_47 : decode cX5_makeTick 47 = .ok (.iload_n 1, 1) := by decide +kernel
theorem dX5_makeTick_48 : decode cX5_makeTick 48 = .ok (.iconst 5, 1) := by decide +kernel
theorem dX5_makeTick_49 : decode cX5_makeTick 49 = .ok (.aload_n 0, 1) := by decide +kernel
theorem dX5_makeTick_50 : decode cX5_makeTick 50 = .ok (.iload_n 1, 1) := by decide +kernel
theorem dX5_makeTick_51 : decode cX5_makeTick 51 = .ok (.iconst 5, 1) := by decide +kernel
theorem dX5_makeTick_52 : decode cX5_makeTick 52 = .ok (.invokevirtual 67, 3) := by decide +kernel
theorem dX5_makeTick_55 : decode cX5_makeTick 55 = .ok (.iconst 1, 1) := by decide +kernel
theorem dX5_makeTick_56 : decode cX5_makeTick 56 = .ok (.iadd, 1) := by decide +kernel
theorem dX5_makeTick_57 : decode cX5_makeTick 57 = .ok (.invokevirtual 61, 3) := by decide +kernel
theorem dX5_makeTick_60 : decode cX5_makeTick 60 = .ok (.aload_n 0, 1) := by decide +kernel
theorem dX5_makeTick_61 : decode cX5_makeTick 61 = .ok (.iload_n 1, 1) := by decide +kernel
theorem dX5_makeTick_62 : decode cX5_makeTick 62 = .ok (.iconst 0, 1) := by decide +kernel
theorem dX5_makeTick_63 : decode cX5_makeTick 63 = .ok (.aload_n 0, 1) := by decide +kernel
theorem dX5_makeTick_64 : decode cX5_makeTick 64 = .ok (.iload_n 1, 1) := by decide +kernel
theorem dX5_makeTick_65 : decode cX5_makeTick 65 = .ok (.iconst 5, 1) := by decide +kernel
theorem dX5_makeTick_66 : decode cX5_makeTick 66 = .ok (.invokevirtual 67, 3) := by decide +kernel
theorem dX5_makeTick_69 : decode cX5_makeTick 69 = .ok (.aload_n 0, 1) := by decide +kernel
theorem dX5_makeTick_70 : decode cX5_makeTick 70 = .ok (.iconst 4, 1) := by decide +kernel
theorem dX5_makeTick_71 : decode cX5_makeTick 71 = .ok (.invokevirtual 53, 3) := by decide +kernel
theorem dX5_makeTick_74 : decode cX5_makeTick 74 = .ok (.if_icmp .lt 8, 3) := by decide +kernel
theorem dX5_makeTick_77 : decode cX5_makeTick 77 = .ok (.bipush 11, 2) := by decide +kernel
theorem dX5_makeTick_79 : decode cX5_makeTick 79 = .ok (.goto 5, 3) := by decide +kernel
theorem dX5_makeTick_82 : decode cX5_makeTick 82 = .ok (.bipush 10, 2) := by decide +kernel
theorem dX5_makeTick_84 : decode cX5_makeTick 84 = .ok (.invokevirtual 61, 3) := by decide +kernel
theorem dX5_makeTick_87 : decode cX5_makeTick 87 = .ok (.iinc 1 1, 3) := by decide +kernel
theorem dX5_makeTick_90 : decode cX5_makeTick 90 = .ok (.goto (-61), 3) := by decide +kernel
theorem dX5_makeTick_93 : decode cX5_makeTick 93 = .ok (.aload_n 0, 1) := by decide +kernel
theorem dX5_makeTick_94 : decode cX5_makeTick 94 = .ok (.getfield 7, 3) := by decide +kernel
theorem dX5_makeTick_97 : decode cX5_makeTick 97 = .ok (.iconst 0, 1) := by decide +kernel
theorem dX5_makeTick_98 : decode cX5_makeTick 98 = .ok (.dup2, 1) := by decide +kernel
theorem dX5_makeTick_99 : decode cX5_makeTick 99 = .ok (.iaload, 1) := by decide +kernel
theorem dX5_makeTick_100 : decode cX5_makeTick 100 = .ok (.iconst 1, 1) := by decide +kernel
theorem dX5_makeTick_101 : decode cX5_makeTick 101 = .ok (.iadd, 1) := by decide +kernel
theorem dX5_makeTick_102 : decode cX5_makeTick 102 = .ok (.iastore, 1) := by decide +kernel
theorem dX5_makeTick_103 : decode cX5_makeTick 103 = .ok (.return_, 1) := by decide +kernel
theorem dX5_tick_0 : decode cX5_tick 0 = .ok (.iload_n 1, 1) := by decide +kernel
theorem dX5_tick_1 : decode cX5_tick 1 = .ok (.iconst 1, 1) := by decide +kernel
theorem dX5_tick_2 : decode cX5_tick 2 = .ok (.sipush 1000, 3) := by decide +kernel
theorem dX5_tick_5 : decode cX5_tick 5 = .ok (.invokestatic 33, 3) := by decide +kernel
theorem dX5_tick_8 : decode cX5_tick 8 = .ok (.ifCond .ne 6, 3) := by decide +kernel
theorem dX5_tick_11 : decode cX5_tick 11 = .ok (.bipush (-2), 2) := by decide +kernel
theorem dX5_tick_13 : decode cX5_tick 13 = .ok (.ireturn, 1) := by decide +kernel
theorem dX5_tick_14 : decode cX5_tick 14 = .ok (.aload_n 0, 1) := by decide +kernel
theorem dX5_tick_15 : decode cX5_tick 15 = .ok (.getfield 7, 3) := by decide +kernel
theorem dX5_tick_18 : decode cX5_tick 18 = .ok (.iconst 0, 1) := by decide +kernel
theorem dX5_tick_19 : decode cX5_tick 19 = .ok (.iaload, 1) := by decide +kernel
theorem dX5_tick_20 : decode cX5_tick 20 = .ok (.iload_n 1, 1) := by decide +kernel
theorem dX5_tick_21 : decode cX5_tick 21 = .ok (.iadd, 1) := by decide +kernel
theorem dX5_tick_22 : decode cX5_tick 22 = .ok (.ldc 136, 2) := by decide +kernel
theorem dX5_tick_24 : decode cX5_tick 24 = .ok (.if_icmp .le 6, 3) := by decide +kernel
theorem dX5_tick_27 : decode cX5_tick 27 = .ok (.bipush (-5), 2) := by decide +kernel
theorem dX5_tick_29 : decode cX5_tick 29 = .ok (.ireturn, 1) := by decide +kernel
theorem dX5_tick_30 : decode cX5_tick 30 = .ok (.iconst 0, 1) := by decide +kernel
theorem dX5_tick_31 : decode cX5_tick 31 = .ok (.istore_n 2, 1) := by decide +kernel
theorem dX5_tick_32 : decode cX5_tick 32 = .ok (.iload_n 2, 1) := by decide +kernel
theorem dX5_tick_33 : decode cX5_tick 33 = .ok (.iload_n 1, 1) := by decide +kernel
theorem dX5_tick_34 : decode cX5_tick 34 = .ok (.if_icmp .ge 13, 3) := by decide +kernel
theorem dX5_tick_37 : decode cX5_tick 37 = .ok (.aload_n 0, 1) := by decide +kernel
theorem dX5_tick_38 : decode cX5_tick 38 = .ok (.invokevirtual 137, 3) := by decide +kernel
theorem dX5_tick_41 : decode cX5_tick 41 = .ok (.iinc 2 1, 3) := by decide +kernel
theorem dX5_tick_44 : decode cX5_tick 44 = .ok (.goto (-12), 3) := by decide +kernel
theorem dX5_tick_47 : decode cX5_tick 47 = .ok (.aload_n 0, 1) := by decide +kernel
theorem dX5_tick_48 : decode cX5_tick 48 = .ok (.getfield 7, 3) := by decide +kernel
theorem dX5_tick_51 : decode cX5_tick 51 = .ok (.iconst 0, 1) := by decide +kernel
theorem dX5_tick_52 : decode cX5_tick 52 = .ok (.iaload, 1) := by decide +kernel
theorem dX5_tick_53 : decode cX5_tick 53 = .ok (.ireturn, 1) := by decide +kernel
theorem dX5_pathOf_0 : decode cX5_pathOf 0 = .ok (.aload_n 0, 1) := by decide +kernel
theorem dX5_pathOf_1 : decode cX5_pathOf 1 = .ok (.iload_n 1, 1) := by decide +kernel
theorem dX5_pathOf_2 : decode cX5_pathOf 2 = .ok (.iconst 0, 1) := by decide +kernel
theorem dX5_pathOf_3 : decode cX5_pathOf 3 = .ok (.invokevirtual 67, 3) := by decide +kernel
theorem dX5_pathOf_6 : decode cX5_pathOf 6 = .ok (.iconst 5, 1) := by decide +kernel
theorem dX5_pathOf_7 : decode cX5_pathOf 7 = .ok (.iconst 5, 1) := by decide +kernel
theorem dX5_pathOf_8 : decode cX5_pathOf 8 = .ok (.invokestatic 33, 3) := by decide +kernel
theorem dX5_pathOf_11 : decode cX5_pathOf 11 = .ok (.ifCond .ne 14, 3) := by decide +kernel
theorem dX5_pathOf_14 : decode cX5_pathOf 14 = .ok (.aload_n 0, 1) := by decide +kernel
theorem dX5_pathOf_15 : decode cX5_pathOf 15 = .ok (.iload_n 1, 1) := by decide +kernel
theorem dX5_pathOf_16 : decode cX5_pathOf 16 = .ok (.iconst 0, 1) := by decide +kernel
theorem dX5_pathOf_17 : decode cX5_pathOf 17 = .ok (.invokevirtual 67, 3) := by decide +kernel
theorem dX5_pathOf_20 : decode cX5_pathOf 20 = .ok (.bipush 7, 2) := by decide +kernel
theorem dX5_pathOf_22 : decode cX5_pathOf 22 = .ok (.if_icmp .ne 11, 3) := by decide +kernel
theorem dX5_pathOf_25 : decode cX5_pathOf 25 = .ok (.aload_n 0, 1) := by decide +kernel
theorem dX5_pathOf_26 : decode cX5_pathOf 26 = .ok (.iload_n 1, 1) := by decide +kernel
theorem dX5_pathOf_27 : decode cX5_pathOf 27 = .ok (.invokevirtual 140, 3) := by decide +kernel
theorem dX5_pathOf_30 : decode cX5_pathOf 30 = .ok (.goto 8, 3) := by decide +kernel
theorem dX5_pathOf_33 : decode cX5_pathOf 33 = .ok (.aload_n 0, 1) := by decide +kernel
theorem dX5_pathOf_34 : decode cX5_pathOf 34 = .ok (.iload_n 1, 1) := by decide +kernel
theorem dX5_pathOf_35 : decode cX5_pathOf 35 = .ok (.invokevirtual 73, 3) := by decide +kernel
theorem dX5_pathOf_38 : decode cX5_pathOf 38 = .ok (.ireturn, 1) := by decide +kernel
theorem dX5_otherOf_0 : decode cX5_otherOf 0 = .ok (.aload_n 0, 1) := by decide +kernel
theorem dX5_otherOf_1 : decode cX5_otherOf 1 = .ok (.iload_n 1, 1) := by decide +kernel
theorem dX5_otherOf_2 : decode cX5_otherOf 2 = .ok (.iconst 0, 1) := by decide +kernel
theorem dX5_otherOf_3 : decode cX5_otherOf 3 = .ok (.invokevirtual 67, 3) := by decide +kernel
theorem dX5_otherOf_6 : decode cX5_otherOf 6 = .ok (.istore_n 2, 1) := by decide +kernel
theorem dX5_otherOf_7 : decode cX5_otherOf 7 = .ok (.iload_n 2, 1) := by decide +kernel
theorem dX5_otherOf_8 : decode cX5_otherOf 8 = .ok (.iconst 4, 1) := by decide +kernel
theorem dX5_otherOf_9 : decode cX5_otherOf 9 = .ok (.if_icmp .eq 9, 3) := by decide +kernel
theorem dX5_otherOf_12 : decode cX5_otherOf 12 = .ok (.iload_n 2, 1) := by decide +kernel
theorem dX5_otherOf_13 : decode cX5_otherOf 13 = .ok (.bipush 6, 2) := by decide +kernel
theorem dX5_otherOf_15 : decode cX5_otherOf 15 = .ok (.if_icmp .ne 15, 3) := by decide +kernel
theorem dX5_otherOf_18 : decode cX5_otherOf 18 = .ok (.aload_n 0, 1) := by decide +kernel
theorem dX5_otherOf_19 : decode cX5_otherOf 19 = .ok (.aload_n 0, 1) := by decide +kernel
theorem dX5_otherOf_20 : decode cX5_otherOf 20 = .ok (.iload_n 1, 1) := by decide +kernel
theorem dX5_otherOf_21 : decode cX5_otherOf 21 = .ok (.invokevirtual 73, 3) := by decide +kernel
theorem dX5_otherOf_24 : decode cX5_otherOf 24 = .ok (.bipush 9, 2) := by decide +kernel
theorem dX5_otherOf_26 : decode cX5_otherOf 26 = .ok (.invokevirtual 41, 3) := by decide +kernel
theorem dX5_otherOf_29 : decode cX5_otherOf 29 = .ok (.ireturn, 1) := by decide +kernel
theorem dX5_otherOf_30 : decode cX5_otherOf 30 = .ok (.iload_n 2, 1) := by decide +kernel
theorem dX5_otherOf_31 : decode cX5_otherOf 31 = .ok (.iconst 5, 1) := by decide +kernel
theorem dX5_otherOf_32 : decode cX5_otherOf 32 = .ok (.if_icmp .eq 9, 3) := by decide +kernel
theorem dX5_otherOf_35 : decode cX5_otherOf 35 = .ok (.iload_n 2, 1) := by decide +kernel
theorem dX5_otherOf_36 : decode cX5_otherOf 36 = .ok (.bipush 7, 2) := by decide +kernel
theorem dX5_otherOf_38 : decode cX5_otherOf 38 = .ok (.if_icmp .ne 16, 3) := by decide +kernel
theorem dX5_otherOf_41 : decode cX5_otherOf 41 = .ok (.aload_n 0, 1) := by decide +kernel
theorem dX5_otherOf_42 : decode cX5_otherOf 42 = .ok (.aload_n 0, 1) := by decide +kernel
theorem dX5_otherOf_43 : decode cX5_otherOf 43 = .ok (.iload_n 1, 1) := by decide +kernel
theorem dX5_otherOf_44 : decode cX5_otherOf 44 = .ok (.invokevirtual 140, 3) := by decide +kernel
theorem dX5_otherOf_47 : decode cX5_otherOf 47 = .ok (.iconst 2, 1) := by decide +kernel
theorem dX5_otherOf_48 : decode cX5_otherOf 48 = .ok (.invokevirtual 41, 3) := by decide +kernel
theorem dX5_otherOf_51 : decode cX5_otherOf 51 = .ok (.goto 5, 3) := by decide +kernel
theorem dX5_otherOf_54 : decode cX5_otherOf 54 = .ok (.bipush (-6), 2) := by decide +kernel
theorem dX5_otherOf_56 : decode cX5_otherOf 56 = .ok (.ireturn, 1) := by decide +kernel
theorem dX5_placeOf_0 : decode cX5_placeOf 0 = .ok (.aload_n 0, 1) := by decide +kernel
theorem dX5_placeOf_1 : decode cX5_placeOf 1 = .ok (.iload_n 1, 1) := by decide +kernel
theorem dX5_placeOf_2 : decode cX5_placeOf 2 = .ok (.invokevirtual 127, 3) := by decide +kernel
theorem dX5_placeOf_5 : decode cX5_placeOf 5 = .ok (.ifCond .ne 6, 3) := by decide +kernel
theorem dX5_placeOf_8 : decode cX5_placeOf 8 = .ok (.bipush (-6), 2) := by decide +kernel
theorem dX5_placeOf_10 : decode cX5_placeOf 10 = .ok (.ireturn, 1) := by decide +kernel
theorem dX5_placeOf_11 : decode cX5_placeOf 11 = .ok (.iconst 0, 1) := by decide +kernel
theorem dX5_placeOf_12 : decode cX5_placeOf 12 = .ok (.istore_n 2, 1) := by decide +kernel
theorem dX5_placeOf_13 : decode cX5_placeOf 13 = .ok (.iconst 0, 1) := by decide +kernel
theorem dX5_placeOf_14 : decode cX5_placeOf 14 = .ok (.istore_n 3, 1) := by decide +kernel
theorem dX5_placeOf_15 : decode cX5_placeOf 15 = .ok (.iload_n 3, 1) := by decide +kernel
theorem dX5_placeOf_16 : decode cX5_placeOf 16 = .ok (.bipush 16, 2) := by decide +kernel
theorem dX5_placeOf_18 : decode cX5_placeOf 18 = .ok (.if_icmp .ge 40, 3) := by decide +kernel
theorem dX5_placeOf_21 : decode cX5_placeOf 21 = .ok (.iload_n 2, 1) := by decide +kernel
theorem dX5_placeOf_22 : decode cX5_placeOf 22 = .ok (.aload_n 0, 1) := by decide +kernel
theorem dX5_placeOf_23 : decode cX5_placeOf 23 = .ok (.iload_n 3, 1) := by decide +kernel
theorem dX5_placeOf_24 : decode cX5_placeOf 24 = .ok (.invokevirtual 127, 3) := by decide +kernel
theorem dX5_placeOf_27 : decode cX5_placeOf 27 = .ok (.ifCond .eq 22, 3) := by decide +kernel
theorem dX5_placeOf_30 : decode cX5_placeOf 30 = .ok (.aload_n 0, 1) := by decide +kernel
theorem dX5_placeOf_31 : decode cX5_placeOf 31 = .ok (.iload_n 3, 1) := by decide +kernel
theorem dX5_placeOf_32 : decode cX5_placeOf 32 = .ok (.iconst 4, 1) := by decide +kernel
theorem dX5_placeOf_33 : decode cX5_placeOf 33 = .ok (.invokevirtual 67, 3) := by decide +kernel
theorem dX5_placeOf_36 : decode cX5_placeOf 36 = .ok (.aload_n 0, 1) := by decide +kernel
theorem dX5_placeOf_37 : decode cX5_placeOf 37 = .ok (.iload_n 1, 1) := by decide +kernel
theorem dX5_placeOf_38 : decode cX5_placeOf 38 = .ok (.iconst 4, 1) := by decide +kernel
theorem dX5_placeOf_39 : decode cX5_placeOf 39 = .ok (.invokevirtual 67, 3) := by decide +kernel
theorem dX5_placeOf_42 : decode cX5_placeOf 42 = .ok (.if_icmp .ge 7, 3) := by decide +kernel
theorem dX5_placeOf_45 : decode cX5_placeOf 45 = .ok (.iconst 1, 1) := by decide +kernel
theorem dX5_placeOf_46 : decode cX5_placeOf 46 = .ok (.goto 4, 3) := by decide +kernel
theorem dX5_placeOf_49 : decode cX5_placeOf 49 = .ok (.iconst 0, 1) := by decide +kernel
theorem dX5_placeOf_50 : decode cX5_placeOf 50 = .ok (.iadd, 1) := by decide +kernel
theorem dX5_placeOf_51 : decode cX5_placeOf 51 = .ok (.istore_n 2, 1) := by decide +kernel
theorem dX5_placeOf_52 : decode cX5_placeOf 52 = .ok (.iinc 3 1, 3) := by decide +kernel
theorem dX5_placeOf_55 : decode cX5_placeOf 55 = .ok (.goto (-40), 3) := by decide +kernel
theorem dX5_placeOf_58 : decode cX5_placeOf 58 = .ok (.iload_n 2, 1) := by decide +kernel
theorem dX5_placeOf_59 : decode cX5_placeOf 59 = .ok (.ireturn, 1) := by decide +kernel
theorem dX5_line_0 : decode cX5_line 0 = .ok (.iload_n 1, 1) := by decide +kernel
theorem dX5_line_1 : decode cX5_line 1 = .ok (.invokestatic 64, 3) := by decide +kernel
theorem dX5_line_4 : decode cX5_line 4 = .ok (.ifCond .ne 5, 3) := by decide +kernel
theorem dX5_line_7 : decode cX5_line 7 = .ok (.iconst (-1), 1) := by decide +kernel
theorem dX5_line_8 : decode cX5_line 8 = .ok (.ireturn, 1) := by decide +kernel
theorem dX5_line_9 : decode cX5_line 9 = .ok (.iload_n 2, 1) := by decide +kernel
theorem dX5_line_10 : decode cX5_line 10 = .ok (.tableswitch 126 0 8 #[50, 57, 64, 70, 76, 84, 91, 98, 104], 50) := by decide +kernel
theorem dX5_line_60 : decode cX5_line 60 = .ok (.aload_n 0, 1) := by decide +kernel
theorem dX5_line_61 : decode cX5_line 61 = .ok (.iload_n 1, 1) := by decide +kernel
theorem dX5_line_62 : decode cX5_line 62 = .ok (.iconst 0, 1) := by decide +kernel
theorem dX5_line_63 : decode cX5_line 63 = .ok (.invokevirtual 67, 3) := by decide +kernel
theorem dX5_line_66 : decode cX5_line 66 = .ok (.ireturn, 1) := by decide +kernel
theorem dX5_line_67 : decode cX5_line 67 = .ok (.aload_n 0, 1) := by decide +kernel
theorem dX5_line_68 : decode cX5_line 68 = .ok (.iload_n 1, 1) := by decide +kernel
theorem dX5_line_69 : decode cX5_line 69 = .ok (.iconst 1, 1) := by decide +kernel
theorem dX5_line_70 : decode cX5_line 70 = .ok (.invokevirtual 67, 3) := by decide +kernel
theorem dX5_line_73 : decode cX5_line 73 = .ok (.ireturn, 1) := by decide +kernel
theorem dX5_line_74 : decode cX5_line 74 = .ok (.aload_n 0, 1) := by decide +kernel
theorem dX5_line_75 : decode cX5_line 75 = .ok (.iload_n 1, 1) := by decide +kernel
theorem dX5_line_76 : decode cX5_line 76 = .ok (.invokevirtual 143, 3) := by decide +kernel
theorem dX5_line_79 : decode cX5_line 79 = .ok (.ireturn, 1) := by decide +kernel
theorem dX5_line_80 : decode cX5_line 80 = .ok (.aload_n 0, 1) := by decide +kernel
theorem dX5_line_81 : decode cX5_line 81 = .ok (.iload_n 1, 1) := by decide +kernel
theorem dX5_line_82 : decode cX5_line 82 = .ok (.invokevirtual 146, 3) := by decide +kernel
theorem dX5_line_85 : decode cX5_line 85 = .ok (.ireturn, 1) := by decide +kernel
theorem dX5_line_86 : decode cX5_line 86 = .ok (.aload_n 0, 1) := by decide +kernel
theorem dX5_line_87 : decode cX5_line 87 = .ok (.iload_n 1, 1) := by decide +kernel
theorem dX5_line_88 : decode cX5_line 88 = .ok (.bipush 10, 2) := by decide +kernel
theorem dX5_line_90 : decode cX5_line 90 = .ok (.invokevirtual 67, 3) := by decide +kernel
theorem dX5_line_93 : decode cX5_line 93 = .ok (.ireturn, 1) := by decide +kernel
theorem dX5_line_94 : decode cX5_line 94 = .ok (.aload_n 0, 1) := by decide +kernel
theorem dX5_line_95 : decode cX5_line 95 = .ok (.iload_n 1, 1) := by decide +kernel
theorem dX5_line_96 : decode cX5_line 96 = .ok (.iconst 2, 1) := by decide +kernel
theorem dX5_line_97 : decode cX5_line 97 = .ok (.invokevirtual 67, 3) := by decide +kernel
theorem dX5_line_100 : decode cX5_line 100 = .ok (.ireturn, 1) := by decide +kernel
theorem dX5_line_101 : decode cX5_line 101 = .ok (.aload_n 0, 1) := by decide +kernel
theorem dX5_line_102 : decode cX5_line 102 = .ok (.iload_n 1, 1) := by decide +kernel
theorem dX5_line_103 : decode cX5_line 103 = .ok (.iconst 3, 1) := by decide +kernel
theorem dX5_line_104 : decode cX5_line 104 = .ok (.invokevirtual 67, 3) := by decide +kernel
theorem dX5_line_107 : decode cX5_line 107 = .ok (.ireturn, 1) := by decide +kernel
theorem dX5_line_108 : decode cX5_line 108 = .ok (.aload_n 0, 1) := by decide +kernel
theorem dX5_line_109 : decode cX5_line 109 = .ok (.iload_n 1, 1) := by decide +kernel
theorem dX5_line_110 : decode cX5_line 110 = .ok (.invokevirtual 149, 3) := by decide +kernel
theorem dX5_line_113 : decode cX5_line 113 = .ok (.ireturn, 1) := by decide +kernel
theorem dX5_line_114 : decode cX5_line 114 = .ok (.aload_n 0, 1) := by decide +kernel
theorem dX5_line_115 : decode cX5_line 115 = .ok (.iload_n 1, 1) := by decide +kernel
theorem dX5_line_116 : decode cX5_line 116 = .ok (.iconst 0, 1) := by decide +kernel
theorem dX5_line_117 : decode cX5_line 117 = .ok (.invokevirtual 67, 3) := by decide +kernel
theorem dX5_line_120 : decode cX5_line 120 = .ok (.bipush 10, 2) := by decide +kernel
theorem dX5_line_122 : decode cX5_line 122 = .ok (.if_icmp .ne 12, 3) := by decide +kernel
theorem dX5_line_125 : decode cX5_line 125 = .ok (.aload_n 0, 1) := by decide +kernel
theorem dX5_line_126 : decode cX5_line 126 = .ok (.iload_n 1, 1) := by decide +kernel
theorem dX5_line_127 : decode cX5_line 127 = .ok (.iconst 5, 1) := by decide +kernel
theorem dX5_line_128 : decode cX5_line 128 = .ok (.invokevirtual 67, 3) := by decide +kernel
theorem dX5_line_131 : decode cX5_line 131 = .ok (.goto 4, 3) := by decide +kernel
theorem dX5_line_134 : decode cX5_line 134 = .ok (.iconst 0, 1) := by decide +kernel
theorem dX5_line_135 : decode cX5_line 135 = .ok (.ireturn, 1) := by decide +kernel
theorem dX5_line_136 : decode cX5_line 136 = .ok (.bipush (-2), 2) := by decide +kernel
theorem dX5_line_138 : decode cX5_line 138 = .ok (.ireturn, 1) := by decide +kernel
theorem dX5_showsTimer_0 : decode cX5_showsTimer 0 = .ok (.iload_n 1, 1) := by decide +kernel
theorem dX5_showsTimer_1 : decode cX5_showsTimer 1 = .ok (.iconst 2, 1) := by decide +kernel
theorem dX5_showsTimer_2 : decode cX5_showsTimer 2 = .ok (.if_icmp .eq 19, 3) := by decide +kernel
theorem dX5_showsTimer_5 : decode cX5_showsTimer 5 = .ok (.iload_n 1, 1) := by decide +kernel
theorem dX5_showsTimer_6 : decode cX5_showsTimer 6 = .ok (.iconst 5, 1) := by decide +kernel
theorem dX5_showsTimer_7 : decode cX5_showsTimer 7 = .ok (.if_icmp .eq 14, 3) := by decide +kernel
theorem dX5_showsTimer_10 : decode cX5_showsTimer 10 = .ok (.iload_n 1, 1) := by decide +kernel
theorem dX5_showsTimer_11 : decode cX5_showsTimer 11 = .ok (.bipush 7, 2) := by decide +kernel
theorem dX5_showsTimer_13 : decode cX5_showsTimer 13 = .ok (.bipush 9, 2) := by decide +kernel
theorem dX5_showsTimer_15 : decode cX5_showsTimer 15 = .ok (.invokestatic 33, 3) := by decide +kernel
theorem dX5_showsTimer_18 : decode cX5_showsTimer 18 = .ok (.ifCond .eq 7, 3) := by decide +kernel
theorem dX5_showsTimer_21 : decode cX5_showsTimer 21 = .ok (.iconst 1, 1) := by decide +kernel
theorem dX5_showsTimer_22 : decode cX5_showsTimer 22 = .ok (.goto 4, 3) := by decide +kernel
theorem dX5_showsTimer_25 : decode cX5_showsTimer 25 = .ok (.iconst 0, 1) := by decide +kernel
theorem dX5_showsTimer_26 : decode cX5_showsTimer 26 = .ok (.ireturn, 1) := by decide +kernel
theorem dX5_finder_0 : decode cX5_finder 0 = .ok (.aload_n 0, 1) := by decide +kernel
theorem dX5_finder_1 : decode cX5_finder 1 = .ok (.iload_n 1, 1) := by decide +kernel
theorem dX5_finder_2 : decode cX5_finder 2 = .ok (.invokevirtual 152, 3) := by decide +kernel
theorem dX5_finder_5 : decode cX5_finder 5 = .ok (.ifCond .ne 5, 3) := by decide +kernel
theorem dX5_finder_8 : decode cX5_finder 8 = .ok (.iconst (-1), 1) := by decide +kernel
theorem dX5_finder_9 : decode cX5_finder 9 = .ok (.ireturn, 1) := by decide +kernel
theorem dX5_finder_10 : decode cX5_finder 10 = .ok (.aload_n 0, 1) := by decide +kernel
theorem dX5_finder_11 : decode cX5_finder 11 = .ok (.iload_n 1, 1) := by decide +kernel
theorem dX5_finder_12 : decode cX5_finder 12 = .ok (.iconst 0, 1) := by decide +kernel
theorem dX5_finder_13 : decode cX5_finder 13 = .ok (.invokevirtual 41, 3) := by decide +kernel
theorem dX5_finder_16 : decode cX5_finder 16 = .ok (.istore_n 3, 1) := by decide +kernel
theorem dX5_finder_17 : decode cX5_finder 17 = .ok (.iload_n 2, 1) := by decide +kernel
theorem dX5_finder_18 : decode cX5_finder 18 = .ok (.tableswitch 154 0 7 #[46, 48, 55, 62, 69, 94, 116, 136], 46) := by decide +kernel
theorem dX5_finder_64 : decode cX5_finder 64 = .ok (.iload_n 3, 1) := by decide +kernel
theorem dX5_finder_65 : decode cX5_finder 65 = .ok (.ireturn, 1) := by decide +kernel
theorem dX5_finder_66 : decode cX5_finder 66 = .ok (.aload_n 0, 1) := by decide +kernel
theorem dX5_finder_67 : decode cX5_finder 67 = .ok (.iload_n 1, 1) := by decide +kernel
theorem dX5_finder_68 : decode cX5_finder 68 = .ok (.iconst 1, 1) := by decide +kernel
theorem dX5_finder_69 : decode cX5_finder 69 = .ok (.invokevirtual 41, 3) := by decide +kernel
theorem dX5_finder_72 : decode cX5_finder 72 = .ok (.ireturn, 1) := by decide +kernel
theorem dX5_finder_73 : decode cX5_finder 73 = .ok (.aload_n 0, 1) := by decide +kernel
theorem dX5_finder_74 : decode cX5_finder 74 = .ok (.iload_n 1, 1) := by decide +kernel
theorem dX5_finder_75 : decode cX5_finder 75 = .ok (.iconst 2, 1) := by decide +kernel
theorem dX5_finder_76 : decode cX5_finder 76 = .ok (.invokevirtual 41, 3) := by decide +kernel
theorem dX5_finder_79 : decode cX5_finder 79 = .ok (.ireturn, 1) := by decide +kernel
theorem dX5_finder_80 : decode cX5_finder 80 = .ok (.aload_n 0, 1) := by decide +kernel
theorem dX5_finder_81 : decode cX5_finder 81 = .ok (.iload_n 1, 1) := by decide +kernel
theorem dX5_finder_82 : decode cX5_finder 82 = .ok (.iconst 3, 1) := by decide +kernel
theorem dX5_finder_83 : decode cX5_finder 83 = .ok (.invokevirtual 41, 3) := by decide +kernel
theorem dX5_finder_86 : decode cX5_finder 86 = .ok (.ireturn, 1) := by decide +kernel
theorem dX5_finder_87 : decode cX5_finder 87 = .ok (.iload_n 3, 1) := by decide +kernel
theorem dX5_finder_88 : decode cX5_finder 88 = .ok (.iconst 4, 1) := by decide +kernel
theorem dX5_finder_89 : decode cX5_finder 89 = .ok (.if_icmp .eq 11, 3) := by decide +kernel
theorem dX5_finder_92 : decode cX5_finder 92 = .ok (.aload_n 0, 1) := by decide +kernel
theorem dX5_finder_93 : decode cX5_finder 93 = .ok (.iload_n 1, 1) := by decide +kernel
theorem dX5_finder_94 : decode cX5_finder 94 = .ok (.invokevirtual 57, 3) := by decide +kernel
theorem dX5_finder_97 : decode cX5_finder 97 = .ok (.ifCond .eq 12, 3) := by decide +kernel
theorem dX5_finder_100 : decode cX5_finder 100 = .ok (.aload_n 0, 1) := by decide +kernel
theorem dX5_finder_101 : decode cX5_finder 101 = .ok (.iload_n 1, 1) := by decide +kernel
theorem dX5_finder_102 : decode cX5_finder 102 = .ok (.iconst 4, 1) := by decide +kernel
theorem dX5_finder_103 : decode cX5_finder 103 = .ok (.invokevirtual 41, 3) := by decide +kernel
theorem dX5_finder_106 : decode cX5_finder 106 = .ok (.goto 5, 3) := by decide +kernel
theorem dX5_finder_109 : decode cX5_finder 109 = .ok (.bipush (-6), 2) := by decide +kernel
theorem dX5_finder_111 : decode cX5_finder 111 = .ok (.ireturn, 1) := by decide +kernel
theorem dX5_finder_112 : decode cX5_finder 112 = .ok (.iload_n 3, 1) := by decide +kernel
theorem dX5_finder_113 : decode cX5_finder 113 = .ok (.iconst 3, 1) := by decide +kernel
theorem dX5_finder_114 : decode cX5_finder 114 = .ok (.if_icmp .eq 9, 3) := by decide +kernel
theorem dX5_finder_117 : decode cX5_finder 117 = .ok (.iload_n 3, 1) := by decide +kernel
theorem dX5_finder_118 : decode cX5_finder 118 = .ok (.bipush 6, 2) := by decide +kernel
theorem dX5_finder_120 : decode cX5_finder 120 = .ok (.if_icmp .ne 12, 3) := by decide +kernel
theorem dX5_finder_123 : decode cX5_finder 123 = .ok (.aload_n 0, 1) := by decide +kernel
theorem dX5_finder_124 : decode cX5_finder 124 = .ok (.iload_n 1, 1) := by decide +kernel
theorem dX5_finder_125 : decode cX5_finder 125 = .ok (.iconst 5, 1) := by decide +kernel
theorem dX5_finder_126 : decode cX5_finder 126 = .ok (.invokevirtual 41, 3) := by decide +kernel
theorem dX5_finder_129 : decode cX5_finder 129 = .ok (.goto 4, 3) := by decide +kernel
theorem dX5_finder_132 : decode cX5_finder 132 = .ok (.iconst 0, 1) := by decide +kernel
theorem dX5_finder_133 : decode cX5_finder 133 = .ok (.ireturn, 1) := by decide +kernel
