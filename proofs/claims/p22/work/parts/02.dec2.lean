theorem dX0_talkOn_1 : decode cX0_talkOn 1 = .ok (.aload_n 1, 1) := by decide +kernel
theorem dX0_talkOn_2 : decode cX0_talkOn 2 = .ok (.getfield 129, 3) := by decide +kernel
theorem dX0_talkOn_5 : decode cX0_talkOn 5 = .ok (.invokevirtual 83, 3) := by decide +kernel
theorem dX0_talkOn_8 : decode cX0_talkOn 8 = .ok (.astore_n 3, 1) := by decide +kernel
theorem dX0_talkOn_9 : decode cX0_talkOn 9 = .ok (.aload_n 3, 1) := by decide +kernel
theorem dX0_talkOn_10 : decode cX0_talkOn 10 = .ok (.getfield 102, 3) := by decide +kernel
theorem dX0_talkOn_13 : decode cX0_talkOn 13 = .ok (.ifCond .eq 11, 3) := by decide +kernel
theorem dX0_talkOn_16 : decode cX0_talkOn 16 = .ok (.aload_n 1, 1) := by decide +kernel
theorem dX0_talkOn_17 : decode cX0_talkOn 17 = .ok (.iconst 0, 1) := by decide +kernel
theorem dX0_talkOn_18 : decode cX0_talkOn 18 = .ok (.putfield 217, 3) := by decide +kernel
theorem dX0_talkOn_21 : decode cX0_talkOn 21 = .ok (.goto 47, 3) := by decide +kernel
theorem dX0_talkOn_24 : decode cX0_talkOn 24 = .ok (.aload_n 1, 1) := by decide +kernel
theorem dX0_talkOn_25 : decode cX0_talkOn 25 = .ok (.dup, 1) := by decide +kernel
theorem dX0_talkOn_26 : decode cX0_talkOn 26 = .ok (.getfield 217, 3) := by decide +kernel
theorem dX0_talkOn_29 : decode cX0_talkOn 29 = .ok (.iconst 1, 1) := by decide +kernel
theorem dX0_talkOn_30 : decode cX0_talkOn 30 = .ok (.iadd, 1) := by decide +kernel
theorem dX0_talkOn_31 : decode cX0_talkOn 31 = .ok (.putfield 217, 3) := by decide +kernel
theorem dX0_talkOn_34 : decode cX0_talkOn 34 = .ok (.aload_n 1, 1) := by decide +kernel
theorem dX0_talkOn_35 : decode cX0_talkOn 35 = .ok (.getfield 217, 3) := by decide +kernel
theorem dX0_talkOn_38 : decode cX0_talkOn 38 = .ok (.aload_n 0, 1) := by decide +kernel
theorem dX0_talkOn_39 : decode cX0_talkOn 39 = .ok (.iconst 3, 1) := by decide +kernel
theorem dX0_talkOn_40 : decode cX0_talkOn 40 = .ok (.invokevirtual 79, 3) := by decide +kernel
theorem dX0_talkOn_43 : decode cX0_talkOn 43 = .ok (.if_icmp .lt 25, 3) := by decide +kernel
theorem dX0_talkOn_46 : decode cX0_talkOn 46 = .ok (.aload_n 1, 1) := by decide +kernel
theorem dX0_talkOn_47 : decode cX0_talkOn 47 = .ok (.invokevirtual 132, 3) := by decide +kernel
theorem dX0_talkOn_50 : decode cX0_talkOn 50 = .ok (.aload_n 2, 1) := by decide +kernel
theorem dX0_talkOn_51 : decode cX0_talkOn 51 = .ok (.bipush 6, 2) := by decide +kernel
theorem dX0_talkOn_53 : decode cX0_talkOn 53 = .ok (.putfield 109, 3) := by decide +kernel
theorem dX0_talkOn_56 : decode cX0_talkOn 56 = .ok (.aload_n 2, 1) := by decide +kernel
theorem dX0_talkOn_57 : decode cX0_talkOn 57 = .ok (.bipush 10, 2) := by decide +kernel
theorem dX0_talkOn_59 : decode cX0_talkOn 59 = .ok (.invokevirtual 125, 3) := by decide +kernel
theorem dX0_talkOn_62 : decode cX0_talkOn 62 = .ok (.aload_n 3, 1) := by decide +kernel
theorem dX0_talkOn_63 : decode cX0_talkOn 63 = .ok (.iconst 0, 1) := by decide +kernel
theorem dX0_talkOn_64 : decode cX0_talkOn 64 = .ok (.invokevirtual 125, 3) := by decide +kernel
theorem dX0_talkOn_67 : decode cX0_talkOn 67 = .ok (.return_, 1) := by decide +kernel
theorem dX0_talkOn_68 : decode cX0_talkOn 68 = .ok (.aload_n 1, 1) := by decide +kernel
theorem dX0_talkOn_69 : decode cX0_talkOn 69 = .ok (.dup, 1) := by decide +kernel
theorem dX0_talkOn_70 : decode cX0_talkOn 70 = .ok (.getfield 194, 3) := by decide +kernel
theorem dX0_talkOn_73 : decode cX0_talkOn 73 = .ok (.iconst 1, 1) := by decide +kernel
theorem dX0_talkOn_74 : decode cX0_talkOn 74 = .ok (.iadd, 1) := by decide +kernel
theorem dX0_talkOn_75 : decode cX0_talkOn 75 = .ok (.putfield 194, 3) := by decide +kernel
theorem dX0_talkOn_78 : decode cX0_talkOn 78 = .ok (.aload_n 0, 1) := by decide +kernel
theorem dX0_talkOn_79 : decode cX0_talkOn 79 = .ok (.iconst 2, 1) := by decide +kernel
theorem dX0_talkOn_80 : decode cX0_talkOn 80 = .ok (.invokevirtual 79, 3) := by decide +kernel
theorem dX0_talkOn_83 : decode cX0_talkOn 83 = .ok (.istore 4, 2) := by decide +kernel
theorem dX0_talkOn_85 : decode cX0_talkOn 85 = .ok (.iload 4, 2) := by decide +kernel
theorem dX0_talkOn_87 : decode cX0_talkOn 87 = .ok (.ifCond .le 23, 3) := by decide +kernel
theorem dX0_talkOn_90 : decode cX0_talkOn 90 = .ok (.aload_n 1, 1) := by decide +kernel
theorem dX0_talkOn_91 : decode cX0_talkOn 91 = .ok (.getfield 194, 3) := by decide +kernel
theorem dX0_talkOn_94 : decode cX0_talkOn 94 = .ok (.iload 4, 2) := by decide +kernel
theorem dX0_talkOn_96 : decode cX0_talkOn 96 = .ok (.irem, 1) := by decide +kernel
theorem dX0_talkOn_97 : decode cX0_talkOn 97 = .ok (.ifCond .ne 13, 3) := by decide +kernel
theorem dX0_talkOn_100 : decode cX0_talkOn 100 = .ok (.aload_n 2, 1) := by decide +kernel
theorem dX0_talkOn_101 : decode cX0_talkOn 101 = .ok (.dup, 1) := by decide +kernel
theorem dX0_talkOn_102 : decode cX0_talkOn 102 = .ok (.getfield 214, 3) := by decide +kernel
theorem dX0_talkOn_105 : decode cX0_talkOn 105 = .ok (.iconst 1, 1) := by decide +kernel
theorem dX0_talkOn_106 : decode cX0_talkOn 106 = .ok (.iadd, 1) := by decide +kernel
theorem dX0_talkOn_107 : decode cX0_talkOn 107 = .ok (.putfield 214, 3) := by decide +kernel
theorem dX0_talkOn_110 : decode cX0_talkOn 110 = .ok (.return_, 1) := by decide +kernel
theorem dX0_soundOn_0 : decode cX0_soundOn 0 = .ok (.aload_n 1, 1) := by decide +kernel
theorem dX0_soundOn_1 : decode cX0_soundOn 1 = .ok (.dup, 1) := by decide +kernel
theorem dX0_soundOn_2 : decode cX0_soundOn 2 = .ok (.getfield 194, 3) := by decide +kernel
theorem dX0_soundOn_5 : decode cX0_soundOn 5 = .ok (.iconst 1, 1) := by decide +kernel
theorem dX0_soundOn_6 : decode cX0_soundOn 6 = .ok (.iadd, 1) := by decide +kernel
theorem dX0_soundOn_7 : decode cX0_soundOn 7 = .ok (.putfield 194, 3) := by decide +kernel
theorem dX0_soundOn_10 : decode cX0_soundOn 10 = .ok (.aload_n 1, 1) := by decide +kernel
theorem dX0_soundOn_11 : decode cX0_soundOn 11 = .ok (.getfield 194, 3) := by decide +kernel
theorem dX0_soundOn_14 : decode cX0_soundOn 14 = .ok (.aload_n 0, 1) := by decide +kernel
theorem dX0_soundOn_15 : decode cX0_soundOn 15 = .ok (.iconst 0, 1) := by decide +kernel
theorem dX0_soundOn_16 : decode cX0_soundOn 16 = .ok (.invokevirtual 79, 3) := by decide +kernel
theorem dX0_soundOn_19 : decode cX0_soundOn 19 = .ok (.if_icmp .lt 13, 3) := by decide +kernel
theorem dX0_soundOn_22 : decode cX0_soundOn 22 = .ok (.aload_n 1, 1) := by decide +kernel
theorem dX0_soundOn_23 : decode cX0_soundOn 23 = .ok (.invokevirtual 132, 3) := by decide +kernel
theorem dX0_soundOn_26 : decode cX0_soundOn 26 = .ok (.aload_n 2, 1) := by decide +kernel
theorem dX0_soundOn_27 : decode cX0_soundOn 27 = .ok (.bipush 10, 2) := by decide +kernel
theorem dX0_soundOn_29 : decode cX0_soundOn 29 = .ok (.invokevirtual 125, 3) := by decide +kernel
theorem dX0_soundOn_32 : decode cX0_soundOn 32 = .ok (.return_, 1) := by decide +kernel
theorem dX0_sound_0 : decode cX0_sound 0 = .ok (.aload_n 1, 1) := by decide +kernel
theorem dX0_sound_1 : decode cX0_sound 1 = .ok (.bipush 9, 2) := by decide +kernel
theorem dX0_sound_3 : decode cX0_sound 3 = .ok (.invokevirtual 184, 3) := by decide +kernel
theorem dX0_sound_6 : decode cX0_sound 6 = .ok (.aload_n 1, 1) := by decide +kernel
theorem dX0_sound_7 : decode cX0_sound 7 = .ok (.bipush (-6), 2) := by decide +kernel
theorem dX0_sound_9 : decode cX0_sound 9 = .ok (.putfield 204, 3) := by decide +kernel
theorem dX0_sound_12 : decode cX0_sound 12 = .ok (.aload_n 1, 1) := by decide +kernel
theorem dX0_sound_13 : decode cX0_sound 13 = .ok (.bipush (-6), 2) := by decide +kernel
theorem dX0_sound_15 : decode cX0_sound 15 = .ok (.putfield 129, 3) := by decide +kernel
theorem dX0_sound_18 : decode cX0_sound 18 = .ok (.aload_n 2, 1) := by decide +kernel
theorem dX0_sound_19 : decode cX0_sound 19 = .ok (.iload_n 3, 1) := by decide +kernel
theorem dX0_sound_20 : decode cX0_sound 20 = .ok (.putfield 106, 3) := by decide +kernel
theorem dX0_sound_23 : decode cX0_sound 23 = .ok (.aload_n 2, 1) := by decide +kernel
theorem dX0_sound_24 : decode cX0_sound 24 = .ok (.iload 4, 2) := by decide +kernel
theorem dX0_sound_26 : decode cX0_sound 26 = .ok (.putfield 109, 3) := by decide +kernel
theorem dX0_sound_29 : decode cX0_sound 29 = .ok (.iload_n 3, 1) := by decide +kernel
theorem dX0_sound_30 : decode cX0_sound 30 = .ok (.bipush 8, 2) := by decide +kernel
theorem dX0_sound_32 : decode cX0_sound 32 = .ok (.if_icmp .ne 16, 3) := by decide +kernel
theorem dX0_sound_35 : decode cX0_sound 35 = .ok (.aload_n 0, 1) := by decide +kernel
theorem dX0_sound_36 : decode cX0_sound 36 = .ok (.dup, 1) := by decide +kernel
theorem dX0_sound_37 : decode cX0_sound 37 = .ok (.getfield 70, 3) := by decide +kernel
theorem dX0_sound_40 : decode cX0_sound 40 = .ok (.iconst 1, 1) := by decide +kernel
theorem dX0_sound_41 : decode cX0_sound 41 = .ok (.iadd, 1) := by decide +kernel
theorem dX0_sound_42 : decode cX0_sound 42 = .ok (.putfield 70, 3) := by decide +kernel
theorem dX0_sound_45 : decode cX0_sound 45 = .ok (.goto 13, 3) := by decide +kernel
theorem dX0_sound_48 : decode cX0_sound 48 = .ok (.aload_n 0, 1) := by decide +kernel
theorem dX0_sound_49 : decode cX0_sound 49 = .ok (.dup, 1) := by decide +kernel
theorem dX0_sound_50 : decode cX0_sound 50 = .ok (.getfield 73, 3) := by decide +kernel
theorem dX0_sound_53 : decode cX0_sound 53 = .ok (.iconst 1, 1) := by decide +kernel
theorem dX0_sound_54 : decode cX0_sound 54 = .ok (.iadd, 1) := by decide +kernel
theorem dX0_sound_55 : decode cX0_sound 55 = .ok (.putfield 73, 3) := by decide +kernel
theorem dX0_sound_58 : decode cX0_sound 58 = .ok (.return_, 1) := by decide +kernel
theorem dX0_allotFinder_0 : decode cX0_allotFinder 0 = .ok (.aload_n 0, 1) := by decide +kernel
theorem dX0_allotFinder_1 : decode cX0_allotFinder 1 = .ok (.invokevirtual 220, 3) := by decide +kernel
theorem dX0_allotFinder_4 : decode cX0_allotFinder 4 = .ok (.istore_n 1, 1) := by decide +kernel
theorem dX0_allotFinder_5 : decode cX0_allotFinder 5 = .ok (.iload_n 1, 1) := by decide +kernel
theorem dX0_allotFinder_6 : decode cX0_allotFinder 6 = .ok (.bipush (-6), 2) := by decide +kernel
theorem dX0_allotFinder_8 : decode cX0_allotFinder 8 = .ok (.if_icmp .ne 4, 3) := by decide +kernel
theorem dX0_allotFinder_11 : decode cX0_allotFinder 11 = .ok (.return_, 1) := by decide +kernel
theorem dX0_allotFinder_12 : decode cX0_allotFinder 12 = .ok (.aload_n 0, 1) := by decide +kernel
theorem dX0_allotFinder_13 : decode cX0_allotFinder 13 = .ok (.invokevirtual 223, 3) := by decide +kernel
theorem dX0_allotFinder_16 : decode cX0_allotFinder 16 = .ok (.istore_n 2, 1) := by decide +kernel
theorem dX0_allotFinder_17 : decode cX0_allotFinder 17 = .ok (.iload_n 2, 1) := by decide +kernel
theorem dX0_allotFinder_18 : decode cX0_allotFinder 18 = .ok (.bipush (-6), 2) := by decide +kernel
theorem dX0_allotFinder_20 : decode cX0_allotFinder 20 = .ok (.if_icmp .ne 4, 3) := by decide +kernel
theorem dX0_allotFinder_23 : decode cX0_allotFinder 23 = .ok (.return_, 1) := by decide +kernel
theorem dX0_allotFinder_24 : decode cX0_allotFinder 24 = .ok (.aload_n 0, 1) := by decide +kernel
theorem dX0_allotFinder_25 : decode cX0_allotFinder 25 = .ok (.iload_n 1, 1) := by decide +kernel
theorem dX0_allotFinder_26 : decode cX0_allotFinder 26 = .ok (.invokevirtual 90, 3) := by decide +kernel
theorem dX0_allotFinder_29 : decode cX0_allotFinder 29 = .ok (.astore_n 3, 1) := by decide +kernel
theorem dX0_allotFinder_30 : decode cX0_allotFinder 30 = .ok (.aload_n 3, 1) := by decide +kernel
theorem dX0_allotFinder_31 : decode cX0_allotFinder 31 = .ok (.iconst 1, 1) := by decide +kernel
theorem dX0_allotFinder_32 : decode cX0_allotFinder 32 = .ok (.invokevirtual 184, 3) := by decide +kernel
theorem dX0_allotFinder_35 : decode cX0_allotFinder 35 = .ok (.aload_n 3, 1) := by decide +kernel
theorem dX0_allotFinder_36 : decode cX0_allotFinder 36 = .ok (.iload_n 2, 1) := by decide +kernel
theorem dX0_allotFinder_37 : decode cX0_allotFinder 37 = .ok (.putfield 151, 3) := by decide +kernel
theorem dX0_allotFinder_40 : decode cX0_allotFinder 40 = .ok (.aload_n 0, 1) := by decide +kernel
theorem dX0_allotFinder_41 : decode cX0_allotFinder 41 = .ok (.iload_n 2, 1) := by decide +kernel
theorem dX0_allotFinder_42 : decode cX0_allotFinder 42 = .ok (.invokevirtual 83, 3) := by decide +kernel
theorem dX0_allotFinder_45 : decode cX0_allotFinder 45 = .ok (.iload_n 1, 1) := by decide +kernel
theorem dX0_allotFinder_46 : decode cX0_allotFinder 46 = .ok (.putfield 119, 3) := by decide +kernel
theorem dX0_allotFinder_49 : decode cX0_allotFinder 49 = .ok (.aload_n 0, 1) := by decide +kernel
theorem dX0_allotFinder_50 : decode cX0_allotFinder 50 = .ok (.iload_n 1, 1) := by decide +kernel
theorem dX0_allotFinder_51 : decode cX0_allotFinder 51 = .ok (.putfield 55, 3) := by decide +kernel
theorem dX0_allotFinder_54 : decode cX0_allotFinder 54 = .ok (.return_, 1) := by decide +kernel
theorem dX0_countParked_0 : decode cX0_countParked 0 = .ok (.aload_n 0, 1) := by decide +kernel
theorem dX0_countParked_1 : decode cX0_countParked 1 = .ok (.iconst 4, 1) := by decide +kernel
theorem dX0_countParked_2 : decode cX0_countParked 2 = .ok (.invokevirtual 79, 3) := by decide +kernel
theorem dX0_countParked_5 : decode cX0_countParked 5 = .ok (.istore_n 1, 1) := by decide +kernel
theorem dX0_countParked_6 : decode cX0_countParked 6 = .ok (.iconst 0, 1) := by decide +kernel
theorem dX0_countParked_7 : decode cX0_countParked 7 = .ok (.istore_n 2, 1) := by decide +kernel
theorem dX0_countParked_8 : decode cX0_countParked 8 = .ok (.iload_n 2, 1) := by decide +kernel
theorem dX0_countParked_9 : decode cX0_countParked 9 = .ok (.bipush 16, 2) := by decide +kernel
theorem dX0_countParked_11 : decode cX0_countParked 11 = .ok (.if_icmp .ge 18, 3) := by decide +kernel
theorem dX0_countParked_14 : decode cX0_countParked 14 = .ok (.aload_n 0, 1) := by decide +kernel
theorem dX0_countParked_15 : decode cX0_countParked 15 = .ok (.iload_n 2, 1) := by decide +kernel
theorem dX0_countParked_16 : decode cX0_countParked 16 = .ok (.invokevirtual 83, 3) := by decide +kernel
theorem dX0_countParked_19 : decode cX0_countParked 19 = .ok (.iload_n 1, 1) := by decide +kernel
theorem dX0_countParked_20 : decode cX0_countParked 20 = .ok (.invokevirtual 226, 3) := by decide +kernel
theorem dX0_countParked_23 : decode cX0_countParked 23 = .ok (.iinc 2 1, 3) := by decide +kernel
theorem dX0_countParked_26 : decode cX0_countParked 26 = .ok (.goto (-18), 3) := by decide +kernel
theorem dX0_countParked_29 : decode cX0_countParked 29 = .ok (.return_, 1) := by decide +kernel
theorem dX0_nextFreeFinder_0 : decode cX0_nextFreeFinder 0 = .ok (.iconst 1, 1) := by decide +kernel
theorem dX0_nextFreeFinder_1 : decode cX0_nextFreeFinder 1 = .ok (.istore_n 1, 1) := by decide +kernel
theorem dX0_nextFreeFinder_2 : decode cX0_nextFreeFinder 2 = .ok (.iload_n 1, 1) := by decide +kernel
theorem dX0_nextFreeFinder_3 : decode cX0_nextFreeFinder 3 = .ok (.aload_n 0, 1) := by decide +kernel
theorem dX0_nextFreeFinder_4 : decode cX0_nextFreeFinder 4 = .ok (.getfield 45, 3) := by decide +kernel
theorem dX0_nextFreeFinder_7 : decode cX0_nextFreeFinder 7 = .ok (.if_icmp .gt 44, 3) := by decide +kernel
theorem dX0_nextFreeFinder_10 : decode cX0_nextFreeFinder 10 = .ok (.aload_n 0, 1) := by decide +kernel
theorem dX0_nextFreeFinder_11 : decode cX0_nextFreeFinder 11 = .ok (.getfield 55, 3) := by decide +kernel
theorem dX0_nextFreeFinder_14 : decode cX0_nextFreeFinder 14 = .ok (.iload_n 1, 1) := by decide +kernel
theorem dX0_nextFreeFinder_15 : decode cX0_nextFreeFinder 15 = .ok (.iadd, 1) := by decide +kernel
theorem dX0_nextFreeFinder_16 : decode cX0_nextFreeFinder 16 = .ok (.istore_n 2, 1) := by decide +kernel
theorem dX0_nextFreeFinder_17 : decode cX0_nextFreeFinder 17 = .ok (.iload_n 2, 1) := by decide +kernel
theorem dX0_nextFreeFinder_18 : decode cX0_nextFreeFinder 18 = .ok (.aload_n 0, 1) := by decide +kernel
theorem dX0_nextFreeFinder_19 : decode cX0_nextFreeFinder 19 = .ok (.getfield 45, 3) := by decide +kernel
theorem dX0_nextFreeFinder_22 : decode cX0_nextFreeFinder 22 = .ok (.if_icmp .lt 10, 3) := by decide +kernel
theorem dX0_nextFreeFinder_25 : decode cX0_nextFreeFinder 25 = .ok (.iload_n 2, 1) := by decide +kernel
theorem dX0_nextFreeFinder_26 : decode cX0_nextFreeFinder 26 = .ok (.aload_n 0, 1) := by decide +kernel
theorem dX0_nextFreeFinder_27 : decode cX0_nextFreeFinder 27 = .ok (.getfield 45, 3) := by decide +kernel
theorem dX0_nextFreeFinder_30 : decode cX0_nextFreeFinder 30 = .ok (.isub, 1) := by decide +kernel
theorem dX0_nextFreeFinder_31 : decode cX0_nextFreeFinder 31 = .ok (.istore_n 2, 1) := by decide +kernel
theorem dX0_nextFreeFinder_32 : decode cX0_nextFreeFinder 32 = .ok (.aload_n 0, 1) := by decide +kernel
theorem dX0_nextFreeFinder_33 : decode cX0_nextFreeFinder 33 = .ok (.iload_n 2, 1) := by decide +kernel
theorem dX0_nextFreeFinder_34 : decode cX0_nextFreeFinder 34 = .ok (.invokevirtual 90, 3) := by decide +kernel
theorem dX0_nextFreeFinder_37 : decode cX0_nextFreeFinder 37 = .ok (.getfield 154, 3) := by decide +kernel
theorem dX0_nextFreeFinder_40 : decode cX0_nextFreeFinder 40 = .ok (.ifCond .ne 5, 3) := by decide +kernel
theorem dX0_nextFreeFinder_43 : decode cX0_nextFreeFinder 43 = .ok (.iload_n 2, 1) := by decide +kernel
theorem dX0_nextFreeFinder_44 : decode cX0_nextFreeFinder 44 = .ok (.ireturn, 1) := by decide +kernel
theorem dX0_nextFreeFinder_45 : decode cX0_nextFreeFinder 45 = .ok (.iinc 1 1, 3) := by decide +kernel
theorem dX0_nextFreeFinder_48 : decode cX0_nextFreeFinder 48 = .ok (.goto (-46), 3) := by decide +kernel
theorem dX0_nextFreeFinder_51 : decode cX0_nextFreeFinder 51 = .ok (.bipush (-6), 2) := by decide +kernel
theorem dX0_nextFreeFinder_53 : decode cX0_nextFreeFinder 53 = .ok (.ireturn, 1) := by decide +kernel
theorem dX0_firstWaitingLine_0 : decode cX0_firstWaitingLine 0 = .ok (.bipush (-6), 2) := by decide +kernel
theorem dX0_firstWaitingLine_2 : decode cX0_firstWaitingLine 2 = .ok (.istore_n 1, 1) := by decide +kernel
theorem dX0_firstWaitingLine_3 : decode cX0_firstWaitingLine 3 = .ok (.iconst 0, 1) := by decide +kernel
theorem dX0_firstWaitingLine_4 : decode cX0_firstWaitingLine 4 = .ok (.istore_n 2, 1) := by decide +kernel
theorem dX0_firstWaitingLine_5 : decode cX0_firstWaitingLine 5 = .ok (.iload_n 2, 1) := by decide +kernel
theorem dX0_firstWaitingLine_6 : decode cX0_firstWaitingLine 6 = .ok (.bipush 16, 2) := by decide +kernel
theorem dX0_firstWaitingLine_8 : decode cX0_firstWaitingLine 8 = .ok (.if_icmp .ge 45, 3) := by decide +kernel
theorem dX0_firstWaitingLine_11 : decode cX0_firstWaitingLine 11 = .ok (.aload_n 0, 1) := by decide +kernel
theorem dX0_firstWaitingLine_12 : decode cX0_firstWaitingLine 12 = .ok (.iload_n 2, 1) := by decide +kernel
theorem dX0_firstWaitingLine_13 : decode cX0_firstWaitingLine 13 = .ok (.invokevirtual 83, 3) := by decide +kernel
theorem dX0_firstWaitingLine_16 : decode cX0_firstWaitingLine 16 = .ok (.astore_n 3, 1) := by decide +kernel
theorem dX0_firstWaitingLine_17 : decode cX0_firstWaitingLine 17 = .ok (.aload_n 3, 1) := by decide +kernel
theorem dX0_firstWaitingLine_18 : decode cX0_firstWaitingLine 18 = .ok (.invokevirtual 229, 3) := by decide +kernel
theorem dX0_firstWaitingLine_21 : decode cX0_firstWaitingLine 21 = .ok (.ifCond .eq 26, 3) := by decide +kernel
theorem dX0_firstWaitingLine_24 : decode cX0_firstWaitingLine 24 = .ok (.iload_n 1, 1) := by decide +kernel
theorem dX0_firstWaitingLine_25 : decode cX0_firstWaitingLine 25 = .ok (.bipush (-6), 2) := by decide +kernel
theorem dX0_firstWaitingLine_27 : decode cX0_firstWaitingLine 27 = .ok (.if_icmp .eq 18, 3) := by decide +kernel
theorem dX0_firstWaitingLine_30 : decode cX0_firstWaitingLine 30 = .ok (.aload_n 3, 1) := by decide +kernel
theorem dX0_firstWaitingLine_31 : decode cX0_firstWaitingLine 31 = .ok (.getfield 112, 3) := by decide +kernel
theorem dX0_firstWaitingLine_34 : decode cX0_firstWaitingLine 34 = .ok (.aload_n 0, 1) := by decide +kernel
theorem dX0_firstWaitingLine_35 : decode cX0_firstWaitingLine 35 = .ok (.iload_n 1, 1) := by decide +kernel
theorem dX0_firstWaitingLine_36 : decode cX0_firstWaitingLine 36 = .ok (.invokevirtual 83, 3) := by decide +kernel
theorem dX0_firstWaitingLine_39 : decode cX0_firstWaitingLine 39 = .ok (.getfield 112, 3) := by decide +kernel
theorem dX0_firstWaitingLine_42 : decode cX0_firstWaitingLine 42 = .ok (.if_icmp .ge 5, 3) := by decide +kernel
theorem dX0_firstWaitingLine_45 : decode cX0_firstWaitingLine 45 = .ok (.iload_n 2, 1) := by decide +kernel
theorem dX0_firstWaitingLine_46 : decode cX0_firstWaitingLine 46 = .ok (.istore_n 1, 1) := by decide +kernel
theorem dX0_firstWaitingLine_47 : decode cX0_firstWaitingLine 47 = .ok (.iinc 2 1, 3) := by decide +kernel
theorem dX0_firstWaitingLine_50 : decode cX0_firstWaitingLine 50 = .ok (.goto (-45), 3) := by decide +kernel
theorem dX0_firstWaitingLine_53 : decode cX0_firstWaitingLine 53 = .ok (.iload_n 1, 1) := by decide +kernel
theorem dX0_firstWaitingLine_54 : decode cX0_firstWaitingLine 54 = .ok (.ireturn, 1) := by decide +kernel
theorem dX0_holderOf_0 : decode cX0_holderOf 0 = .ok (.iconst 0, 1) := by decide +kernel
theorem dX0_holderOf_1 : decode cX0_holderOf 1 = .ok (.istore_n 3, 1) := by decide +kernel
theorem dX0_holderOf_2 : decode cX0_holderOf 2 = .ok (.iload_n 3, 1) := by decide +kernel
theorem dX0_holderOf_3 : decode cX0_holderOf 3 = .ok (.aload_n 0, 1) := by decide +kernel
theorem dX0_holderOf_4 : decode cX0_holderOf 4 = .ok (.getfield 45, 3) := by decide +kernel
theorem dX0_holderOf_7 : decode cX0_holderOf 7 = .ok (.if_icmp .ge 44, 3) := by decide +kernel
theorem dX0_holderOf_10 : decode cX0_holderOf 10 = .ok (.aload_n 0, 1) := by decide +kernel
theorem dX0_holderOf_11 : decode cX0_holderOf 11 = .ok (.iload_n 3, 1) := by decide +kernel
theorem dX0_holderOf_12 : decode cX0_holderOf 12 = .ok (.invokevirtual 90, 3) := by decide +kernel
theorem dX0_holderOf_15 : decode cX0_holderOf 15 = .ok (.astore 4, 2) := by decide +kernel
theorem dX0_holderOf_17 : decode cX0_holderOf 17 = .ok (.aload 4, 2) := by decide +kernel
theorem dX0_holderOf_19 : decode cX0_holderOf 19 = .ok (.invokevirtual 232, 3) := by decide +kernel
theorem dX0_holderOf_22 : decode cX0_holderOf 22 = .ok (.ifCond .eq 23, 3) := by decide +kernel
theorem dX0_holderOf_25 : decode cX0_holderOf 25 = .ok (.aload 4, 2) := by decide +kernel
theorem dX0_holderOf_27 : decode cX0_holderOf 27 = .ok (.getfield 197, 3) := by decide +kernel
theorem dX0_holderOf_30 : decode cX0_holderOf 30 = .ok (.iload_n 1, 1) := by decide +kernel
theorem dX0_holderOf_31 : decode cX0_holderOf 31 = .ok (.if_icmp .ne 14, 3) := by decide +kernel
theorem dX0_holderOf_34 : decode cX0_holderOf 34 = .ok (.aload 4, 2) := by decide +kernel
theorem dX0_holderOf_36 : decode cX0_holderOf 36 = .ok (.getfield 204, 3) := by decide +kernel
theorem dX0_holderOf_39 : decode cX0_holderOf 39 = .ok (.iload_n 2, 1) := by decide +kernel
theorem dX0_holderOf_40 : decode cX0_holderOf 40 = .ok (.if_icmp .ne 5, 3) := by decide +kernel
theorem dX0_holderOf_43 : decode cX0_holderOf 43 = .ok (.iload_n 3, 1) := by decide +kernel
theorem dX0_holderOf_44 : decode cX0_holderOf 44 = .ok (.ireturn, 1) := by decide +kernel
theorem dX0_holderOf_45 : decode cX0_holderOf 45 = .ok (.iinc 3 1, 3) := by decide +kernel
theorem dX0_holderOf_48 : decode cX0_holderOf 48 = .ok (.goto (-46), 3) := by decide +kernel
theorem dX0_holderOf_51 : decode cX0_holderOf 51 = .ok (.bipush (-6), 2) := by decide +kernel
theorem dX0_holderOf_53 : decode cX0_holderOf 53 = .ok (.ireturn, 1) := by decide +kernel
theorem dX0_ticksUntil_0 : decode cX0_ticksUntil 0 = .ok (.iconst 0, 1) := by decide +kernel
theorem dX0_ticksUntil_1 : decode cX0_ticksUntil 1 = .ok (.istore 4, 2) := by decide +kernel
theorem dX0_ticksUntil_3 : decode cX0_ticksUntil 3 = .ok (.iload 4, 2) := by decide +kernel
theorem dX0_ticksUntil_5 : decode cX0_ticksUntil 5 = .ok (.iload_n 3, 1) := by decide +kernel
theorem dX0_ticksUntil_6 : decode cX0_ticksUntil 6 = .ok (.if_icmp .ge 29, 3) := by decide +kernel
theorem dX0_ticksUntil_9 : decode cX0_ticksUntil 9 = .ok (.aload_n 0, 1) := by decide +kernel
theorem dX0_ticksUntil_10 : decode cX0_ticksUntil 10 = .ok (.iload_n 1, 1) := by decide +kernel
theorem dX0_ticksUntil_11 : decode cX0_ticksUntil 11 = .ok (.invokevirtual 83, 3) := by decide +kernel
theorem dX0_ticksUntil_14 : decode cX0_ticksUntil 14 = .ok (.getfield 106, 3) := by decide +kernel
theorem dX0_ticksUntil_17 : decode cX0_ticksUntil 17 = .ok (.iload_n 2, 1) := by decide +kernel
theorem dX0_ticksUntil_18 : decode cX0_ticksUntil 18 = .ok (.if_icmp .ne 6, 3) := by decide +kernel
theorem dX0_ticksUntil_21 : decode cX0_ticksUntil 21 = .ok (.iload 4, 2) := by decide +kernel
theorem dX0_ticksUntil_23 : decode cX0_ticksUntil 23 = .ok (.ireturn, 1) := by decide +kernel
theorem dX0_ticksUntil_24 : decode cX0_ticksUntil 24 = .ok (.aload_n 0, 1) := by decide +kernel
theorem dX0_ticksUntil_25 : decode cX0_ticksUntil 25 = .ok (.iconst 1, 1) := by decide +kernel
theorem dX0_ticksUntil_26 : decode cX0_ticksUntil 26 = .ok (.invokevirtual 235, 3) := by decide +kernel
theorem dX0_ticksUntil_29 : decode cX0_ticksUntil 29 = .ok (.iinc 4 1, 3) := by decide +kernel
theorem dX0_ticksUntil_32 : decode cX0_ticksUntil 32 = .ok (.goto (-29), 3) := by decide +kernel
theorem dX0_ticksUntil_35 : decode cX0_ticksUntil 35 = .ok (.aload_n 0, 1) := by decide +kernel
theorem dX0_ticksUntil_36 : decode cX0_ticksUntil 36 = .ok (.iload_n 1, 1) := by decide +kernel
theorem dX0_ticksUntil_37 : decode cX0_ticksUntil 37 = .ok (.invokevirtual 83, 3) := by decide +kernel
theorem dX0_ticksUntil_40 : decode cX0_ticksUntil 40 = .ok (.getfield 106, 3) := by decide +kernel
theorem dX0_ticksUntil_43 : decode cX0_ticksUntil 43 = .ok (.iload_n 2, 1) := by decide +kernel
theorem dX0_ticksUntil_44 : decode cX0_ticksUntil 44 = .ok (.if_icmp .ne 7, 3) := by decide +kernel
theorem dX0_ticksUntil_47 : decode cX0_ticksUntil 47 = .ok (.iload_n 3, 1) := by decide +kernel
theorem dX0_ticksUntil_48 : decode cX0_ticksUntil 48 = .ok (.goto 5, 3) := by decide +kernel
theorem dX0_ticksUntil_51 : decode cX0_ticksUntil 51 = .ok (.bipush (-6), 2) := by decide +kernel
theorem dX0_ticksUntil_53 : decode cX0_ticksUntil 53 = .ok (.ireturn, 1) := by decide +kernel
theorem dX0_numberOfLine_0 : decode cX0_numberOfLine 0 = .ok (.aload_n 0, 1) := by decide +kernel
theorem dX0_numberOfLine_1 : decode cX0_numberOfLine 1 = .ok (.iload_n 1, 1) := by decide +kernel
theorem dX0_numberOfLine_2 : decode cX0_numberOfLine 2 = .ok (.invokevirtual 83, 3) := by decide +kernel
theorem dX0_numberOfLine_5 : decode cX0_numberOfLine 5 = .ok (.astore_n 3, 1) := by decide +kernel
theorem dX0_numberOfLine_6 : decode cX0_numberOfLine 6 = .ok (.iload_n 2, 1) := by decide +kernel
theorem dX0_numberOfLine_7 : decode cX0_numberOfLine 7 = .ok (.tableswitch 104 0 8 #[49, 54, 67, 72, 78, 83, 88, 93, 99], 49) := by decide +kernel
theorem dX0_numberOfLine_56 : decode cX0_numberOfLine 56 = .ok (.aload_n 3, 1) := by decide +kernel
theorem dX0_numberOfLine_57 : decode cX0_numberOfLine 57 = .ok (.getfield 106, 3) := by decide +kernel
theorem dX0_numberOfLine_60 : decode cX0_numberOfLine 60 = .ok (.ireturn, 1) := by decide +kernel
theorem dX0_numberOfLine_61 : decode cX0_numberOfLine 61 = .ok (.aload_n 3, 1) := by decide +kernel
theorem dX0_numberOfLine_62 : decode cX0_numberOfLine 62 = .ok (.getfield 102, 3) := by decide +kernel
theorem dX0_numberOfLine_65 : decode cX0_numberOfLine 65 = .ok (.ifCond .eq 7, 3) := by decide +kernel
theorem dX0_numberOfLine_68 : decode cX0_numberOfLine 68 = .ok (.iconst 1, 1) := by decide +kernel
theorem dX0_numberOfLine_69 : decode cX0_numberOfLine 69 = .ok (.goto 4, 3) := by decide +kernel
theorem dX0_numberOfLine_72 : decode cX0_numberOfLine 72 = .ok (.iconst 0, 1) := by decide +kernel
theorem dX0_numberOfLine_73 : decode cX0_numberOfLine 73 = .ok (.ireturn, 1) := by decide +kernel
theorem dX0_numberOfLine_74 : decode cX0_numberOfLine 74 = .ok (.aload_n 3, 1) := by decide +kernel
theorem dX0_numberOfLine_75 : decode cX0_numberOfLine 75 = .ok (.getfield 119, 3) := by decide +kernel
theorem dX0_numberOfLine_78 : decode cX0_numberOfLine 78 = .ok (.ireturn, 1) := by decide +kernel
theorem dX0_numberOfLine_79 : decode cX0_numberOfLine 79 = .ok (.aload_n 0, 1) := by decide +kernel
theorem dX0_numberOfLine_80 : decode cX0_numberOfLine 80 = .ok (.aload_n 3, 1) := by decide +kernel
theorem dX0_numberOfLine_81 : decode cX0_numberOfLine 81 = .ok (.invokevirtual 248, 3) := by decide +kernel
theorem dX0_numberOfLine_84 : decode cX0_numberOfLine 84 = .ok (.ireturn, 1) := by decide +kernel
theorem dX0_numberOfLine_85 : decode cX0_numberOfLine 85 = .ok (.aload_n 3, 1) := by decide +kernel
theorem dX0_numberOfLine_86 : decode cX0_numberOfLine 86 = .ok (.getfield 135, 3) := by decide +kernel
theorem dX0_numberOfLine_89 : decode cX0_numberOfLine 89 = .ok (.ireturn, 1) := by decide +kernel
theorem dX0_numberOfLine_90 : decode cX0_numberOfLine 90 = .ok (.aload_n 3, 1) := by decide +kernel
theorem dX0_numberOfLine_91 : decode cX0_numberOfLine 91 = .ok (.getfield 214, 3) := by decide +kernel
theorem dX0_numberOfLine_94 : decode cX0_numberOfLine 94 = .ok (.ireturn, 1) := by decide +kernel
theorem dX0_numberOfLine_95 : decode cX0_numberOfLine 95 = .ok (.aload_n 3, 1) := by decide +kernel
theorem dX0_numberOfLine_96 : decode cX0_numberOfLine 96 = .ok (.getfield 109, 3) := by decide +kernel
theorem dX0_numberOfLine_99 : decode cX0_numberOfLine 99 = .ok (.ireturn, 1) := by decide +kernel
theorem dX0_numberOfLine_100 : decode cX0_numberOfLine 100 = .ok (.aload_n 0, 1) := by decide +kernel
theorem dX0_numberOfLine_101 : decode cX0_numberOfLine 101 = .ok (.aload_n 3, 1) := by decide +kernel
theorem dX0_numberOfLine_102 : decode cX0_numberOfLine 102 = .ok (.invokevirtual 252, 3) := by decide +kernel
theorem dX0_numberOfLine_105 : decode cX0_numberOfLine 105 = .ok (.ireturn, 1) := by decide +kernel
theorem dX0_numberOfLine_106 : decode cX0_numberOfLine 106 = .ok (.aload_n 3, 1) := by decide +kernel
theorem dX0_numberOfLine_107 : decode cX0_numberOfLine 107 = .ok (.getfield 255, 3) := by decide +kernel
theorem dX0_numberOfLine_110 : decode cX0_numberOfLine 110 = .ok (.ireturn, 1) := by decide +kernel
theorem dX0_numberOfLine_111 : decode cX0_numberOfLine 111 = .ok (.bipush (-2), 2) := by decide +kernel
theorem dX0_numberOfLine_113 : decode cX0_numberOfLine 113 = .ok (.ireturn, 1) := by decide +kernel
theorem dX0_partnerOf_0 : decode cX0_partnerOf 0 = .ok (.aload_n 0, 1) := by decide +kernel
theorem dX0_partnerOf_1 : decode cX0_partnerOf 1 = .ok (.aload_n 1, 1) := by decide +kernel
theorem dX0_partnerOf_2 : decode cX0_partnerOf 2 = .ok (.getfield 119, 3) := by decide +kernel
theorem dX0_partnerOf_5 : decode cX0_partnerOf 5 = .ok (.invokevirtual 90, 3) := by decide +kernel
theorem dX0_partnerOf_8 : decode cX0_partnerOf 8 = .ok (.astore_n 2, 1) := by decide +kernel
theorem dX0_partnerOf_9 : decode cX0_partnerOf 9 = .ok (.aload_n 1, 1) := by decide +kernel
theorem dX0_partnerOf_10 : decode cX0_partnerOf 10 = .ok (.invokevirtual 258, 3) := by decide +kernel
theorem dX0_partnerOf_13 : decode cX0_partnerOf 13 = .ok (.ifCond .eq 8, 3) := by decide +kernel
theorem dX0_partnerOf_16 : decode cX0_partnerOf 16 = .ok (.aload_n 2, 1) := by decide +kernel
theorem dX0_partnerOf_17 : decode cX0_partnerOf 17 = .ok (.getfield 129, 3) := by decide +kernel
theorem dX0_partnerOf_20 : decode cX0_partnerOf 20 = .ok (.ireturn, 1) := by decide +kernel
theorem dX0_partnerOf_21 : decode cX0_partnerOf 21 = .ok (.aload_n 1, 1) := by decide +kernel
theorem dX0_partnerOf_22 : decode cX0_partnerOf 22 = .ok (.invokevirtual 115, 3) := by decide +kernel
theorem dX0_partnerOf_25 : decode cX0_partnerOf 25 = .ok (.ifCond .eq 10, 3) := by decide +kernel
theorem dX0_partnerOf_28 : decode cX0_partnerOf 28 = .ok (.aload_n 2, 1) := by decide +kernel
theorem dX0_partnerOf_29 : decode cX0_partnerOf 29 = .ok (.getfield 151, 3) := by decide +kernel
theorem dX0_partnerOf_32 : decode cX0_partnerOf 32 = .ok (.goto 5, 3) := by decide +kernel
theorem dX0_partnerOf_35 : decode cX0_partnerOf 35 = .ok (.bipush (-6), 2) := by decide +kernel
theorem dX0_partnerOf_37 : decode cX0_partnerOf 37 = .ok (.ireturn, 1) := by decide +kernel
theorem dX0_placeOf_0 : decode cX0_placeOf 0 = .ok (.aload_n 1, 1) := by decide +kernel
theorem dX0_placeOf_1 : decode cX0_placeOf 1 = .ok (.invokevirtual 229, 3) := by decide +kernel
theorem dX0_placeOf_4 : decode cX0_placeOf 4 = .ok (.ifCond .ne 6, 3) := by decide +kernel
theorem dX0_placeOf_7 : decode cX0_placeOf 7 = .ok (.bipush (-6), 2) := by decide +kernel
theorem dX0_placeOf_9 : decode cX0_placeOf 9 = .ok (.ireturn, 1) := by decide +kernel
theorem dX0_placeOf_10 : decode cX0_placeOf 10 = .ok (.iconst 0, 1) := by decide +kernel
theorem dX0_placeOf_11 : decode cX0_placeOf 11 = .ok (.istore_n 2, 1) := by decide +kernel
theorem dX0_placeOf_12 : decode cX0_placeOf 12 = .ok (.iconst 0, 1) := by decide +kernel
theorem dX0_placeOf_13 : decode cX0_placeOf 13 = .ok (.istore_n 3, 1) := by decide +kernel
theorem dX0_placeOf_14 : decode cX0_placeOf 14 = .ok (.iload_n 3, 1) := by decide +kernel
theorem dX0_placeOf_15 : decode cX0_placeOf 15 = .ok (.bipush 16, 2) := by decide +kernel
theorem dX0_placeOf_17 : decode cX0_placeOf 17 = .ok (.if_icmp .ge 38, 3) := by decide +kernel
theorem dX0_placeOf_20 : decode cX0_placeOf 20 = .ok (.aload_n 0, 1) := by decide +kernel
theorem dX0_placeOf_21 : decode cX0_placeOf 21 = .ok (.iload_n 3, 1) := by decide +kernel
theorem dX0_placeOf_22 : decode cX0_placeOf 22 = .ok (.invokevirtual 83, 3) := by decide +kernel
theorem dX0_placeOf_25 : decode cX0_placeOf 25 = .ok (.invokevirtual 229, 3) := by decide +kernel
theorem dX0_placeOf_28 : decode cX0_placeOf 28 = .ok (.ifCond .eq 21, 3) := by decide +kernel
theorem dX0_placeOf_31 : decode cX0_placeOf 31 = .ok (.aload_n 0, 1) := by decide +kernel
theorem dX0_placeOf_32 : decode cX0_placeOf 32 = .ok (.iload_n 3, 1) := by decide +kernel
theorem dX0_placeOf_33 : decode cX0_placeOf 33 = .ok (.invokevirtual 83, 3) := by decide +kernel
theorem dX0_placeOf_36 : decode cX0_placeOf 36 = .ok (.getfield 112, 3) := by decide +kernel
theorem dX0_placeOf_39 : decode cX0_placeOf 39 = .ok (.aload_n 1, 1) := by decide +kernel
theorem dX0_placeOf_40 : decode cX0_placeOf 40 = .ok (.getfield 112, 3) := by decide +kernel
theorem dX0_placeOf_43 : decode cX0_placeOf 43 = .ok (.if_icmp .ge 6, 3) := by decide +kernel
theorem dX0_placeOf_46 : decode cX0_placeOf 46 = .ok (.iinc 2 1, 3) := by decide +kernel
theorem dX0_placeOf_49 : decode cX0_placeOf 49 = .ok (.iinc 3 1, 3) := by decide +kernel
theorem dX0_placeOf_52 : decode cX0_placeOf 52 = .ok (.goto (-38), 3) := by decide +kernel
theorem dX0_placeOf_55 : decode cX0_placeOf 55 = .ok (.iload_n 2, 1) := by decide +kernel
theorem dX0_placeOf_56 : decode cX0_placeOf 56 = .ok (.ireturn, 1) := by decide +kernel
theorem dX0_traceFrom_0 : decode cX0_traceFrom 0 = .ok (.aload_n 0, 1) := by decide +kernel
theorem dX0_traceFrom_1 : decode cX0_traceFrom 1 = .ok (.iload_n 1, 1) := by decide +kernel
theorem dX0_traceFrom_2 : decode cX0_traceFrom 2 = .ok (.invokevirtual 83, 3) := by decide +kernel
theorem dX0_traceFrom_5 : decode cX0_traceFrom 5 = .ok (.astore_n 3, 1) := by decide +kernel
theorem dX0_traceFrom_6 : decode cX0_traceFrom 6 = .ok (.aload_n 3, 1) := by decide +kernel
theorem dX0_traceFrom_7 : decode cX0_traceFrom 7 = .ok (.invokevirtual 115, 3) := by decide +kernel
theorem dX0_traceFrom_10 : decode cX0_traceFrom 10 = .ok (.ifCond .ne 6, 3) := by decide +kernel
theorem dX0_traceFrom_13 : decode cX0_traceFrom 13 = .ok (.bipush (-6), 2) := by decide +kernel
theorem dX0_traceFrom_15 : decode cX0_traceFrom 15 = .ok (.ireturn, 1) := by decide +kernel
theorem dX0_traceFrom_16 : decode cX0_traceFrom 16 = .ok (.iload_n 2, 1) := by decide +kernel
theorem dX0_traceFrom_17 : decode cX0_traceFrom 17 = .ok (.iconst 1, 1) := by decide +kernel
theorem dX0_traceFrom_18 : decode cX0_traceFrom 18 = .ok (.if_icmp .ne 8, 3) := by decide +kernel
theorem dX0_traceFrom_21 : decode cX0_traceFrom 21 = .ok (.aload_n 3, 1) := by decide +kernel
theorem dX0_traceFrom_22 : decode cX0_traceFrom 22 = .ok (.getfield 119, 3) := by decide +kernel
theorem dX0_traceFrom_25 : decode cX0_traceFrom 25 = .ok (.ireturn, 1) := by decide +kernel
theorem dX0_traceFrom_26 : decode cX0_traceFrom 26 = .ok (.aload_n 0, 1) := by decide +kernel
theorem dX0_traceFrom_27 : decode cX0_traceFrom 27 = .ok (.aload_n 3, 1) := by decide +kernel
theorem dX0_traceFrom_28 : decode cX0_traceFrom 28 = .ok (.getfield 119, 3) := by decide +kernel
theorem dX0_traceFrom_31 : decode cX0_traceFrom 31 = .ok (.invokevirtual 90, 3) := by decide +kernel
theorem dX0_traceFrom_34 : decode cX0_traceFrom 34 = .ok (.astore 4, 2) := by decide +kernel
theorem dX0_traceFrom_36 : decode cX0_traceFrom 36 = .ok (.iload_n 2, 1) := by decide +kernel
theorem dX0_traceFrom_37 : decode cX0_traceFrom 37 = .ok (.ifCond .ne 11, 3) := by decide +kernel
theorem dX0_traceFrom_40 : decode cX0_traceFrom 40 = .ok (.aload 4, 2) := by decide +kernel
theorem dX0_traceFrom_42 : decode cX0_traceFrom 42 = .ok (.getfield 204, 3) := by decide +kernel
theorem dX0_traceFrom_45 : decode cX0_traceFrom 45 = .ok (.goto 8, 3) := by decide +kernel
theorem dX0_traceFrom_48 : decode cX0_traceFrom 48 = .ok (.aload 4, 2) := by decide +kernel
theorem dX0_traceFrom_50 : decode cX0_traceFrom 50 = .ok (.getfield 151, 3) := by decide +kernel
theorem dX0_traceFrom_53 : decode cX0_traceFrom 53 = .ok (.ireturn, 1) := by decide +kernel
theorem dX0_numberFor_0 : decode cX0_numberFor 0 = .ok (.iload_n 1, 1) := by decide +kernel
theorem dX0_numberFor_1 : decode cX0_numberFor 1 = .ok (.tableswitch 141 0 13 #[71, 76, 81, 86, 91, 96, 101, 106, 111, 116, 121, 126, 131, 136], 71) := by decide +kernel
theorem dX0_numberFor_72 : decode cX0_numberFor 72 = .ok (.aload_n 0, 1) := by decide +kernel
theorem dX0_numberFor_73 : decode cX0_numberFor 73 = .ok (.getfield 52, 3) := by decide +kernel
theorem dX0_numberFor_76 : decode cX0_numberFor 76 = .ok (.ireturn, 1) := by decide +kernel
theorem dX0_numberFor_77 : decode cX0_numberFor 77 = .ok (.aload_n 0, 1) := by decide +kernel
theorem dX0_numberFor_78 : decode cX0_numberFor 78 = .ok (.getfield 45, 3) := by decide +kernel
theorem dX0_numberFor_81 : decode cX0_numberFor 81 = .ok (.ireturn, 1) := by decide +kernel
theorem dX0_numberFor_82 : decode cX0_numberFor 82 = .ok (.aload_n 0, 1) := by decide +kernel
theorem dX0_numberFor_83 : decode cX0_numberFor 83 = .ok (.getfield 49, 3) := by decide +kernel
theorem dX0_numberFor_86 : decode cX0_numberFor 86 = .ok (.ireturn, 1) := by decide +kernel
theorem dX0_numberFor_87 : decode cX0_numberFor 87 = .ok (.aload_n 0, 1) := by decide +kernel
theorem dX0_numberFor_88 : decode cX0_numberFor 88 = .ok (.invokevirtual 261, 3) := by decide +kernel
theorem dX0_numberFor_91 : decode cX0_numberFor 91 = .ok (.ireturn, 1) := by decide +kernel
theorem dX0_numberFor_92 : decode cX0_numberFor 92 = .ok (.aload_n 0, 1) := by decide +kernel
theorem dX0_numberFor_93 : decode cX0_numberFor 93 = .ok (.invokevirtual 264, 3) := by decide +kernel
theorem dX0_numberFor_96 : decode cX0_numberFor 96 = .ok (.ireturn, 1) := by decide +kernel
theorem dX0_numberFor_97 : decode cX0_numberFor 97 = .ok (.aload_n 0, 1) := by decide +kernel
theorem dX0_numberFor_98 : decode cX0_numberFor 98 = .ok (.invokevirtual 267, 3) := by decide +kernel
theorem dX0_numberFor_101 : decode cX0_numberFor 101 = .ok (.ireturn, 1) := by decide +kernel
theorem dX0_numberFor_102 : decode cX0_numberFor 102 = .ok (.aload_n 0, 1) := by decide +kernel
theorem dX0_numberFor_103 : decode cX0_numberFor 103 = .ok (.getfield 58, 3) := by decide +kernel
theorem dX0_numberFor_106 : decode cX0_numberFor 106 = .ok (.ireturn, 1) := by decide +kernel
theorem dX0_numberFor_107 : decode cX0_numberFor 107 = .ok (.aload_n 0, 1) := by decide +kernel
theorem dX0_numberFor_108 : decode cX0_numberFor 108 = .ok (.getfield 61, 3) := by decide +kernel
theorem dX0_numberFor_111 : decode cX0_numberFor 111 = .ok (.ireturn, 1) := by decide +kernel
theorem dX0_numberFor_112 : decode cX0_numberFor 112 = .ok (.aload_n 0, 1) := by decide +kernel
theorem dX0_numberFor_113 : decode cX0_numberFor 113 = .ok (.getfield 64, 3) := by decide +kernel
theorem dX0_numberFor_116 : decode cX0_numberFor 116 = .ok (.ireturn, 1) := by decide +kernel
theorem dX0_numberFor_117 : decode cX0_numberFor 117 = .ok (.aload_n 0, 1) := by decide +kernel
theorem dX0_numberFor_118 : decode cX0_numberFor 118 = .ok (.getfield 67, 3) := by decide +kernel
theorem dX0_numberFor_121 : decode cX0_numberFor 121 = .ok (.ireturn, 1) := by decide +kernel
theorem dX0_numberFor_122 : decode cX0_numberFor 122 = .ok (.aload_n 0, 1) := by decide +kernel
theorem dX0_numberFor_123 : decode cX0_numberFor 123 = .ok (.getfield 70, 3) := by decide +kernel
theorem dX0_numberFor_126 : decode cX0_numberFor 126 = .ok (.ireturn, 1) := by decide +kernel
theorem dX0_numberFor_127 : decode cX0_numberFor 127 = .ok (.aload_n 0, 1) := by decide +kernel
theorem dX0_numberFor_128 : decode cX0_numberFor 128 = .ok (.getfield 73, 3) := by decide +kernel
theorem dX0_numberFor_131 : decode cX0_numberFor 131 = .ok (.ireturn, 1) := by decide +kernel
theorem dX0_numberFor_132 : decode cX0_numberFor 132 = .ok (.aload_n 0, 1) := by decide +kernel
theorem dX0_numberFor_133 : decode cX0_numberFor 133 = .ok (.getfield 76, 3) := by decide +kernel
theorem dX0_numberFor_136 : decode cX0_numberFor 136 = .ok (.ireturn, 1) := by decide +kernel
theorem dX0_numberFor_137 : decode cX0_numberFor 137 = .ok (.aload_n 0, 1) := by decide +kernel
theorem dX0_numberFor_138 : decode cX0_numberFor 138 = .ok (.invokevirtual 270, 3) := by decide +kernel
theorem dX0_numberFor_141 : decode cX0_numberFor 141 = .ok (.ireturn, 1) := by decide +kernel
theorem dX0_numberFor_142 : decode cX0_numberFor 142 = .ok (.aload_n 0, 1) := by decide +kernel
theorem dX0_numberFor_143 : decode cX0_numberFor 143 = .ok (.iload_n 1, 1) := by decide +kernel
theorem dX0_numberFor_144 : decode cX0_numberFor 144 = .ok (.bipush 15, 2) := by decide +kernel
theorem dX0_numberFor_146 : decode cX0_numberFor 146 = .ok (.isub, 1) := by decide +kernel
theorem dX0_numberFor_147 : decode cX0_numberFor 147 = .ok (.invokevirtual 79, 3) := by decide +kernel
theorem dX0_numberFor_150 : decode cX0_numberFor 150 = .ok (.ireturn, 1) := by decide +kernel
theorem dX0_freeFinders_0 : decode cX0_freeFinders 0 = .ok (.iconst 0, 1) := by decide +kernel
theorem dX0_freeFinders_1 : decode cX0_freeFinders 1 = .ok (.istore_n 1, 1) := by decide +kernel
theorem dX0_freeFinders_2 : decode cX0_freeFinders 2 = .ok (.iconst 0, 1) := by decide +kernel
theorem dX0_freeFinders_3 : decode cX0_freeFinders 3 = .ok (.istore_n 2, 1) := by decide +kernel
theorem dX0_freeFinders_4 : decode cX0_freeFinders 4 = .ok (.iload_n 2, 1) := by decide +kernel
theorem dX0_freeFinders_5 : decode cX0_freeFinders 5 = .ok (.aload_n 0, 1) := by decide +kernel
theorem dX0_freeFinders_6 : decode cX0_freeFinders 6 = .ok (.getfield 45, 3) := by decide +kernel
theorem dX0_freeFinders_9 : decode cX0_freeFinders 9 = .ok (.if_icmp .ge 23, 3) := by decide +kernel
theorem dX0_freeFinders_12 : decode cX0_freeFinders 12 = .ok (.aload_n 0, 1) := by decide +kernel
theorem dX0_freeFinders_13 : decode cX0_freeFinders 13 = .ok (.iload_n 2, 1) := by decide +kernel
theorem dX0_freeFinders_14 : decode cX0_freeFinders 14 = .ok (.invokevirtual 90, 3) := by decide +kernel
theorem dX0_freeFinders_17 : decode cX0_freeFinders 17 = .ok (.getfield 154, 3) := by decide +kernel
theorem dX0_freeFinders_20 : decode cX0_freeFinders 20 = .ok (.ifCond .ne 6, 3) := by decide +kernel
theorem dX0_freeFinders_23 : decode cX0_freeFinders 23 = .ok (.iinc 1 1, 3) := by decide +kernel
theorem dX0_freeFinders_26 : decode cX0_freeFinders 26 = .ok (.iinc 2 1, 3) := by decide +kernel
theorem dX0_freeFinders_29 : decode cX0_freeFinders 29 = .ok (.goto (-25), 3) := by decide +kernel
theorem dX0_freeFinders_32 : decode cX0_freeFinders 32 = .ok (.iload_n 1, 1) := by decide +kernel
theorem dX0_freeFinders_33 : decode cX0_freeFinders 33 = .ok (.ireturn, 1) := by decide +kernel
theorem dX0_freeConnectors_0 : decode cX0_freeConnectors 0 = .ok (.iconst 4, 1) := by decide +kernel
theorem dX0_freeConnectors_1 : decode cX0_freeConnectors 1 = .ok (.aload_n 0, 1) := by decide +kernel
theorem dX0_freeConnectors_2 : decode cX0_freeConnectors 2 = .ok (.getfield 49, 3) := by decide +kernel
theorem dX0_freeConnectors_5 : decode cX0_freeConnectors 5 = .ok (.imul, 1) := by decide +kernel
theorem dX0_freeConnectors_6 : decode cX0_freeConnectors 6 = .ok (.istore_n 1, 1) := by decide +kernel
theorem dX0_freeConnectors_7 : decode cX0_freeConnectors 7 = .ok (.iconst 0, 1) := by decide +kernel
theorem dX0_freeConnectors_8 : decode cX0_freeConnectors 8 = .ok (.istore_n 2, 1) := by decide +kernel
theorem dX0_freeConnectors_9 : decode cX0_freeConnectors 9 = .ok (.iload_n 2, 1) := by decide +kernel
theorem dX0_freeConnectors_10 : decode cX0_freeConnectors 10 = .ok (.aload_n 0, 1) := by decide +kernel
theorem dX0_freeConnectors_11 : decode cX0_freeConnectors 11 = .ok (.getfield 45, 3) := by decide +kernel
theorem dX0_freeConnectors_14 : decode cX0_freeConnectors 14 = .ok (.if_icmp .ge 23, 3) := by decide +kernel
theorem dX0_freeConnectors_17 : decode cX0_freeConnectors 17 = .ok (.aload_n 0, 1) := by decide +kernel
theorem dX0_freeConnectors_18 : decode cX0_freeConnectors 18 = .ok (.iload_n 2, 1) := by decide +kernel
theorem dX0_freeConnectors_19 : decode cX0_freeConnectors 19 = .ok (.invokevirtual 90, 3) := by decide +kernel
theorem dX0_freeConnectors_22 : decode cX0_freeConnectors 22 = .ok (.invokevirtual 232, 3) := by decide +kernel
theorem dX0_freeConnectors_25 : decode cX0_freeConnectors 25 = .ok (.ifCond .eq 6, 3) := by decide +kernel
theorem dX0_freeConnectors_28 : decode cX0_freeConnectors 28 = .ok (.iinc 1 (-1), 3) := by decide +kernel
theorem dX0_freeConnectors_31 : decode cX0_freeConnectors 31 = .ok (.iinc 2 1, 3) := by decide +kernel
theorem dX0_freeConnectors_34 : decode cX0_freeConnectors 34 = .ok (.goto (-25), 3) := by decide +kernel
theorem dX0_freeConnectors_37 : decode cX0_freeConnectors 37 = .ok (.iload_n 1, 1) := by decide +kernel
theorem dX0_freeConnectors_38 : decode cX0_freeConnectors 38 = .ok (.ireturn, 1) := by decide +kernel
theorem dX0_sumOfMeters_0 : decode cX0_sumOfMeters 0 = .ok (.iconst 0, 1) := by decide +kernel
theorem dX0_sumOfMeters_1 : decode cX0_sumOfMeters 1 = .ok (.istore_n 1, 1) := by decide +kernel
theorem dX0_sumOfMeters_2 : decode cX0_sumOfMeters 2 = .ok (.iconst 0, 1) := by decide +kernel
theorem dX0_sumOfMeters_3 : decode cX0_sumOfMeters 3 = .ok (.istore_n 2, 1) := by decide +kernel
theorem dX0_sumOfMeters_4 : decode cX0_sumOfMeters 4 = .ok (.iload_n 2, 1) := by decide +kernel
theorem dX0_sumOfMeters_5 : decode cX0_sumOfMeters 5 = .ok (.bipush 16, 2) := by decide +kernel
theorem dX0_sumOfMeters_7 : decode cX0_sumOfMeters 7 = .ok (.if_icmp .ge 20, 3) := by decide +kernel
theorem dX0_sumOfMeters_10 : decode cX0_sumOfMeters 10 = .ok (.iload_n 1, 1) := by decide +kernel
theorem dX0_sumOfMeters_11 : decode cX0_sumOfMeters 11 = .ok (.aload_n 0, 1) := by decide +kernel
theorem dX0_sumOfMeters_12 : decode cX0_sumOfMeters 12 = .ok (.iload_n 2, 1) := by decide +kernel
theorem dX0_sumOfMeters_13 : decode cX0_sumOfMeters 13 = .ok (.invokevirtual 83, 3) := by decide +kernel
theorem dX0_sumOfMeters_16 : decode cX0_sumOfMeters 16 = .ok (.getfield 214, 3) := by decide +kernel
theorem dX0_sumOfMeters_19 : decode cX0_sumOfMeters 19 = .ok (.iadd, 1) := by decide +kernel
theorem dX0_sumOfMeters_20 : decode cX0_sumOfMeters 20 = .ok (.istore_n 1, 1) := by decide +kernel
theorem dX0_sumOfMeters_21 : decode cX0_sumOfMeters 21 = .ok (.iinc 2 1, 3) := by decide +kernel
theorem dX0_sumOfMeters_24 : decode cX0_sumOfMeters 24 = .ok (.goto (-20), 3) := by decide +kernel
theorem dX0_sumOfMeters_27 : decode cX0_sumOfMeters 27 = .ok (.iload_n 1, 1) := by decide +kernel
theorem dX0_sumOfMeters_28 : decode cX0_sumOfMeters 28 = .ok (.ireturn, 1) := by decide +kernel
theorem dX0_liftedLines_0 : decode cX0_liftedLines 0 = .ok (.iconst 0, 1) := by decide +kernel
theorem dX0_liftedLines_1 : decode cX0_liftedLines 1 = .ok (.istore_n 1, 1) := by decide +kernel
theorem dX0_liftedLines_2 : decode cX0_liftedLines 2 = .ok (.iconst 0, 1) := by decide +kernel
theorem dX0_liftedLines_3 : decode cX0_liftedLines 3 = .ok (.istore_n 2, 1) := by decide +kernel
theorem dX0_liftedLines_4 : decode cX0_liftedLines 4 = .ok (.iload_n 2, 1) := by decide +kernel
theorem dX0_liftedLines_5 : decode cX0_liftedLines 5 = .ok (.bipush 16, 2) := by decide +kernel
theorem dX0_liftedLines_7 : decode cX0_liftedLines 7 = .ok (.if_icmp .ge 23, 3) := by decide +kernel
theorem dX0_liftedLines_10 : decode cX0_liftedLines 10 = .ok (.aload_n 0, 1) := by decide +kernel
theorem dX0_liftedLines_11 : decode cX0_liftedLines 11 = .ok (.iload_n 2, 1) := by decide +kernel
theorem dX0_liftedLines_12 : decode cX0_liftedLines 12 = .ok (.invokevirtual 83, 3) := by decide +kernel
theorem dX0_liftedLines_15 : decode cX0_liftedLines 15 = .ok (.getfield 102, 3) := by decide +kernel
theorem dX0_liftedLines_18 : decode cX0_liftedLines 18 = .ok (.ifCond .eq 6, 3) := by decide +kernel
theorem dX0_liftedLines_21 : decode cX0_liftedLines 21 = .ok (.iinc 1 1, 3) := by decide +kernel
theorem dX0_liftedLines_24 : decode cX0_liftedLines 24 = .ok (.iinc 2 1, 3) := by decide +kernel
theorem dX0_liftedLines_27 : decode cX0_liftedLines 27 = .ok (.goto (-23), 3) := by decide +kernel
theorem dX0_liftedLines_30 : decode cX0_liftedLines 30 = .ok (.iload_n 1, 1) := by decide +kernel
theorem dX0_liftedLines_31 : decode cX0_liftedLines 31 = .ok (.ireturn, 1) := by decide +kernel
theorem dX1_init_0 : decode cX1_init 0 = .ok (.aload_n 0, 1) := by decide +kernel
theorem dX1_init_1 : decode cX1_init 1 = .ok (.invokespecial 3, 3) := by decide +kernel
theorem dX1_init_4 : decode cX1_init 4 = .ok (.aload_n 0, 1) := by decide +kernel
theorem dX1_init_5 : decode cX1_init 5 = .ok (.iconst 0, 1) := by decide +kernel
theorem dX1_init_6 : decode cX1_init 6 = .ok (.putfield 9, 3) := by decide +kernel
theorem dX1_init_9 : decode cX1_init 9 = .ok (.aload_n 0, 1) := by decide +kernel
theorem dX1_init_10 : decode cX1_init 10 = .ok (.iconst 0, 1) := by decide +kernel
theorem dX1_init_11 : decode cX1_init 11 = .ok (.putfield 15, 3) := by decide +kernel
theorem dX1_init_14 : decode cX1_init 14 = .ok (.aload_n 0, 1) := by decide +kernel
theorem dX1_init_15 : decode cX1_init 15 = .ok (.bipush (-6), 2) := by decide +kernel
theorem dX1_init_17 : decode cX1_init 17 = .ok (.putfield 18, 3) := by decide +kernel
theorem dX1_init_20 : decode cX1_init 20 = .ok (.aload_n 0, 1) := by decide +kernel
theorem dX1_init_21 : decode cX1_init 21 = .ok (.iconst 0, 1) := by decide +kernel
theorem dX1_init_22 : decode cX1_init 22 = .ok (.putfield 21, 3) := by decide +kernel
theorem dX1_init_25 : decode cX1_init 25 = .ok (.aload_n 0, 1) := by decide +kernel
theorem dX1_init_26 : decode cX1_init 26 = .ok (.bipush (-6), 2) := by decide +kernel
theorem dX1_init_28 : decode cX1_init 28 = .ok (.putfield 24, 3) := by decide +kernel
theorem dX1_init_31 : decode cX1_init 31 = .ok (.aload_n 0, 1) := by decide +kernel
theorem dX1_init_32 : decode cX1_init 32 = .ok (.iconst 0, 1) := by decide +kernel
theorem dX1_init_33 : decode cX1_init 33 = .ok (.putfield 27, 3) := by decide +kernel
theorem dX1_init_36 : decode cX1_init 36 = .ok (.aload_n 0, 1) := by decide +kernel
theorem dX1_init_37 : decode cX1_init 37 = .ok (.iconst 0, 1) := by decide +kernel
theorem dX1_init_38 : decode cX1_init 38 = .ok (.putfield 30, 3) := by decide +kernel
theorem dX1_init_41 : decode cX1_init 41 = .ok (.aload_n 0, 1) := by decide +kernel
theorem dX1_init_42 : decode cX1_init 42 = .ok (.iconst 0, 1) := by decide +kernel
theorem dX1_init_43 : decode cX1_init 43 = .ok (.putfield 33, 3) := by decide +kernel
theorem dX1_init_46 : decode cX1_init 46 = .ok (.aload_n 0, 1) := by decide +kernel
theorem dX1_init_47 : decode cX1_init 47 = .ok (.iconst 0, 1) := by decide +kernel
theorem dX1_init_48 : decode cX1_init 48 = .ok (.putfield 36, 3) := by decide +kernel
theorem dX1_init_51 : decode cX1_init 51 = .ok (.aload_n 0, 1) := by decide +kernel
theorem dX1_init_52 : decode cX1_init 52 = .ok (.bipush (-6), 2) := by decide +kernel
theorem dX1_init_54 : decode cX1_init 54 = .ok (.putfield 39, 3) := by decide +kernel
theorem dX1_init_57 : decode cX1_init 57 = .ok (.return_, 1) := by decide +kernel
theorem dX1_renew_0 : decode cX1_renew 0 = .ok (.aload_n 0, 1) := by decide +kernel
theorem dX1_renew_1 : decode cX1_renew 1 = .ok (.invokevirtual 42, 3) := by decide +kernel
theorem dX1_renew_4 : decode cX1_renew 4 = .ok (.aload_n 0, 1) := by decide +kernel
theorem dX1_renew_5 : decode cX1_renew 5 = .ok (.iconst 0, 1) := by decide +kernel
theorem dX1_renew_6 : decode cX1_renew 6 = .ok (.putfield 15, 3) := by decide +kernel
theorem dX1_renew_9 : decode cX1_renew 9 = .ok (.return_, 1) := by decide +kernel
theorem dX1_copyFrom_0 : decode cX1_copyFrom 0 = .ok (.aload_n 0, 1) := by decide +kernel
theorem dX1_copyFrom_1 : decode cX1_copyFrom 1 = .ok (.aload_n 1, 1) := by decide +kernel
theorem dX1_copyFrom_2 : decode cX1_copyFrom 2 = .ok (.getfield 9, 3) := by decide +kernel
theorem dX1_copyFrom_5 : decode cX1_copyFrom 5 = .ok (.putfield 9, 3) := by decide +kernel
theorem dX1_copyFrom_8 : decode cX1_copyFrom 8 = .ok (.aload_n 0, 1) := by decide +kernel
theorem dX1_copyFrom_9 : decode cX1_copyFrom 9 = .ok (.aload_n 1, 1) := by decide +kernel
theorem dX1_copyFrom_10 : decode cX1_copyFrom 10 = .ok (.getfield 15, 3) := by decide +kernel
theorem dX1_copyFrom_13 : decode cX1_copyFrom 13 = .ok (.putfield 15, 3) := by decide +kernel
theorem dX1_copyFrom_16 : decode cX1_copyFrom 16 = .ok (.aload_n 0, 1) := by decide +kernel
theorem dX1_copyFrom_17 : decode cX1_copyFrom 17 = .ok (.aload_n 1, 1) := by decide +kernel
theorem dX1_copyFrom_18 : decode cX1_copyFrom 18 = .ok (.getfield 18, 3) := by decide +kernel
theorem dX1_copyFrom_21 : decode cX1_copyFrom 21 = .ok (.putfield 18, 3) := by decide +kernel
theorem dX1_copyFrom_24 : decode cX1_copyFrom 24 = .ok (.aload_n 0, 1) := by decide +kernel
theorem dX1_copyFrom_25 : decode cX1_copyFrom 25 = .ok (.aload_n 1, 1) := by decide +kernel
theorem dX1_copyFrom_26 : decode cX1_copyFrom 26 = .ok (.getfield 21, 3) := by decide +kernel
theorem dX1_copyFrom_29 : decode cX1_copyFrom 29 = .ok (.putfield 21, 3) := by decide +kernel
theorem dX1_copyFrom_32 : decode cX1_copyFrom 32 = .ok (.aload_n 0, 1) := by decide +kernel
theorem dX1_copyFrom_33 : decode cX1_copyFrom 33 = .ok (.aload_n 1, 1) := by decide +kernel
theorem dX1_copyFrom_34 : decode cX1_copyFrom 34 = .ok (.getfield 24, 3) := by decide +kernel
theorem dX1_copyFrom_37 : decode cX1_copyFrom 37 = .ok (.putfield 24, 3) := by decide +kernel
theorem dX1_copyFrom_40 : decode cX1_copyFrom 40 = .ok (.aload_n 0, 1) := by decide +kernel
theorem dX1_copyFrom_41 : decode cX1_copyFrom 41 = .ok (.aload_n 1, 1) := by decide +kernel
theorem dX1_copyFrom_42 : decode cX1_copyFrom 42 = .ok (.getfield 27, 3) := by decide +kernel
theorem dX1_copyFrom_45 : decode cX1_copyFrom 45 = .ok (.putfield 27, 3) := by decide +kernel
theorem dX1_copyFrom_48 : decode cX1_copyFrom 48 = .ok (.aload_n 0, 1) := by decide +kernel
theorem dX1_copyFrom_49 : decode cX1_copyFrom 49 = .ok (.aload_n 1, 1) := by decide +kernel
theorem dX1_copyFrom_50 : decode cX1_copyFrom 50 = .ok (.getfield 30, 3) := by decide +kernel
theorem dX1_copyFrom_53 : decode cX1_copyFrom 53 = .ok (.putfield 30, 3) := by decide +kernel
theorem dX1_copyFrom_56 : decode cX1_copyFrom 56 = .ok (.aload_n 0, 1) := by decide +kernel
theorem dX1_copyFrom_57 : decode cX1_copyFrom 57 = .ok (.aload_n 1, 1) := by decide +kernel
theorem dX1_copyFrom_58 : decode cX1_copyFrom 58 = .ok (.getfield 33, 3) := by decide +kernel
theorem dX1_copyFrom_61 : decode cX1_copyFrom 61 = .ok (.putfield 33, 3) := by decide +kernel
theorem dX1_copyFrom_64 : decode cX1_copyFrom 64 = .ok (.aload_n 0, 1) := by decide +kernel
theorem dX1_copyFrom_65 : decode cX1_copyFrom 65 = .ok (.aload_n 1, 1) := by decide +kernel
theorem dX1_copyFrom_66 : decode cX1_copyFrom 66 = .ok (.getfield 36, 3) := by decide +kernel
theorem dX1_copyFrom_69 : decode cX1_copyFrom 69 = .ok (.putfield 36, 3) := by decide +kernel
theorem dX1_copyFrom_72 : decode cX1_copyFrom 72 = .ok (.aload_n 0, 1) := by decide +kernel
theorem dX1_copyFrom_73 : decode cX1_copyFrom 73 = .ok (.aload_n 1, 1) := by decide +kernel
theorem dX1_copyFrom_74 : decode cX1_copyFrom 74 = .ok (.getfield 39, 3) := by decide +kernel
theorem dX1_copyFrom_77 : decode cX1_copyFrom 77 = .ok (.putfield 39, 3) := by decide +kernel
theorem dX1_copyFrom_80 : decode cX1_copyFrom 80 = .ok (.return_, 1) := by decide +kernel
theorem dX1_become_0 : decode cX1_become 0 = .ok (.aload_n 0, 1) := by decide +kernel
theorem dX1_become_1 : decode cX1_become 1 = .ok (.iload_n 1, 1) := by decide +kernel
theorem dX1_become_2 : decode cX1_become 2 = .ok (.putfield 9, 3) := by decide +kernel
theorem dX1_become_5 : decode cX1_become 5 = .ok (.aload_n 0, 1) := by decide +kernel
theorem dX1_become_6 : decode cX1_become 6 = .ok (.iconst 0, 1) := by decide +kernel
theorem dX1_become_7 : decode cX1_become 7 = .ok (.putfield 33, 3) := by decide +kernel
theorem dX1_become_10 : decode cX1_become 10 = .ok (.aload_n 0, 1) := by decide +kernel
theorem dX1_become_11 : decode cX1_become 11 = .ok (.iconst 0, 1) := by decide +kernel
theorem dX1_become_12 : decode cX1_become 12 = .ok (.putfield 36, 3) := by decide +kernel
theorem dX1_become_15 : decode cX1_become 15 = .ok (.return_, 1) := by decide +kernel
theorem dX1_becomeFree_0 : decode cX1_becomeFree 0 = .ok (.aload_n 0, 1) := by decide +kernel
theorem dX1_becomeFree_1 : decode cX1_becomeFree 1 = .ok (.iconst 0, 1) := by decide +kernel
theorem dX1_becomeFree_2 : decode cX1_becomeFree 2 = .ok (.invokevirtual 45, 3) := by decide +kernel
theorem dX1_becomeFree_5 : decode cX1_becomeFree 5 = .ok (.aload_n 0, 1) := by decide +kernel
theorem dX1_becomeFree_6 : decode cX1_becomeFree 6 = .ok (.bipush (-6), 2) := by decide +kernel
theorem dX1_becomeFree_8 : decode cX1_becomeFree 8 = .ok (.putfield 18, 3) := by decide +kernel
theorem dX1_becomeFree_11 : decode cX1_becomeFree 11 = .ok (.aload_n 0, 1) := by decide +kernel
theorem dX1_becomeFree_12 : decode cX1_becomeFree 12 = .ok (.iconst 0, 1) := by decide +kernel
theorem dX1_becomeFree_13 : decode cX1_becomeFree 13 = .ok (.putfield 21, 3) := by decide +kernel
theorem dX1_becomeFree_16 : decode cX1_becomeFree 16 = .ok (.aload_n 0, 1) := by decide +kernel
theorem dX1_becomeFree_17 : decode cX1_becomeFree 17 = .ok (.bipush (-6), 2) := by decide +kernel
theorem dX1_becomeFree_19 : decode cX1_becomeFree 19 = .ok (.putfield 24, 3) := by decide +kernel
theorem dX1_becomeFree_22 : decode cX1_becomeFree 22 = .ok (.aload_n 0, 1) := by decide +kernel
theorem dX1_becomeFree_23 : decode cX1_becomeFree 23 = .ok (.iconst 0, 1) := by decide +kernel
theorem dX1_becomeFree_24 : decode cX1_becomeFree 24 = .ok (.putfield 27, 3) := by decide +kernel
theorem dX1_becomeFree_27 : decode cX1_becomeFree 27 = .ok (.aload_n 0, 1) := by decide +kernel
theorem dX1_becomeFree_28 : decode cX1_becomeFree 28 = .ok (.iconst 0, 1) := by decide +kernel
theorem dX1_becomeFree_29 : decode cX1_becomeFree 29 = .ok (.putfield 30, 3) := by decide +kernel
theorem dX1_becomeFree_32 : decode cX1_becomeFree 32 = .ok (.aload_n 0, 1) := by decide +kernel
theorem dX1_becomeFree_33 : decode cX1_becomeFree 33 = .ok (.bipush (-6), 2) := by decide +kernel
theorem dX1_becomeFree_35 : decode cX1_becomeFree 35 = .ok (.putfield 39, 3) := by decide +kernel
theorem dX1_becomeFree_38 : decode cX1_becomeFree 38 = .ok (.return_, 1) := by decide +kernel
theorem dX1_holdsConnector_0 : decode cX1_holdsConnector 0 = .ok (.aload_n 0, 1) := by decide +kernel
theorem dX1_holdsConnector_1 : decode cX1_holdsConnector 1 = .ok (.getfield 9, 3) := by decide +kernel
theorem dX1_holdsConnector_4 : decode cX1_holdsConnector 4 = .ok (.iconst 5, 1) := by decide +kernel
theorem dX1_holdsConnector_5 : decode cX1_holdsConnector 5 = .ok (.if_icmp .eq 30, 3) := by decide +kernel
theorem dX1_holdsConnector_8 : decode cX1_holdsConnector 8 = .ok (.aload_n 0, 1) := by decide +kernel
theorem dX1_holdsConnector_9 : decode cX1_holdsConnector 9 = .ok (.getfield 9, 3) := by decide +kernel
theorem dX1_holdsConnector_12 : decode cX1_holdsConnector 12 = .ok (.bipush 6, 2) := by decide +kernel
theorem dX1_holdsConnector_14 : decode cX1_holdsConnector 14 = .ok (.if_icmp .eq 21, 3) := by decide +kernel
theorem dX1_holdsConnector_17 : decode cX1_holdsConnector 17 = .ok (.aload_n 0, 1) := by decide +kernel
theorem dX1_holdsConnector_18 : decode cX1_holdsConnector 18 = .ok (.getfield 9, 3) := by decide +kernel
theorem dX1_holdsConnector_21 : decode cX1_holdsConnector 21 = .ok (.bipush 7, 2) := by decide +kernel
theorem dX1_holdsConnector_23 : decode cX1_holdsConnector 23 = .ok (.if_icmp .eq 12, 3) := by decide +kernel
theorem dX1_holdsConnector_26 : decode cX1_holdsConnector 26 = .ok (.aload_n 0, 1) := by decide +kernel
theorem dX1_holdsConnector_27 : decode cX1_holdsConnector 27 = .ok (.getfield 9, 3) := by decide +kernel
theorem dX1_holdsConnector_30 : decode cX1_holdsConnector 30 = .ok (.bipush 8, 2) := by decide +kernel
theorem dX1_holdsConnector_32 : decode cX1_holdsConnector 32 = .ok (.if_icmp .ne 7, 3) := by decide +kernel
theorem dX1_holdsConnector_35 : decode cX1_holdsConnector 35 = .ok (.iconst 1, 1) := by decide +kernel
theorem dX1_holdsConnector_36 : decode cX1_holdsConnector 36 = .ok (.goto 4, 3) := by decide +kernel
theorem dX1_holdsConnector_39 : decode cX1_holdsConnector 39 = .ok (.iconst 0, 1) := by decide +kernel
theorem dX1_holdsConnector_40 : decode cX1_holdsConnector 40 = .ok (.ireturn, 1) := by decide +kernel
theorem dX1_numberFor_0 : decode cX1_numberFor 0 = .ok (.iload_n 1, 1) := by decide +kernel
theorem dX1_numberFor_1 : decode cX1_numberFor 1 = .ok (.tableswitch 87 0 7 #[47, 52, 57, 62, 67, 72, 77, 82], 47) := by decide +kernel
theorem dX1_numberFor_48 : decode cX1_numberFor 48 = .ok (.aload_n 0, 1) := by decide +kernel
theorem dX1_numberFor_49 : decode cX1_numberFor 49 = .ok (.getfield 9, 3) := by decide +kernel
theorem dX1_numberFor_52 : decode cX1_numberFor 52 = .ok (.ireturn, 1) := by decide +kernel
theorem dX1_numberFor_53 : decode cX1_numberFor 53 = .ok (.aload_n 0, 1) := by decide +kernel
theorem dX1_numberFor_54 : decode cX1_numberFor 54 = .ok (.getfield 15, 3) := by decide +kernel
theorem dX1_numberFor_57 : decode cX1_numberFor 57 = .ok (.ireturn, 1) := by decide +kernel
theorem dX1_numberFor_58 : decode cX1_numberFor 58 = .ok (.aload_n 0, 1) := by decide +kernel
theorem dX1_numberFor_59 : decode cX1_numberFor 59 = .ok (.getfield 18, 3) := by decide +kernel
theorem dX1_numberFor_62 : decode cX1_numberFor 62 = .ok (.ireturn, 1) := by decide +kernel
theorem dX1_numberFor_63 : decode cX1_numberFor 63 = .ok (.aload_n 0, 1) := by decide +kernel
theorem dX1_numberFor_64 : decode cX1_numberFor 64 = .ok (.getfield 21, 3) := by decide +kernel
theorem dX1_numberFor_67 : decode cX1_numberFor 67 = .ok (.ireturn, 1) := by decide +kernel
theorem dX1_numberFor_68 : decode cX1_numberFor 68 = .ok (.aload_n 0, 1) := by decide +kernel
theorem dX1_numberFor_69 : decode cX1_numberFor 69 = .ok (.getfield 24, 3) := by decide +kernel
theorem dX1_numberFor_72 : decode cX1_numberFor 72 = .ok (.ireturn, 1) := by decide +kernel
theorem dX1_numberFor_73 : decode cX1_numberFor 73 = .ok (.aload_n 0, 1) := by decide +kernel
theorem dX1_numberFor_74 : decode cX1_numberFor 74 = .ok (.getfield 27, 3) := by decide +kernel
theorem dX1_numberFor_77 : decode cX1_numberFor 77 = .ok (.ireturn, 1) := by decide +kernel
theorem dX1_numberFor_78 : decode cX1_numberFor 78 = .ok (.aload_n 0, 1) := by decide +kernel
theorem dX1_numberFor_79 : decode cX1_numberFor 79 = .ok (.getfield 33, 3) := by decide +kernel
theorem dX1_numberFor_82 : decode cX1_numberFor 82 = .ok (.ireturn, 1) := by decide +kernel
theorem dX1_numberFor_83 : decode cX1_numberFor 83 = .ok (.aload_n 0, 1) := by decide +kernel
theorem dX1_numberFor_84 : decode cX1_numberFor 84 = .ok (.getfield 36, 3) := by decide +kernel
theorem dX1_numberFor_87 : decode cX1_numberFor 87 = .ok (.ireturn, 1) := by decide +kernel
theorem dX1_numberFor_88 : decode cX1_numberFor 88 = .ok (.bipush (-2), 2) := by decide +kernel
theorem dX1_numberFor_90 : decode cX1_numberFor 90 = .ok (.ireturn, 1) := by decide +kernel
theorem dX2_init_0 : decode cX2_init 0 = .ok (.aload_n 0, 1) := by decide +kernel
theorem dX2_init_1 : decode cX2_init 1 = .ok (.invokespecial 3, 3) := by decide +kernel
theorem dX2_init_4 : decode cX2_init 4 = .ok (.aload_n 0, 1) := by decide +kernel
theorem dX2_init_5 : decode cX2_init 5 = .ok (.iconst 0, 1) := by decide +kernel
theorem dX2_init_6 : decode cX2_init 6 = .ok (.putfield 9, 3) := by decide +kernel
theorem dX2_init_9 : decode cX2_init 9 = .ok (.aload_n 0, 1) := by decide +kernel
theorem dX2_init_10 : decode cX2_init 10 = .ok (.iconst 0, 1) := by decide +kernel
theorem dX2_init_11 : decode cX2_init 11 = .ok (.putfield 15, 3) := by decide +kernel
theorem dX2_init_14 : decode cX2_init 14 = .ok (.aload_n 0, 1) := by decide +kernel
theorem dX2_init_15 : decode cX2_init 15 = .ok (.iconst 0, 1) := by decide +kernel
theorem dX2_init_16 : decode cX2_init 16 = .ok (.putfield 19, 3) := by decide +kernel
theorem dX2_init_19 : decode cX2_init 19 = .ok (.aload_n 0, 1) := by decide +kernel
theorem dX2_init_20 : decode cX2_init 20 = .ok (.iconst 0, 1) := by decide +kernel
theorem dX2_init_21 : decode cX2_init 21 = .ok (.putfield 22, 3) := by decide +kernel
theorem dX2_init_24 : decode cX2_init 24 = .ok (.aload_n 0, 1) := by decide +kernel
theorem dX2_init_25 : decode cX2_init 25 = .ok (.iconst 0, 1) := by decide +kernel
theorem dX2_init_26 : decode cX2_init 26 = .ok (.putfield 25, 3) := by decide +kernel
theorem dX2_init_29 : decode cX2_init 29 = .ok (.aload_n 0, 1) := by decide +kernel
theorem dX2_init_30 : decode cX2_init 30 = .ok (.iconst 0, 1) := by decide +kernel
theorem dX2_init_31 : decode cX2_init 31 = .ok (.putfield 28, 3) := by decide +kernel
theorem dX2_init_34 : decode cX2_init 34 = .ok (.aload_n 0, 1) := by decide +kernel
theorem dX2_init_35 : decode cX2_init 35 = .ok (.bipush (-6), 2) := by decide +kernel
theorem dX2_init_37 : decode cX2_init 37 = .ok (.putfield 31, 3) := by decide +kernel
theorem dX2_init_40 : decode cX2_init 40 = .ok (.aload_n 0, 1) := by decide +kernel
theorem dX2_init_41 : decode cX2_init 41 = .ok (.iconst 0, 1) := by decide +kernel
theorem dX2_init_42 : decode cX2_init 42 = .ok (.putfield 34, 3) := by decide +kernel
theorem dX2_init_45 : decode cX2_init 45 = .ok (.aload_n 0, 1) := by decide +kernel
theorem dX2_init_46 : decode cX2_init 46 = .ok (.iconst 0, 1) := by decide +kernel
theorem dX2_init_47 : decode cX2_init 47 = .ok (.putfield 37, 3) := by decide +kernel
theorem dX2_init_50 : decode cX2_init 50 = .ok (.return_, 1) := by decide +kernel
theorem dX2_renew_0 : decode cX2_renew 0 = .ok (.aload_n 0, 1) := by decide +kernel
theorem dX2_renew_1 : decode cX2_renew 1 = .ok (.iconst 0, 1) := by decide +kernel
theorem dX2_renew_2 : decode cX2_renew 2 = .ok (.invokevirtual 40, 3) := by decide +kernel
theorem dX2_renew_5 : decode cX2_renew 5 = .ok (.aload_n 0, 1) := by decide +kernel
theorem dX2_renew_6 : decode cX2_renew 6 = .ok (.iconst 0, 1) := by decide +kernel
theorem dX2_renew_7 : decode cX2_renew 7 = .ok (.putfield 15, 3) := by decide +kernel
theorem dX2_renew_10 : decode cX2_renew 10 = .ok (.aload_n 0, 1) := by decide +kernel
theorem dX2_renew_11 : decode cX2_renew 11 = .ok (.iconst 0, 1) := by decide +kernel
theorem dX2_renew_12 : decode cX2_renew 12 = .ok (.putfield 19, 3) := by decide +kernel
theorem dX2_renew_15 : decode cX2_renew 15 = .ok (.aload_n 0, 1) := by decide +kernel
theorem dX2_renew_16 : decode cX2_renew 16 = .ok (.iconst 0, 1) := by decide +kernel
theorem dX2_renew_17 : decode cX2_renew 17 = .ok (.putfield 22, 3) := by decide +kernel
theorem dX2_renew_20 : decode cX2_renew 20 = .ok (.aload_n 0, 1) := by decide +kernel
theorem dX2_renew_21 : decode cX2_renew 21 = .ok (.iconst 0, 1) := by decide +kernel
theorem dX2_renew_22 : decode cX2_renew 22 = .ok (.putfield 34, 3) := by decide +kernel
theorem dX2_renew_25 : decode cX2_renew 25 = .ok (.return_, 1) := by decide +kernel
theorem dX2_copyFrom_0 : decode cX2_copyFrom 0 = .ok (.aload_n 0, 1) := by decide +kernel
theorem dX2_copyFrom_1 : decode cX2_copyFrom 1 = .ok (.aload_n 1, 1) := by decide +kernel
theorem dX2_copyFrom_2 : decode cX2_copyFrom 2 = .ok (.getfield 9, 3) := by decide +kernel
theorem dX2_copyFrom_5 : decode cX2_copyFrom 5 = .ok (.putfield 9, 3) := by decide +kernel
theorem dX2_copyFrom_8 : decode cX2_copyFrom 8 = .ok (.aload_n 0, 1) := by decide +kernel
theorem dX2_copyFrom_9 : decode cX2_copyFrom 9 = .ok (.aload_n 1, 1) := by decide +kernel
theorem dX2_copyFrom_10 : decode cX2_copyFrom 10 = .ok (.getfield 15, 3) := by decide +kernel
theorem dX2_copyFrom_13 : decode cX2_copyFrom 13 = .ok (.putfield 15, 3) := by decide +kernel
theorem dX2_copyFrom_16 : decode cX2_copyFrom 16 = .ok (.aload_n 0, 1) := by decide +kernel
theorem dX2_copyFrom_17 : decode cX2_copyFrom 17 = .ok (.aload_n 1, 1) := by decide +kernel
theorem dX2_copyFrom_18 : decode cX2_copyFrom 18 = .ok (.getfield 19, 3) := by decide +kernel
theorem dX2_copyFrom_21 : decode cX2_copyFrom 21 = .ok (.putfield 19, 3) := by decide +kernel
theorem dX2_copyFrom_24 : decode cX2_copyFrom 24 = .ok (.aload_n 0, 1) := by decide +kernel
theorem dX2_copyFrom_25 : decode cX2_copyFrom 25 = .ok (.aload_n 1, 1) := by decide +kernel
theorem dX2_copyFrom_26 : decode cX2_copyFrom 26 = .ok (.getfield 22, 3) := by decide +kernel
theorem dX2_copyFrom_29 : decode cX2_copyFrom 29 = .ok (.putfield 22, 3) := by decide +kernel
theorem dX2_copyFrom_32 : decode cX2_copyFrom 32 = .ok (.aload_n 0, 1) := by decide +kernel
theorem dX2_copyFrom_33 : decode cX2_copyFrom 33 = .ok (.aload_n 1, 1) := by decide +kernel
theorem dX2_copyFrom_34 : decode cX2_copyFrom 34 = .ok (.getfield 25, 3) := by decide +kernel
theorem dX2_copyFrom_37 : decode cX2_copyFrom 37 = .ok (.putfield 25, 3) := by decide +kernel
theorem dX2_copyFrom_40 : decode cX2_copyFrom 40 = .ok (.aload_n 0, 1) := by decide +kernel
theorem dX2_copyFrom_41 : decode cX2_copyFrom 41 = .ok (.aload_n 1, 1) := by decide +kernel
theorem dX2_copyFrom_42 : decode cX2_copyFrom 42 = .ok (.getfield 28, 3) := by decide +kernel
theorem dX2_copyFrom_45 : decode cX2_copyFrom 45 = .ok (.putfield 28, 3) := by decide +kernel
theorem dX2_copyFrom_48 : decode cX2_copyFrom 48 = .ok (.aload_n 0, 1) := by decide +kernel
theorem dX2_copyFrom_49 : decode cX2_copyFrom 49 = .ok (.aload_n 1, 1) := by decide +kernel
theorem dX2_copyFrom_50 : decode cX2_copyFrom 50 = .ok (.getfield 31, 3) := by decide +kernel
theorem dX2_copyFrom_53 : decode cX2_copyFrom 53 = .ok (.putfield 31, 3) := by decide +kernel
theorem dX2_copyFrom_56 : decode cX2_copyFrom 56 = .ok (.aload_n 0, 1) := by decide +kernel
theorem dX2_copyFrom_57 : decode cX2_copyFrom 57 = .ok (.aload_n 1, 1) := by decide +kernel
theorem dX2_copyFrom_58 : decode cX2_copyFrom 58 = .ok (.getfield 34, 3) := by decide +kernel
theorem dX2_copyFrom_61 : decode cX2_copyFrom 61 = .ok (.putfield 34, 3) := by decide +kernel
theorem dX2_copyFrom_64 : decode cX2_copyFrom 64 = .ok (.aload_n 0, 1) := by decide +kernel
theorem dX2_copyFrom_65 : decode cX2_copyFrom 65 = .ok (.aload_n 1, 1) := by decide +kernel
theorem dX2_copyFrom_66 : decode cX2_copyFrom 66 = .ok (.getfield 37, 3) := by decide +kernel
theorem dX2_copyFrom_69 : decode cX2_copyFrom 69 = .ok (.putfield 37, 3) := by decide +kernel
theorem dX2_copyFrom_72 : decode cX2_copyFrom 72 = .ok (.return_, 1) := by decide +kernel
theorem dX2_waitsUnsought_0 : decode cX2_waitsUnsought 0 = .ok (.aload_n 0, 1) := by decide +kernel
theorem dX2_waitsUnsought_1 : decode cX2_waitsUnsought 1 = .ok (.getfield 9, 3) := by decide +kernel
theorem dX2_waitsUnsought_4 : decode cX2_waitsUnsought 4 = .ok (.iconst 1, 1) := by decide +kernel
theorem dX2_waitsUnsought_5 : decode cX2_waitsUnsought 5 = .ok (.if_icmp .ne 16, 3) := by decide +kernel
theorem dX2_waitsUnsought_8 : decode cX2_waitsUnsought 8 = .ok (.aload_n 0, 1) := by decide +kernel
theorem dX2_waitsUnsought_9 : decode cX2_waitsUnsought 9 = .ok (.getfield 31, 3) := by decide +kernel
theorem dX2_waitsUnsought_12 : decode cX2_waitsUnsought 12 = .ok (.bipush (-6), 2) := by decide +kernel
theorem dX2_waitsUnsought_14 : decode cX2_waitsUnsought 14 = .ok (.if_icmp .ne 7, 3) := by decide +kernel
theorem dX2_waitsUnsought_17 : decode cX2_waitsUnsought 17 = .ok (.iconst 1, 1) := by decide +kernel
theorem dX2_waitsUnsought_18 : decode cX2_waitsUnsought 18 = .ok (.goto 4, 3) := by decide +kernel
theorem dX2_waitsUnsought_21 : decode cX2_waitsUnsought 21 = .ok (.iconst 0, 1) := by decide +kernel
theorem dX2_waitsUnsought_22 : decode cX2_waitsUnsought 22 = .ok (.ireturn, 1) := by decide +kernel
theorem dX2_isCalledByAnother_0 : decode cX2_isCalledByAnother 0 = .ok (.aload_n 0, 1) := by decide +kernel
theorem dX2_isCalledByAnother_1 : decode cX2_isCalledByAnother 1 = .ok (.getfield 9, 3) := by decide +kernel
theorem dX2_isCalledByAnother_4 : decode cX2_isCalledByAnother 4 = .ok (.iconst 5, 1) := by decide +kernel
theorem dX2_isCalledByAnother_5 : decode cX2_isCalledByAnother 5 = .ok (.if_icmp .eq 12, 3) := by decide +kernel
theorem dX2_isCalledByAnother_8 : decode cX2_isCalledByAnother 8 = .ok (.aload_n 0, 1) := by decide +kernel
theorem dX2_isCalledByAnother_9 : decode cX2_isCalledByAnother 9 = .ok (.getfield 9, 3) := by decide +kernel
theorem dX2_isCalledByAnother_12 : decode cX2_isCalledByAnother 12 = .ok (.bipush 7, 2) := by decide +kernel
theorem dX2_isCalledByAnother_14 : decode cX2_isCalledByAnother 14 = .ok (.if_icmp .ne 7, 3) := by decide +kernel
theorem dX2_isCalledByAnother_17 : decode cX2_isCalledByAnother 17 = .ok (.iconst 1, 1) := by decide +kernel
theorem dX2_isCalledByAnother_18 : decode cX2_isCalledByAnother 18 = .ok (.goto 4, 3) := by decide +kernel
theorem dX2_isCalledByAnother_21 : decode cX2_isCalledByAnother 21 = .ok (.iconst 0, 1) := by decide +kernel
theorem dX2_isCalledByAnother_22 : decode cX2_isCalledByAnother 22 = .ok (.ireturn, 1) := by decide +kernel
theorem dX2_callsAnother_0 : decode cX2_callsAnother 0 = .ok (.aload_n 0, 1) := by decide +kernel
theorem dX2_callsAnother_1 : decode cX2_callsAnother 1 = .ok (.getfield 9, 3) := by decide +kernel
theorem dX2_callsAnother_4 : decode cX2_callsAnother 4 = .ok (.iconst 4, 1) := by decide +kernel
