theorem dX1_renew_0 : decode cX1_renew 0 = .ok (.aload_n 0, 1) := by decide +kernel
theorem dX1_renew_1 : decode cX1_renew 1 = .ok (.invokevirtual 42, 3) := by decide +kernel
theorem dX1_renew_4 : decode cX1_renew 4 = .ok (.aload_n 0, 1) := by decide +kernel
theorem dX1_renew_5 : decode cX1_renew 5 = .ok (.iconst 0, 1) := by decide +kernel
theorem dX1_renew_6 : decode cX1_renew 6 = .ok (.putfield 15, 3) := by decide +kernel
theorem dX1_renew_9 : decode cX1_renew 9 = .ok (.return_, 1) := by decide +kernel
theorem dX1_copyFrom_0 : decode cX1_copyFrom 0 = .ok (.aload_n 0, 1) := by decide +kernel
theorem dX1_copyFrom_1 : decode cX1_copyFrom 1 = .ok (.aload_n 1, 1) := by decide +kernel
theorem dX1_copyFrom_2 : decode cX1_copyFrom 2 = .ok (.getfield 9, 3) := by decide +kernel
theorem dX1_copyFrom_5 : decode cX1_copyFrom 5 = .ok (.putfield 9, 3) := by decide +kernel
theorem dX1_copyFrom_8 : decode cX1_copyFrom 8 = .ok (.aload_n 0, 1) := by decide +kernel
theorem dX1_copyFrom_9 : decode cX1_copyFrom 9 = .ok (.aload_n 1, 1) := by decide +kernel
theorem dX1_copyFrom_10 : decode cX1_copyFrom 10 = .ok (.getfield 15, 3) := by decide +kernel
theorem dX1_copyFrom_13 : decode cX1_copyFrom 13 = .ok (.putfield 15, 3) := by decide +kernel
theorem dX1_copyFrom_16 : decode cX1_copyFrom 16 = .ok (.aload_n 0, 1) := by decide +kernel
theorem dX1_copyFrom_17 : decode cX1_copyFrom 17 = .ok (.aload_n 1, 1) := by decide +kernel
theorem dX1_copyFrom_18 : decode cX1_copyFrom 18 = .ok (.getfield 18, 3) := by decide +kernel
theorem dX1_copyFrom_21 : decode cX1_copyFrom 21 = .ok (.putfield 18, 3) := by decide +kernel
theorem dX1_copyFrom_24 : decode cX1_copyFrom 24 = .ok (.aload_n 0, 1) := by decide +kernel
theorem dX1_copyFrom_25 : decode cX1_copyFrom 25 = .ok (.aload_n 1, 1) := by decide +kernel
theorem dX1_copyFrom_26 : decode cX1_copyFrom 26 = .ok (.getfield 21, 3) := by decide +kernel
theorem dX1_copyFrom_29 : decode cX1_copyFrom 29 = .ok (.putfield 21, 3) := by decide +kernel
theorem dX1_copyFrom_32 : decode cX1_copyFrom 32 = .ok (.aload_n 0, 1) := by decide +kernel
theorem dX1_copyFrom_33 : decode cX1_copyFrom 33 = .ok (.aload_n 1, 1) := by decide +kernel
theorem dX1_copyFrom_34 : decode cX1_copyFrom 34 = .ok (.getfield 24, 3) := by decide +kernel
theorem dX1_copyFrom_37 : decode cX1_copyFrom 37 = .ok (.putfield 24, 3) := by decide +kernel
theorem dX1_copyFrom_40 : decode cX1_copyFrom 40 = .ok (.aload_n 0, 1) := by decide +kernel
theorem dX1_copyFrom_41 : decode cX1_copyFrom 41 = .ok (.aload_n 1, 1) := by decide +kernel
theorem dX1_copyFrom_42 : decode cX1_copyFrom 42 = .ok (.getfield 27, 3) := by decide +kernel
theorem dX1_copyFrom_45 : decode cX1_copyFrom 45 = .ok (.putfield 27, 3) := by decide +kernel
theorem dX1_copyFrom_48 : decode cX1_copyFrom 48 = .ok (.aload_n 0, 1) := by decide +kernel
theorem dX1_copyFrom_49 : decode cX1_copyFrom 49 = .ok (.aload_n 1, 1) := by decide +kernel
theorem dX1_copyFrom_50 : decode cX1_copyFrom 50 = .ok (.getfield 30, 3) := by decide +kernel
theorem dX1_copyFrom_53 : decode cX1_copyFrom 53 = .ok (.putfield 30, 3) := by decide +kernel
theorem dX1_copyFrom_56 : decode cX1_copyFrom 56 = .ok (.aload_n 0, 1) := by decide +kernel
theorem dX1_copyFrom_57 : decode cX1_copyFrom 57 = .ok (.aload_n 1, 1) := by decide +kernel
theorem dX1_copyFrom_58 : decode cX1_copyFrom 58 = .ok (.getfield 33, 3) := by decide +kernel
theorem dX1_copyFrom_61 : decode cX1_copyFrom 61 = .ok (.putfield 33, 3) := by decide +kernel
theorem dX1_copyFrom_64 : decode cX1_copyFrom 64 = .ok (.aload_n 0, 1) := by decide +kernel
theorem dX1_copyFrom_65 : decode cX1_copyFrom 65 = .ok (.aload_n 1, 1) := by decide +kernel
theorem dX1_copyFrom_66 : decode cX1_copyFrom 66 = .ok (.getfield 36, 3) := by decide +kernel
theorem dX1_copyFrom_69 : decode cX1_copyFrom 69 = .ok (.putfield 36, 3) := by decide +kernel
theorem dX1_copyFrom_72 : decode cX1_copyFrom 72 = .ok (.aload_n 0, 1) := by decide +kernel
theorem dX1_copyFrom_73 : decode cX1_copyFrom 73 = .ok (.aload_n 1, 1) := by decide +kernel
theorem dX1_copyFrom_74 : decode cX1_copyFrom 74 = .ok (.getfield 39, 3) := by decide +kernel
theorem dX1_copyFrom_77 : decode cX1_copyFrom 77 = .ok (.putfield 39, 3) := by decide +kernel
theorem dX1_copyFrom_80 : decode cX1_copyFrom 80 = .ok (.return_, 1) := by decide +kernel
theorem dX1_become_0 : decode cX1_become 0 = .ok (.aload_n 0, 1) := by decide +kernel
theorem dX1_become_1 : decode cX1_become 1 = .ok (.iload_n 1, 1) := by decide +kernel
theorem dX1_become_2 : decode cX1_become 2 = .ok (.putfield 9, 3) := by decide +kernel
theorem dX1_become_5 : decode cX1_become 5 = .ok (.aload_n 0, 1) := by decide +kernel
theorem dX1_become_6 : decode cX1_become 6 = .ok (.iconst 0, 1) := by decide +kernel
theorem dX1_become_7 : decode cX1_become 7 = .ok (.putfield 33, 3) := by decide +kernel
theorem dX1_become_10 : decode cX1_become 10 = .ok (.aload_n 0, 1) := by decide +kernel
theorem dX1_become_11 : decode cX1_become 11 = .ok (.iconst 0, 1) := by decide +kernel
theorem dX1_become_12 : decode cX1_become 12 = .ok (.putfield 36, 3) := by decide +kernel
theorem dX1_become_15 : decode cX1_become 15 = .ok (.return_, 1) := by decide +kernel
theorem dX1_becomeFree_0 : decode cX1_becomeFree 0 = .ok (.aload_n 0, 1) := by decide +kernel
theorem dX1_becomeFree_1 : decode cX1_becomeFree 1 = .ok (.iconst 0, 1) := by decide +kernel
theorem dX1_becomeFree_2 : decode cX1_becomeFree 2 = .ok (.invokevirtual 45, 3) := by decide +kernel
theorem dX1_becomeFree_5 : decode cX1_becomeFree 5 = .ok (.aload_n 0, 1) := by decide +kernel
theorem dX1_becomeFree_6 : decode cX1_becomeFree 6 = .ok (.bipush (-6), 2) := by decide +kernel
theorem dX1_becomeFree_8 : decode cX1_becomeFree 8 = .ok (.putfield 18, 3) := by decide +kernel
theorem dX1_becomeFree_11 : decode cX1_becomeFree 11 = .ok (.aload_n 0, 1) := by decide +kernel
theorem dX1_becomeFree_12 : decode cX1_becomeFree 12 = .ok (.iconst 0, 1) := by decide +kernel
theorem dX1_becomeFree_13 : decode cX1_becomeFree 13 = .ok (.putfield 21, 3) := by decide +kernel
theorem dX1_becomeFree_16 : decode cX1_becomeFree 16 = .ok (.aload_n 0, 1) := by decide +kernel
theorem dX1_becomeFree_17 : decode cX1_becomeFree 17 = .ok (.bipush (-6), 2) := by decide +kernel
theorem dX1_becomeFree_19 : decode cX1_becomeFree 19 = .ok (.putfield 24, 3) := by decide +kernel
theorem dX1_becomeFree_22 : decode cX1_becomeFree 22 = .ok (.aload_n 0, 1) := by decide +kernel
theorem dX1_becomeFree_23 : decode cX1_becomeFree 23 = .ok (.iconst 0, 1) := by decide +kernel
theorem dX1_becomeFree_24 : decode cX1_becomeFree 24 = .ok (.putfield 27, 3) := by decide +kernel
theorem dX1_becomeFree_27 : decode cX1_becomeFree 27 = .ok (.aload_n 0, 1) := by decide +kernel
theorem dX1_becomeFree_28 : decode cX1_becomeFree 28 = .ok (.iconst 0, 1) := by decide +kernel
theorem dX1_becomeFree_29 : decode cX1_becomeFree 29 = .ok (.putfield 30, 3) := by decide +kernel
theorem dX1_becomeFree_32 : decode cX1_becomeFree 32 = .ok (.aload_n 0, 1) := by decide +kernel
theorem dX1_becomeFree_33 : decode cX1_becomeFree 33 = .ok (.bipush (-6), 2) := by decide +kernel
theorem dX1_becomeFree_35 : decode cX1_becomeFree 35 = .ok (.putfield 39, 3) := by decide +kernel
theorem dX1_becomeFree_38 : decode cX1_becomeFree 38 = .ok (.return_, 1) := by decide +kernel
theorem dX1_holdsConnector_0 : decode cX1_holdsConnector 0 = .ok (.aload_n 0, 1) := by decide +kernel
theorem dX1_holdsConnector_1 : decode cX1_holdsConnector 1 = .ok (.getfield 9, 3) := by decide +kernel
theorem dX1_holdsConnector_4 : decode cX1_holdsConnector 4 = .ok (.iconst 5, 1) := by decide +kernel
theorem dX1_holdsConnector_5 : decode cX1_holdsConnector 5 = .ok (.if_icmp .eq 30, 3) := by decide +kernel
theorem dX1_holdsConnector_8 : decode cX1_holdsConnector 8 = .ok (.aload_n 0, 1) := by decide +kernel
theorem dX1_holdsConnector_9 : decode cX1_holdsConnector 9 = .ok (.getfield 9, 3) := by decide +kernel
theorem dX1_holdsConnector_12 : decode cX1_holdsConnector 12 = .ok (.bipush 6, 2) := by decide +kernel
theorem dX1_holdsConnector_14 : decode cX1_holdsConnector 14 = .ok (.if_icmp .eq 21, 3) := by decide +kernel
theorem dX1_holdsConnector_17 : decode cX1_holdsConnector 17 = .ok (.aload_n 0, 1) := by decide +kernel
theorem dX1_holdsConnector_18 : decode cX1_holdsConnector 18 = .ok (.getfield 9, 3) := by decide +kernel
theorem dX1_holdsConnector_21 : decode cX1_holdsConnector 21 = .ok (.bipush 7, 2) := by decide +kernel
theorem dX1_holdsConnector_23 : decode cX1_holdsConnector 23 = .ok (.if_icmp .eq 12, 3) := by decide +kernel
theorem dX1_holdsConnector_26 : decode cX1_holdsConnector 26 = .ok (.aload_n 0, 1) := by decide +kernel
theorem dX1_holdsConnector_27 : decode cX1_holdsConnector 27 = .ok (.getfield 9, 3) := by decide +kernel
theorem dX1_holdsConnector_30 : decode cX1_holdsConnector 30 = .ok (.bipush 8, 2) := by decide +kernel
theorem dX1_holdsConnector_32 : decode cX1_holdsConnector 32 = .ok (.if_icmp .ne 7, 3) := by decide +kernel
theorem dX1_holdsConnector_35 : decode cX1_holdsConnector 35 = .ok (.iconst 1, 1) := by decide +kernel
theorem dX1_holdsConnector_36 : decode cX1_holdsConnector 36 = .ok (.goto 4, 3) := by decide +kernel
theorem dX1_holdsConnector_39 : decode cX1_holdsConnector 39 = .ok (.iconst 0, 1) := by decide +kernel
theorem dX1_holdsConnector_40 : decode cX1_holdsConnector 40 = .ok (.ireturn, 1) := by decide +kernel
theorem dX1_numberFor_0 : decode cX1_numberFor 0 = .ok (.iload_n 1, 1) := by decide +kernel
theorem dX1_numberFor_1 : decode cX1_numberFor 1 = .ok (.tableswitch 87 0 7 #[47, 52, 57, 62, 67, 72, 77, 82], 47) := by decide +kernel
theorem dX1_numberFor_48 : decode cX1_numberFor 48 = .ok (.aload_n 0, 1) := by decide +kernel
theorem dX1_numberFor_49 : decode cX1_numberFor 49 = .ok (.getfield 9, 3) := by decide +kernel
theorem dX1_numberFor_52 : decode cX1_numberFor 52 = .ok (.ireturn, 1) := by decide +kernel
theorem dX1_numberFor_53 : decode cX1_numberFor 53 = .ok (.aload_n 0, 1) := by decide +kernel
theorem dX1_numberFor_54 : decode cX1_numberFor 54 = .ok (.getfield 15, 3) := by decide +kernel
theorem dX1_numberFor_57 : decode cX1_numberFor 57 = .ok (.ireturn, 1) := by decide +kernel
theorem dX1_numberFor_58 : decode cX1_numberFor 58 = .ok (.aload_n 0, 1) := by decide +kernel
theorem dX1_numberFor_59 : decode cX1_numberFor 59 = .ok (.getfield 18, 3) := by decide +kernel
theorem dX1_numberFor_62 : decode cX1_numberFor 62 = .ok (.ireturn, 1) := by decide +kernel
theorem dX1_numberFor_63 : decode cX1_numberFor 63 = .ok (.aload_n 0, 1) := by decide +kernel
theorem dX1_numberFor_64 : decode cX1_numberFor 64 = .ok (.getfield 21, 3) := by decide +kernel
theorem dX1_numberFor_67 : decode cX1_numberFor 67 = .ok (.ireturn, 1) := by decide +kernel
theorem dX1_numberFor_68 : decode cX1_numberFor 68 = .ok (.aload_n 0, 1) := by decide +kernel
theorem dX1_numberFor_69 : decode cX1_numberFor 69 = .ok (.getfield 24, 3) := by decide +kernel
theorem dX1_numberFor_72 : decode cX1_numberFor 72 = .ok (.ireturn, 1) := by decide +kernel
theorem dX1_numberFor_73 : decode cX1_numberFor 73 = .ok (.aload_n 0, 1) := by decide +kernel
theorem dX1_numberFor_74 : decode cX1_numberFor 74 = .ok (.getfield 27, 3) := by decide +kernel
theorem dX1_numberFor_77 : decode cX1_numberFor 77 = .ok (.ireturn, 1) := by decide +kernel
theorem dX1_numberFor_78 : decode cX1_numberFor 78 = .ok (.aload_n 0, 1) := by decide +kernel
theorem dX1_numberFor_79 : decode cX1_numberFor 79 = .ok (.getfield 33, 3) := by decide +kernel
theorem dX1_numberFor_82 : decode cX1_numberFor 82 = .ok (.ireturn, 1) := by decide +kernel
theorem dX1_numberFor_83 : decode cX1_numberFor 83 = .ok (.aload_n 0, 1) := by decide +kernel
theorem dX1_numberFor_84 : decode cX1_numberFor 84 = .ok (.getfield 36, 3) := by decide +kernel
theorem dX1_numberFor_87 : decode cX1_numberFor 87 = .ok (.ireturn, 1) := by decide +kernel
theorem dX1_numberFor_88 : decode cX1_numberFor 88 = .ok (.bipush (-2), 2) := by decide +kernel
theorem dX1_numberFor_90 : decode cX1_numberFor 90 = .ok (.ireturn, 1) := by decide +kernel
theorem dX2_init_0 : decode cX2_init 0 = .ok (.aload_n 0, 1) := by decide +kernel
theorem dX2_init_1 : decode cX2_init 1 = .ok (.invokespecial 3, 3) := by decide +kernel
theorem dX2_init_4 : decode cX2_init 4 = .ok (.aload_n 0, 1) := by decide +kernel
theorem dX2_init_5 : decode cX2_init 5 = .ok (.iconst 0, 1) := by decide +kernel
theorem dX2_init_6 : decode cX2_init 6 = .ok (.putfield 9, 3) := by decide +kernel
theorem dX2_init_9 : decode cX2_init 9 = .ok (.aload_n 0, 1) := by decide +kernel
theorem dX2_init_10 : decode cX2_init 10 = .ok (.iconst 0, 1) := by decide +kernel
theorem dX2_init_11 : decode cX2_init 11 = .ok (.putfield 15, 3) := by decide +kernel
theorem dX2_init_14 : decode cX2_init 14 = .ok (.aload_n 0, 1) := by decide +kernel
theorem dX2_init_15 : decode cX2_init 15 = .ok (.iconst 0, 1) := by decide +kernel
theorem dX2_init_16 : decode cX2_init 16 = .ok (.putfield 19, 3) := by decide +kernel
theorem dX2_init_19 : decode cX2_init 19 = .ok (.aload_n 0, 1) := by decide +kernel
theorem dX2_init_20 : decode cX2_init 20 = .ok (.iconst 0, 1) := by decide +kernel
theorem dX2_init_21 : decode cX2_init 21 = .ok (.putfield 22, 3) := by decide +kernel
theorem dX2_init_24 : decode cX2_init 24 = .ok (.aload_n 0, 1) := by decide +kernel
theorem dX2_init_25 : decode cX2_init 25 = .ok (.iconst 0, 1) := by decide +kernel
theorem dX2_init_26 : decode cX2_init 26 = .ok (.putfield 25, 3) := by decide +kernel
theorem dX2_init_29 : decode cX2_init 29 = .ok (.aload_n 0, 1) := by decide +kernel
theorem dX2_init_30 : decode cX2_init 30 = .ok (.iconst 0, 1) := by decide +kernel
theorem dX2_init_31 : decode cX2_init 31 = .ok (.putfield 28, 3) := by decide +kernel
theorem dX2_init_34 : decode cX2_init 34 = .ok (.aload_n 0, 1) := by decide +kernel
theorem dX2_init_35 : decode cX2_init 35 = .ok (.bipush (-6), 2) := by decide +kernel
theorem dX2_init_37 : decode cX2_init 37 = .ok (.putfield 31, 3) := by decide +kernel
theorem dX2_init_40 : decode cX2_init 40 = .ok (.aload_n 0, 1) := by decide +kernel
theorem dX2_init_41 : decode cX2_init 41 = .ok (.iconst 0, 1) := by decide +kernel
theorem dX2_init_42 : decode cX2_init 42 = .ok (.putfield 34, 3) := by decide +kernel
theorem dX2_init_45 : decode cX2_init 45 = .ok (.aload_n 0, 1) := by decide +kernel
theorem dX2_init_46 : decode cX2_init 46 = .ok (.iconst 0, 1) := by decide +kernel
theorem dX2_init_47 : decode cX2_init 47 = .ok (.putfield 37, 3) := by decide +kernel
theorem dX2_init_50 : decode cX2_init 50 = .ok (.return_, 1) := by decide +kernel
theorem dX2_renew_0 : decode cX2_renew 0 = .ok (.aload_n 0, 1) := by decide +kernel
theorem dX2_renew_1 : decode cX2_renew 1 = .ok (.iconst 0, 1) := by decide +kernel
theorem dX2_renew_2 : decode cX2_renew 2 = .ok (.invokevirtual 40, 3) := by decide +kernel
theorem dX2_renew_5 : decode cX2_renew 5 = .ok (.aload_n 0, 1) := by decide +kernel
theorem dX2_renew_6 : decode cX2_renew 6 = .ok (.iconst 0, 1) := by decide +kernel
theorem dX2_renew_7 : decode cX2_renew 7 = .ok (.putfield 15, 3) := by decide +kernel
theorem dX2_renew_10 : decode cX2_renew 10 = .ok (.aload_n 0, 1) := by decide +kernel
theorem dX2_renew_11 : decode cX2_renew 11 = .ok (.iconst 0, 1) := by decide +kernel
theorem dX2_renew_12 : decode cX2_renew 12 = .ok (.putfield 19, 3) := by decide +kernel
theorem dX2_renew_15 : decode cX2_renew 15 = .ok (.aload_n 0, 1) := by decide +kernel
theorem dX2_renew_16 : decode cX2_renew 16 = .ok (.iconst 0, 1) := by decide +kernel
theorem dX2_renew_17 : decode cX2_renew 17 = .ok (.putfield 22, 3) := by decide +kernel
theorem dX2_renew_20 : decode cX2_renew 20 = .ok (.aload_n 0, 1) := by decide +kernel
theorem dX2_renew_21 : decode cX2_renew 21 = .ok (.iconst 0, 1) := by decide +kernel
theorem dX2_renew_22 : decode cX2_renew 22 = .ok (.putfield 34, 3) := by decide +kernel
theorem dX2_renew_25 : decode cX2_renew 25 = .ok (.return_, 1) := by decide +kernel
theorem dX2_copyFrom_0 : decode cX2_copyFrom 0 = .ok (.aload_n 0, 1) := by decide +kernel
theorem dX2_copyFrom_1 : decode cX2_copyFrom 1 = .ok (.aload_n 1, 1) := by decide +kernel
theorem dX2_copyFrom_2 : decode cX2_copyFrom 2 = .ok (.getfield 9, 3) := by decide +kernel
theorem dX2_copyFrom_5 : decode cX2_copyFrom 5 = .ok (.putfield 9, 3) := by decide +kernel
theorem dX2_copyFrom_8 : decode cX2_copyFrom 8 = .ok (.aload_n 0, 1) := by decide +kernel
theorem dX2_copyFrom_9 : decode cX2_copyFrom 9 = .ok (.aload_n 1, 1) := by decide +kernel
theorem dX2_copyFrom_10 : decode cX2_copyFrom 10 = .ok (.getfield 15, 3) := by decide +kernel
theorem dX2_copyFrom_13 : decode cX2_copyFrom 13 = .ok (.putfield 15, 3) := by decide +kernel
theorem dX2_copyFrom_16 : decode cX2_copyFrom 16 = .ok (.aload_n 0, 1) := by decide +kernel
theorem dX2_copyFrom_17 : decode cX2_copyFrom 17 = .ok (.aload_n 1, 1) := by decide +kernel
theorem dX2_copyFrom_18 : decode cX2_copyFrom 18 = .ok (.getfield 19, 3) := by decide +kernel
theorem dX2_copyFrom_21 : decode cX2_copyFrom 21 = .ok (.putfield 19, 3) := by decide +kernel
theorem dX2_copyFrom_24 : decode cX2_copyFrom 24 = .ok (.aload_n 0, 1) := by decide +kernel
theorem dX2_copyFrom_25 : decode cX2_copyFrom 25 = .ok (.aload_n 1, 1) := by decide +kernel
theorem dX2_copyFrom_26 : decode cX2_copyFrom 26 = .ok (.getfield 22, 3) := by decide +kernel
theorem dX2_copyFrom_29 : decode cX2_copyFrom 29 = .ok (.putfield 22, 3) := by decide +kernel
theorem dX2_copyFrom_32 : decode cX2_copyFrom 32 = .ok (.aload_n 0, 1) := by decide +kernel
theorem dX2_copyFrom_33 : decode cX2_copyFrom 33 = .ok (.aload_n 1, 1) := by decide +kernel
theorem dX2_copyFrom_34 : decode cX2_copyFrom 34 = .ok (.getfield 25, 3) := by decide +kernel
theorem dX2_copyFrom_37 : decode cX2_copyFrom 37 = .ok (.putfield 25, 3) := by decide +kernel
theorem dX2_copyFrom_40 : decode cX2_copyFrom 40 = .ok (.aload_n 0, 1) := by decide +kernel
theorem dX2_copyFrom_41 : decode cX2_copyFrom 41 = .ok (.aload_n 1, 1) := by decide +kernel
theorem dX2_copyFrom_42 : decode cX2_copyFrom 42 = .ok (.getfield 28, 3) := by decide +kernel
theorem dX2_copyFrom_45 : decode cX2_copyFrom 45 = .ok (.putfield 28, 3) := by decide +kernel
theorem dX2_copyFrom_48 : decode cX2_copyFrom 48 = .ok (.aload_n 0, 1) := by decide +kernel
theorem dX2_copyFrom_49 : decode cX2_copyFrom 49 = .ok (.aload_n 1, 1) := by decide +kernel
theorem dX2_copyFrom_50 : decode cX2_copyFrom 50 = .ok (.getfield 31, 3) := by decide +kernel
theorem dX2_copyFrom_53 : decode cX2_copyFrom 53 = .ok (.putfield 31, 3) := by decide +kernel
theorem dX2_copyFrom_56 : decode cX2_copyFrom 56 = .ok (.aload_n 0, 1) := by decide +kernel
theorem dX2_copyFrom_57 : decode cX2_copyFrom 57 = .ok (.aload_n 1, 1) := by decide +kernel
theorem dX2_copyFrom_58 : decode cX2_copyFrom 58 = .ok (.getfield 34, 3) := by decide +kernel
theorem dX2_copyFrom_61 : decode cX2_copyFrom 61 = .ok (.putfield 34, 3) := by decide +kernel
theorem dX2_copyFrom_64 : decode cX2_copyFrom 64 = .ok (.aload_n 0, 1) := by decide +kernel
theorem dX2_copyFrom_65 : decode cX2_copyFrom 65 = .ok (.aload_n 1, 1) := by decide +kernel
theorem dX2_copyFrom_66 : decode cX2_copyFrom 66 = .ok (.getfield 37, 3) := by decide +kernel
theorem dX2_copyFrom_69 : decode cX2_copyFrom 69 = .ok (.putfield 37, 3) := by decide +kernel
theorem dX2_copyFrom_72 : decode cX2_copyFrom 72 = .ok (.return_, 1) := by decide +kernel
theorem dX2_waitsUnsought_0 : decode cX2_waitsUnsought 0 = .ok (.aload_n 0, 1) := by decide +kernel
theorem dX2_waitsUnsought_1 : decode cX2_waitsUnsought 1 = .ok (.getfield 9, 3) := by decide +kernel
theorem dX2_waitsUnsought_4 : decode cX2_waitsUnsought 4 = .ok (.iconst 1, 1) := by decide +kernel
theorem dX2_waitsUnsought_5 : decode cX2_waitsUnsought 5 = .ok (.if_icmp .ne 16, 3) := by decide +kernel
theorem dX2_waitsUnsought_8 : decode cX2_waitsUnsought 8 = .ok (.aload_n 0, 1) := by decide +kernel
theorem dX2_waitsUnsought_9 : decode cX2_waitsUnsought 9 = .ok (.getfield 31, 3) := by decide +kernel
theorem dX2_waitsUnsought_12 : decode cX2_waitsUnsought 12 = .ok (.bipush (-6), 2) := by decide +kernel
theorem dX2_waitsUnsought_14 : decode cX2_waitsUnsought 14 = .ok (.if_icmp .ne 7, 3) := by decide +kernel
theorem dX2_waitsUnsought_17 : decode cX2_waitsUnsought 17 = .ok (.iconst 1, 1) := by decide +kernel
theorem dX2_waitsUnsought_18 : decode cX2_waitsUnsought 18 = .ok (.goto 4, 3) := by decide +kernel
theorem dX2_waitsUnsought_21 : decode cX2_waitsUnsought 21 = .ok (.iconst 0, 1) := by decide +kernel
theorem dX2_waitsUnsought_22 : decode cX2_waitsUnsought 22 = .ok (.ireturn, 1) := by decide +kernel
theorem dX2_isCalledByAnother_0 : decode cX2_isCalledByAnother 0 = .ok (.aload_n 0, 1) := by decide +kernel
theorem dX2_isCalledByAnother_1 : decode cX2_isCalledByAnother 1 = .ok (.getfield 9, 3) := by decide +kernel
theorem dX2_isCalledByAnother_4 : decode cX2_isCalledByAnother 4 = .ok (.iconst 5, 1) := by decide +kernel
theorem dX2_isCalledByAnother_5 : decode cX2_isCalledByAnother 5 = .ok (.if_icmp .eq 12, 3) := by decide +kernel
theorem dX2_isCalledByAnother_8 : decode cX2_isCalledByAnother 8 = .ok (.aload_n 0, 1) := by decide +kernel
theorem dX2_isCalledByAnother_9 : decode cX2_isCalledByAnother 9 = .ok (.getfield 9, 3) := by decide +kernel
theorem dX2_isCalledByAnother_12 : decode cX2_isCalledByAnother 12 = .ok (.bipush 7, 2) := by decide +kernel
theorem dX2_isCalledByAnother_14 : decode cX2_isCalledByAnother 14 = .ok (.if_icmp .ne 7, 3) := by decide +kernel
theorem dX2_isCalledByAnother_17 : decode cX2_isCalledByAnother 17 = .ok (.iconst 1, 1) := by decide +kernel
theorem dX2_isCalledByAnother_18 : decode cX2_isCalledByAnother 18 = .ok (.goto 4, 3) := by decide +kernel
theorem dX2_isCalledByAnother_21 : decode cX2_isCalledByAnother 21 = .ok (.iconst 0, 1) := by decide +kernel
theorem dX2_isCalledByAnother_22 : decode cX2_isCalledByAnother 22 = .ok (.ireturn, 1) := by decide +kernel
theorem dX2_callsAnother_0 : decode cX2_callsAnother 0 = .ok (.aload_n 0, 1) := by decide +kernel
theorem dX2_callsAnother_1 : decode cX2_callsAnother 1 = .ok (.getfield 9, 3) := by decide +kernel
theorem dX2_callsAnother_4 : decode cX2_callsAnother 4 = .ok (.iconst 4, 1) := by decide +kernel
theorem dX2_callsAnother_5 : decode cX2_callsAnother 5 = .ok (.if_icmp .eq 12, 3) := by decide +kernel
theorem dX2_callsAnother_8 : decode cX2_callsAnother 8 = .ok (.aload_n 0, 1) := by decide +kernel
theorem dX2_callsAnother_9 : decode cX2_callsAnother 9 = .ok (.getfield 9, 3) := by decide +kernel
theorem dX2_callsAnother_12 : decode cX2_callsAnother 12 = .ok (.bipush 6, 2) := by decide +kernel
theorem dX2_callsAnother_14 : decode cX2_callsAnother 14 = .ok (.if_icmp .ne 7, 3) := by decide +kernel
theorem dX2_callsAnother_17 : decode cX2_callsAnother 17 = .ok (.iconst 1, 1) := by decide +kernel
theorem dX2_callsAnother_18 : decode cX2_callsAnother 18 = .ok (.goto 4, 3) := by decide +kernel
theorem dX2_callsAnother_21 : decode cX2_callsAnother 21 = .ok (.iconst 0, 1) := by decide +kernel
theorem dX2_callsAnother_22 : decode cX2_callsAnother 22 = .ok (.ireturn, 1) := by decide +kernel
theorem dX2_appendDigit_0 : decode cX2_appendDigit 0 = .ok (.aload_n 0, 1) := by decide +kernel
theorem dX2_appendDigit_1 : decode cX2_appendDigit 1 = .ok (.dup, 1) := by decide +kernel
theorem dX2_appendDigit_2 : decode cX2_appendDigit 2 = .ok (.getfield 25, 3) := by decide +kernel
theorem dX2_appendDigit_5 : decode cX2_appendDigit 5 = .ok (.iload_n 1, 1) := by decide +kernel
theorem dX2_appendDigit_6 : decode cX2_appendDigit 6 = .ok (.iconst 4, 1) := by decide +kernel
theorem dX2_appendDigit_7 : decode cX2_appendDigit 7 = .ok (.aload_n 0, 1) := by decide +kernel
theorem dX2_appendDigit_8 : decode cX2_appendDigit 8 = .ok (.getfield 28, 3) := by decide +kernel
theorem dX2_appendDigit_11 : decode cX2_appendDigit 11 = .ok (.imul, 1) := by decide +kernel
theorem dX2_appendDigit_12 : decode cX2_appendDigit 12 = .ok (.ishl, 1) := by decide +kernel
theorem dX2_appendDigit_13 : decode cX2_appendDigit 13 = .ok (.ior, 1) := by decide +kernel
theorem dX2_appendDigit_14 : decode cX2_appendDigit 14 = .ok (.putfield 25, 3) := by decide +kernel
theorem dX2_appendDigit_17 : decode cX2_appendDigit 17 = .ok (.aload_n 0, 1) := by decide +kernel
theorem dX2_appendDigit_18 : decode cX2_appendDigit 18 = .ok (.dup, 1) := by decide +kernel
theorem dX2_appendDigit_19 : decode cX2_appendDigit 19 = .ok (.getfield 28, 3) := by decide +kernel
theorem dX2_appendDigit_22 : decode cX2_appendDigit 22 = .ok (.iconst 1, 1) := by decide +kernel
theorem dX2_appendDigit_23 : decode cX2_appendDigit 23 = .ok (.iadd, 1) := by decide +kernel
theorem dX2_appendDigit_24 : decode cX2_appendDigit 24 = .ok (.putfield 28, 3) := by decide +kernel
theorem dX2_appendDigit_27 : decode cX2_appendDigit 27 = .ok (.return_, 1) := by decide +kernel
theorem dX2_takePulses_0 : decode cX2_takePulses 0 = .ok (.aload_n 0, 1) := by decide +kernel
theorem dX2_takePulses_1 : decode cX2_takePulses 1 = .ok (.getfield 25, 3) := by decide +kernel
theorem dX2_takePulses_4 : decode cX2_takePulses 4 = .ok (.bipush 15, 2) := by decide +kernel
theorem dX2_takePulses_6 : decode cX2_takePulses 6 = .ok (.iand, 1) := by decide +kernel
theorem dX2_takePulses_7 : decode cX2_takePulses 7 = .ok (.istore_n 1, 1) := by decide +kernel
theorem dX2_takePulses_8 : decode cX2_takePulses 8 = .ok (.aload_n 0, 1) := by decide +kernel
theorem dX2_takePulses_9 : decode cX2_takePulses 9 = .ok (.dup, 1) := by decide +kernel
theorem dX2_takePulses_10 : decode cX2_takePulses 10 = .ok (.getfield 25, 3) := by decide +kernel
theorem dX2_takePulses_13 : decode cX2_takePulses 13 = .ok (.iconst 4, 1) := by decide +kernel
theorem dX2_takePulses_14 : decode cX2_takePulses 14 = .ok (.iushr, 1) := by decide +kernel
theorem dX2_takePulses_15 : decode cX2_takePulses 15 = .ok (.putfield 25, 3) := by decide +kernel
theorem dX2_takePulses_18 : decode cX2_takePulses 18 = .ok (.aload_n 0, 1) := by decide +kernel
theorem dX2_takePulses_19 : decode cX2_takePulses 19 = .ok (.dup, 1) := by decide +kernel
theorem dX2_takePulses_20 : decode cX2_takePulses 20 = .ok (.getfield 28, 3) := by decide +kernel
theorem dX2_takePulses_23 : decode cX2_takePulses 23 = .ok (.iconst 1, 1) := by decide +kernel
theorem dX2_takePulses_24 : decode cX2_takePulses 24 = .ok (.isub, 1) := by decide +kernel
theorem dX2_takePulses_25 : decode cX2_takePulses 25 = .ok (.putfield 28, 3) := by decide +kernel
theorem dX2_takePulses_28 : decode cX2_takePulses 28 = .ok (.iload_n 1, 1) := by decide +kernel
theorem dX2_takePulses_29 : decode cX2_takePulses 29 = .ok (.ifCond .ne 8, 3) := by decide +kernel
theorem dX2_takePulses_32 : decode cX2_takePulses 32 = .ok (.bipush 10, 2) := by decide +kernel
theorem dX2_takePulses_34 : decode cX2_takePulses 34 = .ok (.goto 4, 3) := by decide +kernel
theorem dX2_takePulses_37 : decode cX2_takePulses 37 = .ok (.iload_n 1, 1) := by decide +kernel
theorem dX2_takePulses_38 : decode cX2_takePulses 38 = .ok (.ireturn, 1) := by decide +kernel
theorem dX2_leaveCall_0 : decode cX2_leaveCall 0 = .ok (.aload_n 0, 1) := by decide +kernel
theorem dX2_leaveCall_1 : decode cX2_leaveCall 1 = .ok (.iload_n 1, 1) := by decide +kernel
theorem dX2_leaveCall_2 : decode cX2_leaveCall 2 = .ok (.putfield 9, 3) := by decide +kernel
theorem dX2_leaveCall_5 : decode cX2_leaveCall 5 = .ok (.aload_n 0, 1) := by decide +kernel
theorem dX2_leaveCall_6 : decode cX2_leaveCall 6 = .ok (.bipush (-6), 2) := by decide +kernel
theorem dX2_leaveCall_8 : decode cX2_leaveCall 8 = .ok (.putfield 31, 3) := by decide +kernel
theorem dX2_leaveCall_11 : decode cX2_leaveCall 11 = .ok (.aload_n 0, 1) := by decide +kernel
theorem dX2_leaveCall_12 : decode cX2_leaveCall 12 = .ok (.iconst 0, 1) := by decide +kernel
theorem dX2_leaveCall_13 : decode cX2_leaveCall 13 = .ok (.putfield 37, 3) := by decide +kernel
theorem dX2_leaveCall_16 : decode cX2_leaveCall 16 = .ok (.aload_n 0, 1) := by decide +kernel
theorem dX2_leaveCall_17 : decode cX2_leaveCall 17 = .ok (.iconst 0, 1) := by decide +kernel
theorem dX2_leaveCall_18 : decode cX2_leaveCall 18 = .ok (.putfield 25, 3) := by decide +kernel
theorem dX2_leaveCall_21 : decode cX2_leaveCall 21 = .ok (.aload_n 0, 1) := by decide +kernel
theorem dX2_leaveCall_22 : decode cX2_leaveCall 22 = .ok (.iconst 0, 1) := by decide +kernel
theorem dX2_leaveCall_23 : decode cX2_leaveCall 23 = .ok (.putfield 28, 3) := by decide +kernel
theorem dX2_leaveCall_26 : decode cX2_leaveCall 26 = .ok (.return_, 1) := by decide +kernel
theorem dX2_waitParked_0 : decode cX2_waitParked 0 = .ok (.aload_n 0, 1) := by decide +kernel
theorem dX2_waitParked_1 : decode cX2_waitParked 1 = .ok (.getfield 9, 3) := by decide +kernel
theorem dX2_waitParked_4 : decode cX2_waitParked 4 = .ok (.bipush 10, 2) := by decide +kernel
theorem dX2_waitParked_6 : decode cX2_waitParked 6 = .ok (.if_icmp .eq 4, 3) := by decide +kernel
theorem dX2_waitParked_9 : decode cX2_waitParked 9 = .ok (.return_, 1) := by decide +kernel
theorem dX2_waitParked_10 : decode cX2_waitParked 10 = .ok (.aload_n 0, 1) := by decide +kernel
theorem dX2_waitParked_11 : decode cX2_waitParked 11 = .ok (.dup, 1) := by decide +kernel
theorem dX2_waitParked_12 : decode cX2_waitParked 12 = .ok (.getfield 37, 3) := by decide +kernel
theorem dX2_waitParked_15 : decode cX2_waitParked 15 = .ok (.iconst 1, 1) := by decide +kernel
theorem dX2_waitParked_16 : decode cX2_waitParked 16 = .ok (.iadd, 1) := by decide +kernel
theorem dX2_waitParked_17 : decode cX2_waitParked 17 = .ok (.putfield 37, 3) := by decide +kernel
theorem dX2_waitParked_20 : decode cX2_waitParked 20 = .ok (.aload_n 0, 1) := by decide +kernel
theorem dX2_waitParked_21 : decode cX2_waitParked 21 = .ok (.getfield 37, 3) := by decide +kernel
theorem dX2_waitParked_24 : decode cX2_waitParked 24 = .ok (.iload_n 1, 1) := by decide +kernel
theorem dX2_waitParked_25 : decode cX2_waitParked 25 = .ok (.if_icmp .lt 14, 3) := by decide +kernel
theorem dX2_waitParked_28 : decode cX2_waitParked 28 = .ok (.aload_n 0, 1) := by decide +kernel
theorem dX2_waitParked_29 : decode cX2_waitParked 29 = .ok (.bipush 11, 2) := by decide +kernel
theorem dX2_waitParked_31 : decode cX2_waitParked 31 = .ok (.putfield 9, 3) := by decide +kernel
theorem dX2_waitParked_34 : decode cX2_waitParked 34 = .ok (.aload_n 0, 1) := by decide +kernel
theorem dX2_waitParked_35 : decode cX2_waitParked 35 = .ok (.iconst 0, 1) := by decide +kernel
theorem dX2_waitParked_36 : decode cX2_waitParked 36 = .ok (.putfield 37, 3) := by decide +kernel
theorem dX2_waitParked_39 : decode cX2_waitParked 39 = .ok (.return_, 1) := by decide +kernel
theorem dX3_init_0 : decode cX3_init 0 = .ok (.aload_n 0, 1) := by decide +kernel
theorem dX3_init_1 : decode cX3_init 1 = .ok (.invokespecial 3, 3) := by decide +kernel
theorem dX3_init_4 : decode cX3_init 4 = .ok (.aload_n 0, 1) := by decide +kernel
theorem dX3_init_5 : decode cX3_init 5 = .ok (.bipush 60, 2) := by decide +kernel
theorem dX3_init_7 : decode cX3_init 7 = .ok (.newarray .int, 2) := by decide +kernel
theorem dX3_init_9 : decode cX3_init 9 = .ok (.putfield 9, 3) := by decide +kernel
theorem dX3_init_12 : decode cX3_init 12 = .ok (.aload_n 0, 1) := by decide +kernel
theorem dX3_init_13 : decode cX3_init 13 = .ok (.iconst 0, 1) := by decide +kernel
theorem dX3_init_14 : decode cX3_init 14 = .ok (.putfield 15, 3) := by decide +kernel
theorem dX3_init_17 : decode cX3_init 17 = .ok (.return_, 1) := by decide +kernel
theorem dX3_codeAt_0 : decode cX3_codeAt 0 = .ok (.iload_n 1, 1) := by decide +kernel
theorem dX3_codeAt_1 : decode cX3_codeAt 1 = .ok (.ifCond .lt 29, 3) := by decide +kernel
theorem dX3_codeAt_4 : decode cX3_codeAt 4 = .ok (.iload_n 1, 1) := by decide +kernel
theorem dX3_codeAt_5 : decode cX3_codeAt 5 = .ok (.aload_n 0, 1) := by decide +kernel
theorem dX3_codeAt_6 : decode cX3_codeAt 6 = .ok (.getfield 15, 3) := by decide +kernel
theorem dX3_codeAt_9 : decode cX3_codeAt 9 = .ok (.if_icmp .ge 21, 3) := by decide +kernel
theorem dX3_codeAt_12 : decode cX3_codeAt 12 = .ok (.iload_n 1, 1) := by decide +kernel
theorem dX3_codeAt_13 : decode cX3_codeAt 13 = .ok (.aload_n 0, 1) := by decide +kernel
theorem dX3_codeAt_14 : decode cX3_codeAt 14 = .ok (.getfield 9, 3) := by decide +kernel
theorem dX3_codeAt_17 : decode cX3_codeAt 17 = .ok (.arraylength, 1) := by decide +kernel
theorem dX3_codeAt_18 : decode cX3_codeAt 18 = .ok (.if_icmp .ge 12, 3) := by decide +kernel
theorem dX3_codeAt_21 : decode cX3_codeAt 21 = .ok (.aload_n 0, 1) := by decide +kernel
theorem dX3_codeAt_22 : decode cX3_codeAt 22 = .ok (.getfield 9, 3) := by decide +kernel
theorem dX3_codeAt_25 : decode cX3_codeAt 25 = .ok (.iload_n 1, 1) := by decide +kernel
theorem dX3_codeAt_26 : decode cX3_codeAt 26 = .ok (.iaload, 1) := by decide +kernel
theorem dX3_codeAt_27 : decode cX3_codeAt 27 = .ok (.goto 4, 3) := by decide +kernel
theorem dX3_codeAt_30 : decode cX3_codeAt 30 = .ok (.iconst 0, 1) := by decide +kernel
theorem dX3_codeAt_31 : decode cX3_codeAt 31 = .ok (.ireturn, 1) := by decide +kernel
theorem dX3_append_0 : decode cX3_append 0 = .ok (.lload_n 1, 1) := by decide +kernel
theorem dX3_append_1 : decode cX3_append 1 = .ok (.invokestatic 19, 3) := by decide +kernel
theorem dX3_append_4 : decode cX3_append 4 = .ok (.istore_n 3, 1) := by decide +kernel
theorem dX3_append_5 : decode cX3_append 5 = .ok (.iload_n 3, 1) := by decide +kernel
theorem dX3_append_6 : decode cX3_append 6 = .ok (.ifCond .ne 6, 3) := by decide +kernel
theorem dX3_append_9 : decode cX3_append 9 = .ok (.bipush (-2), 2) := by decide +kernel
theorem dX3_append_11 : decode cX3_append 11 = .ok (.ireturn, 1) := by decide +kernel
theorem dX3_append_12 : decode cX3_append 12 = .ok (.aload_n 0, 1) := by decide +kernel
theorem dX3_append_13 : decode cX3_append 13 = .ok (.getfield 15, 3) := by decide +kernel
theorem dX3_append_16 : decode cX3_append 16 = .ok (.iload_n 3, 1) := by decide +kernel
theorem dX3_append_17 : decode cX3_append 17 = .ok (.iadd, 1) := by decide +kernel
theorem dX3_append_18 : decode cX3_append 18 = .ok (.bipush 60, 2) := by decide +kernel
theorem dX3_append_20 : decode cX3_append 20 = .ok (.if_icmp .le 6, 3) := by decide +kernel
theorem dX3_append_23 : decode cX3_append 23 = .ok (.bipush (-4), 2) := by decide +kernel
theorem dX3_append_25 : decode cX3_append 25 = .ok (.ireturn, 1) := by decide +kernel
theorem dX3_append_26 : decode cX3_append 26 = .ok (.iload_n 3, 1) := by decide +kernel
theorem dX3_append_27 : decode cX3_append 27 = .ok (.iconst 1, 1) := by decide +kernel
theorem dX3_append_28 : decode cX3_append 28 = .ok (.isub, 1) := by decide +kernel
theorem dX3_append_29 : decode cX3_append 29 = .ok (.istore 4, 2) := by decide +kernel
theorem dX3_append_31 : decode cX3_append 31 = .ok (.iload 4, 2) := by decide +kernel
theorem dX3_append_33 : decode cX3_append 33 = .ok (.ifCond .lt 25, 3) := by decide +kernel
theorem dX3_append_36 : decode cX3_append 36 = .ok (.aload_n 0, 1) := by decide +kernel
theorem dX3_append_37 : decode cX3_append 37 = .ok (.lload_n 1, 1) := by decide +kernel
theorem dX3_append_38 : decode cX3_append 38 = .ok (.bipush 8, 2) := by decide +kernel
theorem dX3_append_40 : decode cX3_append 40 = .ok (.iload 4, 2) := by decide +kernel
theorem dX3_append_42 : decode cX3_append 42 = .ok (.imul, 1) := by decide +kernel
theorem dX3_append_43 : decode cX3_append 43 = .ok (.lushr, 1) := by decide +kernel
theorem dX3_append_44 : decode cX3_append 44 = .ok (.l2i, 1) := by decide +kernel
theorem dX3_append_45 : decode cX3_append 45 = .ok (.sipush 255, 3) := by decide +kernel
theorem dX3_append_48 : decode cX3_append 48 = .ok (.iand, 1) := by decide +kernel
theorem dX3_append_49 : decode cX3_append 49 = .ok (.invokevirtual 23, 3) := by decide +kernel
theorem dX3_append_52 : decode cX3_append 52 = .ok (.iinc 4 (-1), 3) := by decide +kernel
theorem dX3_append_55 : decode cX3_append 55 = .ok (.goto (-24), 3) := by decide +kernel
theorem dX3_append_58 : decode cX3_append 58 = .ok (.aload_n 0, 1) := by decide +kernel
theorem dX3_append_59 : decode cX3_append 59 = .ok (.getfield 15, 3) := by decide +kernel
theorem dX3_append_62 : decode cX3_append 62 = .ok (.ireturn, 1) := by decide +kernel
theorem dX3_appendCode_0 : decode cX3_appendCode 0 = .ok (.aload_n 0, 1) := by decide +kernel
theorem dX3_appendCode_1 : decode cX3_appendCode 1 = .ok (.getfield 15, 3) := by decide +kernel
theorem dX3_appendCode_4 : decode cX3_appendCode 4 = .ok (.ifCond .lt 35, 3) := by decide +kernel
theorem dX3_appendCode_7 : decode cX3_appendCode 7 = .ok (.aload_n 0, 1) := by decide +kernel
theorem dX3_appendCode_8 : decode cX3_appendCode 8 = .ok (.getfield 15, 3) := by decide +kernel
theorem dX3_appendCode_11 : decode cX3_appendCode 11 = .ok (.aload_n 0, 1) := by decide +kernel
theorem dX3_appendCode_12 : decode cX3_appendCode 12 = .ok (.getfield 9, 3) := by decide +kernel
theorem dX3_appendCode_15 : decode cX3_appendCode 15 = .ok (.arraylength, 1) := by decide +kernel
theorem dX3_appendCode_16 : decode cX3_appendCode 16 = .ok (.if_icmp .ge 23, 3) := by decide +kernel
theorem dX3_appendCode_19 : decode cX3_appendCode 19 = .ok (.aload_n 0, 1) := by decide +kernel
theorem dX3_appendCode_20 : decode cX3_appendCode 20 = .ok (.getfield 9, 3) := by decide +kernel
theorem dX3_appendCode_23 : decode cX3_appendCode 23 = .ok (.aload_n 0, 1) := by decide +kernel
theorem dX3_appendCode_24 : decode cX3_appendCode 24 = .ok (.getfield 15, 3) := by decide +kernel
theorem dX3_appendCode_27 : decode cX3_appendCode 27 = .ok (.iload_n 1, 1) := by decide +kernel
theorem dX3_appendCode_28 : decode cX3_appendCode 28 = .ok (.iastore, 1) := by decide +kernel
theorem dX3_appendCode_29 : decode cX3_appendCode 29 = .ok (.aload_n 0, 1) := by decide +kernel
theorem dX3_appendCode_30 : decode cX3_appendCode 30 = .ok (.dup, 1) := by decide +kernel
theorem dX3_appendCode_31 : decode cX3_appendCode 31 = .ok (.getfield 15, 3) := by decide +kernel
theorem dX3_appendCode_34 : decode cX3_appendCode 34 = .ok (.iconst 1, 1) := by decide +kernel
theorem dX3_appendCode_35 : decode cX3_appendCode 35 = .ok (.iadd, 1) := by decide +kernel
theorem dX3_appendCode_36 : decode cX3_appendCode 36 = .ok (.putfield 15, 3) := by decide +kernel
theorem dX3_appendCode_39 : decode cX3_appendCode 39 = .ok (.return_, 1) := by decide +kernel
theorem dX3_countOf_0 : decode cX3_countOf 0 = .ok (.iconst 0, 1) := by decide +kernel
theorem dX3_countOf_1 : decode cX3_countOf 1 = .ok (.istore_n 2, 1) := by decide +kernel
theorem dX3_countOf_2 : decode cX3_countOf 2 = .ok (.lload_n 0, 1) := by decide +kernel
theorem dX3_countOf_3 : decode cX3_countOf 3 = .ok (.lstore_n 3, 1) := by decide +kernel
theorem dX3_countOf_4 : decode cX3_countOf 4 = .ok (.iconst 0, 1) := by decide +kernel
theorem dX3_countOf_5 : decode cX3_countOf 5 = .ok (.istore 5, 2) := by decide +kernel
theorem dX3_countOf_7 : decode cX3_countOf 7 = .ok (.iload 5, 2) := by decide +kernel
theorem dX3_countOf_9 : decode cX3_countOf 9 = .ok (.bipush 8, 2) := by decide +kernel
theorem dX3_countOf_11 : decode cX3_countOf 11 = .ok (.if_icmp .ge 41, 3) := by decide +kernel
theorem dX3_countOf_14 : decode cX3_countOf 14 = .ok (.lload_n 3, 1) := by decide +kernel
theorem dX3_countOf_15 : decode cX3_countOf 15 = .ok (.lconst 0, 1) := by decide +kernel
theorem dX3_countOf_16 : decode cX3_countOf 16 = .ok (.lcmp, 1) := by decide +kernel
theorem dX3_countOf_17 : decode cX3_countOf 17 = .ok (.ifCond .eq 35, 3) := by decide +kernel
theorem dX3_countOf_20 : decode cX3_countOf 20 = .ok (.lload_n 3, 1) := by decide +kernel
theorem dX3_countOf_21 : decode cX3_countOf 21 = .ok (.l2i, 1) := by decide +kernel
theorem dX3_countOf_22 : decode cX3_countOf 22 = .ok (.sipush 255, 3) := by decide +kernel
theorem dX3_countOf_25 : decode cX3_countOf 25 = .ok (.iand, 1) := by decide +kernel
theorem dX3_countOf_26 : decode cX3_countOf 26 = .ok (.bipush 33, 2) := by decide +kernel
theorem dX3_countOf_28 : decode cX3_countOf 28 = .ok (.bipush 126, 2) := by decide +kernel
theorem dX3_countOf_30 : decode cX3_countOf 30 = .ok (.invokestatic 27, 3) := by decide +kernel
theorem dX3_countOf_33 : decode cX3_countOf 33 = .ok (.ifCond .ne 5, 3) := by decide +kernel
theorem dX3_countOf_36 : decode cX3_countOf 36 = .ok (.iconst 0, 1) := by decide +kernel
theorem dX3_countOf_37 : decode cX3_countOf 37 = .ok (.ireturn, 1) := by decide +kernel
theorem dX3_countOf_38 : decode cX3_countOf 38 = .ok (.iinc 2 1, 3) := by decide +kernel
theorem dX3_countOf_41 : decode cX3_countOf 41 = .ok (.lload_n 3, 1) := by decide +kernel
theorem dX3_countOf_42 : decode cX3_countOf 42 = .ok (.bipush 8, 2) := by decide +kernel
theorem dX3_countOf_44 : decode cX3_countOf 44 = .ok (.lushr, 1) := by decide +kernel
theorem dX3_countOf_45 : decode cX3_countOf 45 = .ok (.lstore_n 3, 1) := by decide +kernel
theorem dX3_countOf_46 : decode cX3_countOf 46 = .ok (.iinc 5 1, 3) := by decide +kernel
theorem dX3_countOf_49 : decode cX3_countOf 49 = .ok (.goto (-42), 3) := by decide +kernel
theorem dX3_countOf_52 : decode cX3_countOf 52 = .ok (.iload_n 2, 1) := by decide +kernel
theorem dX3_countOf_53 : decode cX3_countOf 53 = .ok (.ireturn, 1) := by decide +kernel
theorem dX3_firstFault_0 : decode cX3_firstFault 0 = .ok (.iconst 0, 1) := by decide +kernel
theorem dX3_firstFault_1 : decode cX3_firstFault 1 = .ok (.istore_n 1, 1) := by decide +kernel
theorem dX3_firstFault_2 : decode cX3_firstFault 2 = .ok (.iconst 0, 1) := by decide +kernel
theorem dX3_firstFault_3 : decode cX3_firstFault 3 = .ok (.istore_n 2, 1) := by decide +kernel
theorem dX3_firstFault_4 : decode cX3_firstFault 4 = .ok (.iconst 0, 1) := by decide +kernel
theorem dX3_firstFault_5 : decode cX3_firstFault 5 = .ok (.istore_n 3, 1) := by decide +kernel
theorem dX3_firstFault_6 : decode cX3_firstFault 6 = .ok (.iload_n 3, 1) := by decide +kernel
theorem dX3_firstFault_7 : decode cX3_firstFault 7 = .ok (.aload_n 0, 1) := by decide +kernel
theorem dX3_firstFault_8 : decode cX3_firstFault 8 = .ok (.getfield 15, 3) := by decide +kernel
theorem dX3_firstFault_11 : decode cX3_firstFault 11 = .ok (.if_icmp .ge 55, 3) := by decide +kernel
theorem dX3_firstFault_14 : decode cX3_firstFault 14 = .ok (.aload_n 0, 1) := by decide +kernel
theorem dX3_firstFault_15 : decode cX3_firstFault 15 = .ok (.iload_n 3, 1) := by decide +kernel
theorem dX3_firstFault_16 : decode cX3_firstFault 16 = .ok (.invokevirtual 31, 3) := by decide +kernel
theorem dX3_firstFault_19 : decode cX3_firstFault 19 = .ok (.istore 4, 2) := by decide +kernel
theorem dX3_firstFault_21 : decode cX3_firstFault 21 = .ok (.iload 4, 2) := by decide +kernel
theorem dX3_firstFault_23 : decode cX3_firstFault 23 = .ok (.invokestatic 35, 3) := by decide +kernel
theorem dX3_firstFault_26 : decode cX3_firstFault 26 = .ok (.ifCond .eq 16, 3) := by decide +kernel
theorem dX3_firstFault_29 : decode cX3_firstFault 29 = .ok (.bipush 10, 2) := by decide +kernel
theorem dX3_firstFault_31 : decode cX3_firstFault 31 = .ok (.iload_n 2, 1) := by decide +kernel
theorem dX3_firstFault_32 : decode cX3_firstFault 32 = .ok (.imul, 1) := by decide +kernel
theorem dX3_firstFault_33 : decode cX3_firstFault 33 = .ok (.iload 4, 2) := by decide +kernel
theorem dX3_firstFault_35 : decode cX3_firstFault 35 = .ok (.iadd, 1) := by decide +kernel
theorem dX3_firstFault_36 : decode cX3_firstFault 36 = .ok (.bipush 48, 2) := by decide +kernel
theorem dX3_firstFault_38 : decode cX3_firstFault 38 = .ok (.isub, 1) := by decide +kernel
theorem dX3_firstFault_39 : decode cX3_firstFault 39 = .ok (.goto 4, 3) := by decide +kernel
theorem dX3_firstFault_42 : decode cX3_firstFault 42 = .ok (.iconst 0, 1) := by decide +kernel
theorem dX3_firstFault_43 : decode cX3_firstFault 43 = .ok (.istore_n 2, 1) := by decide +kernel
theorem dX3_firstFault_44 : decode cX3_firstFault 44 = .ok (.iload_n 1, 1) := by decide +kernel
theorem dX3_firstFault_45 : decode cX3_firstFault 45 = .ok (.iload 4, 2) := by decide +kernel
theorem dX3_firstFault_47 : decode cX3_firstFault 47 = .ok (.iload_n 2, 1) := by decide +kernel
theorem dX3_firstFault_48 : decode cX3_firstFault 48 = .ok (.invokestatic 39, 3) := by decide +kernel
theorem dX3_firstFault_51 : decode cX3_firstFault 51 = .ok (.istore_n 1, 1) := by decide +kernel
theorem dX3_firstFault_52 : decode cX3_firstFault 52 = .ok (.iload_n 1, 1) := by decide +kernel
theorem dX3_firstFault_53 : decode cX3_firstFault 53 = .ok (.bipush 8, 2) := by decide +kernel
theorem dX3_firstFault_55 : decode cX3_firstFault 55 = .ok (.if_icmp .ne 5, 3) := by decide +kernel
theorem dX3_firstFault_58 : decode cX3_firstFault 58 = .ok (.iload_n 3, 1) := by decide +kernel
theorem dX3_firstFault_59 : decode cX3_firstFault 59 = .ok (.ireturn, 1) := by decide +kernel
theorem dX3_firstFault_60 : decode cX3_firstFault 60 = .ok (.iinc 3 1, 3) := by decide +kernel
theorem dX3_firstFault_63 : decode cX3_firstFault 63 = .ok (.goto (-57), 3) := by decide +kernel
theorem dX3_firstFault_66 : decode cX3_firstFault 66 = .ok (.iload_n 1, 1) := by decide +kernel
theorem dX3_firstFault_67 : decode cX3_firstFault 67 = .ok (.bipush 7, 2) := by decide +kernel
theorem dX3_firstFault_69 : decode cX3_firstFault 69 = .ok (.if_icmp .eq 14, 3) := by decide +kernel
theorem dX3_firstFault_72 : decode cX3_firstFault 72 = .ok (.iload_n 1, 1) := by decide +kernel
theorem dX3_firstFault_73 : decode cX3_firstFault 73 = .ok (.iconst 4, 1) := by decide +kernel
theorem dX3_firstFault_74 : decode cX3_firstFault 74 = .ok (.if_icmp .eq 9, 3) := by decide +kernel
theorem dX3_firstFault_77 : decode cX3_firstFault 77 = .ok (.iload_n 1, 1) := by decide +kernel
theorem dX3_firstFault_78 : decode cX3_firstFault 78 = .ok (.bipush 6, 2) := by decide +kernel
theorem dX3_firstFault_80 : decode cX3_firstFault 80 = .ok (.if_icmp .ne 7, 3) := by decide +kernel
theorem dX3_firstFault_83 : decode cX3_firstFault 83 = .ok (.iconst 1, 1) := by decide +kernel
theorem dX3_firstFault_84 : decode cX3_firstFault 84 = .ok (.goto 4, 3) := by decide +kernel
theorem dX3_firstFault_87 : decode cX3_firstFault 87 = .ok (.iconst 0, 1) := by decide +kernel
theorem dX3_firstFault_88 : decode cX3_firstFault 88 = .ok (.istore_n 3, 1) := by decide +kernel
theorem dX3_firstFault_89 : decode cX3_firstFault 89 = .ok (.iload_n 3, 1) := by decide +kernel
theorem dX3_firstFault_90 : decode cX3_firstFault 90 = .ok (.ifCond .eq 8, 3) := by decide +kernel
theorem dX3_firstFault_93 : decode cX3_firstFault 93 = .ok (.bipush (-6), 2) := by decide +kernel
theorem dX3_firstFault_95 : decode cX3_firstFault 95 = .ok (.goto 7, 3) := by decide +kernel
theorem dX3_firstFault_98 : decode cX3_firstFault 98 = .ok (.aload_n 0, 1) := by decide +kernel
theorem dX3_firstFault_99 : decode cX3_firstFault 99 = .ok (.getfield 15, 3) := by decide +kernel
theorem dX3_firstFault_102 : decode cX3_firstFault 102 = .ok (.ireturn, 1) := by decide +kernel
theorem dX3_awaitedBehind_0 : decode cX3_awaitedBehind 0 = .ok (.iload_n 0, 1) := by decide +kernel
theorem dX3_awaitedBehind_1 : decode cX3_awaitedBehind 1 = .ok (.tableswitch 151 0 6 #[43, 48, 65, 81, 95, 111, 130], 43) := by decide +kernel
theorem dX3_awaitedBehind_44 : decode cX3_awaitedBehind 44 = .ok (.iload_n 1, 1) := by decide +kernel
theorem dX3_awaitedBehind_45 : decode cX3_awaitedBehind 45 = .ok (.invokestatic 43, 3) := by decide +kernel
theorem dX3_awaitedBehind_48 : decode cX3_awaitedBehind 48 = .ok (.ireturn, 1) := by decide +kernel
theorem dX3_awaitedBehind_49 : decode cX3_awaitedBehind 49 = .ok (.iload_n 1, 1) := by decide +kernel
theorem dX3_awaitedBehind_50 : decode cX3_awaitedBehind 50 = .ok (.invokestatic 46, 3) := by decide +kernel
theorem dX3_awaitedBehind_53 : decode cX3_awaitedBehind 53 = .ok (.bipush (-6), 2) := by decide +kernel
theorem dX3_awaitedBehind_55 : decode cX3_awaitedBehind 55 = .ok (.if_icmp .ne 8, 3) := by decide +kernel
theorem dX3_awaitedBehind_58 : decode cX3_awaitedBehind 58 = .ok (.bipush 8, 2) := by decide +kernel
theorem dX3_awaitedBehind_60 : decode cX3_awaitedBehind 60 = .ok (.goto 5, 3) := by decide +kernel
theorem dX3_awaitedBehind_63 : decode cX3_awaitedBehind 63 = .ok (.bipush 7, 2) := by decide +kernel
theorem dX3_awaitedBehind_65 : decode cX3_awaitedBehind 65 = .ok (.ireturn, 1) := by decide +kernel
theorem dX3_awaitedBehind_66 : decode cX3_awaitedBehind 66 = .ok (.iload_n 1, 1) := by decide +kernel
theorem dX3_awaitedBehind_67 : decode cX3_awaitedBehind 67 = .ok (.invokestatic 46, 3) := by decide +kernel
theorem dX3_awaitedBehind_70 : decode cX3_awaitedBehind 70 = .ok (.bipush (-6), 2) := by decide +kernel
theorem dX3_awaitedBehind_72 : decode cX3_awaitedBehind 72 = .ok (.if_icmp .ne 8, 3) := by decide +kernel
theorem dX3_awaitedBehind_75 : decode cX3_awaitedBehind 75 = .ok (.bipush 8, 2) := by decide +kernel
theorem dX3_awaitedBehind_77 : decode cX3_awaitedBehind 77 = .ok (.goto 4, 3) := by decide +kernel
theorem dX3_awaitedBehind_80 : decode cX3_awaitedBehind 80 = .ok (.iconst 3, 1) := by decide +kernel
theorem dX3_awaitedBehind_81 : decode cX3_awaitedBehind 81 = .ok (.ireturn, 1) := by decide +kernel
theorem dX3_awaitedBehind_82 : decode cX3_awaitedBehind 82 = .ok (.iload_n 1, 1) := by decide +kernel
theorem dX3_awaitedBehind_83 : decode cX3_awaitedBehind 83 = .ok (.invokestatic 35, 3) := by decide +kernel
theorem dX3_awaitedBehind_86 : decode cX3_awaitedBehind 86 = .ok (.ifCond .eq 7, 3) := by decide +kernel
theorem dX3_awaitedBehind_89 : decode cX3_awaitedBehind 89 = .ok (.iconst 4, 1) := by decide +kernel
theorem dX3_awaitedBehind_90 : decode cX3_awaitedBehind 90 = .ok (.goto 5, 3) := by decide +kernel
theorem dX3_awaitedBehind_93 : decode cX3_awaitedBehind 93 = .ok (.bipush 8, 2) := by decide +kernel
theorem dX3_awaitedBehind_95 : decode cX3_awaitedBehind 95 = .ok (.ireturn, 1) := by decide +kernel
theorem dX3_awaitedBehind_96 : decode cX3_awaitedBehind 96 = .ok (.iload_n 1, 1) := by decide +kernel
theorem dX3_awaitedBehind_97 : decode cX3_awaitedBehind 97 = .ok (.invokestatic 35, 3) := by decide +kernel
theorem dX3_awaitedBehind_100 : decode cX3_awaitedBehind 100 = .ok (.ifCond .eq 7, 3) := by decide +kernel
theorem dX3_awaitedBehind_103 : decode cX3_awaitedBehind 103 = .ok (.iconst 4, 1) := by decide +kernel
theorem dX3_awaitedBehind_104 : decode cX3_awaitedBehind 104 = .ok (.goto 7, 3) := by decide +kernel
theorem dX3_awaitedBehind_107 : decode cX3_awaitedBehind 107 = .ok (.iload_n 1, 1) := by decide +kernel
theorem dX3_awaitedBehind_108 : decode cX3_awaitedBehind 108 = .ok (.invokestatic 49, 3) := by decide +kernel
theorem dX3_awaitedBehind_111 : decode cX3_awaitedBehind 111 = .ok (.ireturn, 1) := by decide +kernel
theorem dX3_awaitedBehind_112 : decode cX3_awaitedBehind 112 = .ok (.iload_n 2, 1) := by decide +kernel
theorem dX3_awaitedBehind_113 : decode cX3_awaitedBehind 113 = .ok (.iconst 1, 1) := by decide +kernel
theorem dX3_awaitedBehind_114 : decode cX3_awaitedBehind 114 = .ok (.sipush 200, 3) := by decide +kernel
theorem dX3_awaitedBehind_117 : decode cX3_awaitedBehind 117 = .ok (.invokestatic 27, 3) := by decide +kernel
theorem dX3_awaitedBehind_120 : decode cX3_awaitedBehind 120 = .ok (.ifCond .eq 8, 3) := by decide +kernel
theorem dX3_awaitedBehind_123 : decode cX3_awaitedBehind 123 = .ok (.bipush 6, 2) := by decide +kernel
theorem dX3_awaitedBehind_125 : decode cX3_awaitedBehind 125 = .ok (.goto 5, 3) := by decide +kernel
theorem dX3_awaitedBehind_128 : decode cX3_awaitedBehind 128 = .ok (.bipush 8, 2) := by decide +kernel
theorem dX3_awaitedBehind_130 : decode cX3_awaitedBehind 130 = .ok (.ireturn, 1) := by decide +kernel
theorem dX3_awaitedBehind_131 : decode cX3_awaitedBehind 131 = .ok (.iload_n 2, 1) := by decide +kernel
theorem dX3_awaitedBehind_132 : decode cX3_awaitedBehind 132 = .ok (.iconst 1, 1) := by decide +kernel
theorem dX3_awaitedBehind_133 : decode cX3_awaitedBehind 133 = .ok (.sipush 200, 3) := by decide +kernel
theorem dX3_awaitedBehind_136 : decode cX3_awaitedBehind 136 = .ok (.invokestatic 27, 3) := by decide +kernel
theorem dX3_awaitedBehind_139 : decode cX3_awaitedBehind 139 = .ok (.ifCond .eq 8, 3) := by decide +kernel
theorem dX3_awaitedBehind_142 : decode cX3_awaitedBehind 142 = .ok (.bipush 6, 2) := by decide +kernel
theorem dX3_awaitedBehind_144 : decode cX3_awaitedBehind 144 = .ok (.goto 7, 3) := by decide +kernel
theorem dX3_awaitedBehind_147 : decode cX3_awaitedBehind 147 = .ok (.iload_n 1, 1) := by decide +kernel
theorem dX3_awaitedBehind_148 : decode cX3_awaitedBehind 148 = .ok (.invokestatic 49, 3) := by decide +kernel
theorem dX3_awaitedBehind_151 : decode cX3_awaitedBehind 151 = .ok (.ireturn, 1) := by decide +kernel
theorem dX3_awaitedBehind_152 : decode cX3_awaitedBehind 152 = .ok (.iload_n 1, 1) := by decide +kernel
theorem dX3_awaitedBehind_153 : decode cX3_awaitedBehind 153 = .ok (.invokestatic 49, 3) := by decide +kernel
theorem dX3_awaitedBehind_156 : decode cX3_awaitedBehind 156 = .ok (.ireturn, 1) := by decide +kernel
theorem dX3_awaitedBehindLetter_0 : decode cX3_awaitedBehindLetter 0 = .ok (.iload_n 0, 1) := by decide +kernel
theorem dX3_awaitedBehindLetter_1 : decode cX3_awaitedBehindLetter 1 = .ok (.lookupswitch 49 #[(100, 45), (104, 43), (108, 43), (116, 47)], 43) := by decide +kernel
theorem dX3_awaitedBehindLetter_44 : decode cX3_awaitedBehindLetter 44 = .ok (.iconst 1, 1) := by decide +kernel
theorem dX3_awaitedBehindLetter_45 : decode cX3_awaitedBehindLetter 45 = .ok (.ireturn, 1) := by decide +kernel
theorem dX3_awaitedBehindLetter_46 : decode cX3_awaitedBehindLetter 46 = .ok (.iconst 2, 1) := by decide +kernel
theorem dX3_awaitedBehindLetter_47 : decode cX3_awaitedBehindLetter 47 = .ok (.ireturn, 1) := by decide +kernel
theorem dX3_awaitedBehindLetter_48 : decode cX3_awaitedBehindLetter 48 = .ok (.iconst 5, 1) := by decide +kernel
theorem dX3_awaitedBehindLetter_49 : decode cX3_awaitedBehindLetter 49 = .ok (.ireturn, 1) := by decide +kernel
theorem dX3_awaitedBehindLetter_50 : decode cX3_awaitedBehindLetter 50 = .ok (.bipush 8, 2) := by decide +kernel
theorem dX3_awaitedBehindLetter_52 : decode cX3_awaitedBehindLetter 52 = .ok (.ireturn, 1) := by decide +kernel
theorem dX3_awaitedBehindComma_0 : decode cX3_awaitedBehindComma 0 = .ok (.iload_n 0, 1) := by decide +kernel
theorem dX3_awaitedBehindComma_1 : decode cX3_awaitedBehindComma 1 = .ok (.bipush 44, 2) := by decide +kernel
theorem dX3_awaitedBehindComma_3 : decode cX3_awaitedBehindComma 3 = .ok (.if_icmp .ne 7, 3) := by decide +kernel
theorem dX3_awaitedBehindComma_6 : decode cX3_awaitedBehindComma 6 = .ok (.iconst 0, 1) := by decide +kernel
theorem dX3_awaitedBehindComma_7 : decode cX3_awaitedBehindComma 7 = .ok (.goto 5, 3) := by decide +kernel
theorem dX3_awaitedBehindComma_10 : decode cX3_awaitedBehindComma 10 = .ok (.bipush 8, 2) := by decide +kernel
theorem dX3_awaitedBehindComma_12 : decode cX3_awaitedBehindComma 12 = .ok (.ireturn, 1) := by decide +kernel
theorem dX3_beginsAnAct_0 : decode cX3_beginsAnAct 0 = .ok (.iload_n 1, 1) := by decide +kernel
theorem dX3_beginsAnAct_1 : decode cX3_beginsAnAct 1 = .ok (.ifCond .eq 15, 3) := by decide +kernel
theorem dX3_beginsAnAct_4 : decode cX3_beginsAnAct 4 = .ok (.aload_n 0, 1) := by decide +kernel
theorem dX3_beginsAnAct_5 : decode cX3_beginsAnAct 5 = .ok (.iload_n 1, 1) := by decide +kernel
theorem dX3_beginsAnAct_6 : decode cX3_beginsAnAct 6 = .ok (.iconst 1, 1) := by decide +kernel
theorem dX3_beginsAnAct_7 : decode cX3_beginsAnAct 7 = .ok (.isub, 1) := by decide +kernel
theorem dX3_beginsAnAct_8 : decode cX3_beginsAnAct 8 = .ok (.invokevirtual 31, 3) := by decide +kernel
theorem dX3_beginsAnAct_11 : decode cX3_beginsAnAct 11 = .ok (.bipush 44, 2) := by decide +kernel
theorem dX3_beginsAnAct_13 : decode cX3_beginsAnAct 13 = .ok (.if_icmp .ne 7, 3) := by decide +kernel
theorem dX3_beginsAnAct_16 : decode cX3_beginsAnAct 16 = .ok (.iconst 1, 1) := by decide +kernel
theorem dX3_beginsAnAct_17 : decode cX3_beginsAnAct 17 = .ok (.goto 4, 3) := by decide +kernel
theorem dX3_beginsAnAct_20 : decode cX3_beginsAnAct 20 = .ok (.iconst 0, 1) := by decide +kernel
theorem dX3_beginsAnAct_21 : decode cX3_beginsAnAct 21 = .ok (.ireturn, 1) := by decide +kernel
theorem dX3_lineAt_0 : decode cX3_lineAt 0 = .ok (.aload_n 0, 1) := by decide +kernel
theorem dX3_lineAt_1 : decode cX3_lineAt 1 = .ok (.iload_n 1, 1) := by decide +kernel
theorem dX3_lineAt_2 : decode cX3_lineAt 2 = .ok (.invokevirtual 31, 3) := by decide +kernel
theorem dX3_lineAt_5 : decode cX3_lineAt 5 = .ok (.invokestatic 46, 3) := by decide +kernel
theorem dX3_lineAt_8 : decode cX3_lineAt 8 = .ok (.ireturn, 1) := by decide +kernel
theorem dX3_lineOf_0 : decode cX3_lineOf 0 = .ok (.iload_n 0, 1) := by decide +kernel
theorem dX3_lineOf_1 : decode cX3_lineOf 1 = .ok (.invokestatic 35, 3) := by decide +kernel
theorem dX3_lineOf_4 : decode cX3_lineOf 4 = .ok (.ifCond .eq 8, 3) := by decide +kernel
theorem dX3_lineOf_7 : decode cX3_lineOf 7 = .ok (.iload_n 0, 1) := by decide +kernel
theorem dX3_lineOf_8 : decode cX3_lineOf 8 = .ok (.bipush 48, 2) := by decide +kernel
theorem dX3_lineOf_10 : decode cX3_lineOf 10 = .ok (.isub, 1) := by decide +kernel
theorem dX3_lineOf_11 : decode cX3_lineOf 11 = .ok (.ireturn, 1) := by decide +kernel
theorem dX3_lineOf_12 : decode cX3_lineOf 12 = .ok (.iload_n 0, 1) := by decide +kernel
theorem dX3_lineOf_13 : decode cX3_lineOf 13 = .ok (.bipush 97, 2) := by decide +kernel
theorem dX3_lineOf_15 : decode cX3_lineOf 15 = .ok (.bipush 102, 2) := by decide +kernel
theorem dX3_lineOf_17 : decode cX3_lineOf 17 = .ok (.invokestatic 27, 3) := by decide +kernel
theorem dX3_lineOf_20 : decode cX3_lineOf 20 = .ok (.ifCond .eq 13, 3) := by decide +kernel
theorem dX3_lineOf_23 : decode cX3_lineOf 23 = .ok (.iload_n 0, 1) := by decide +kernel
theorem dX3_lineOf_24 : decode cX3_lineOf 24 = .ok (.bipush 97, 2) := by decide +kernel
theorem dX3_lineOf_26 : decode cX3_lineOf 26 = .ok (.isub, 1) := by decide +kernel
theorem dX3_lineOf_27 : decode cX3_lineOf 27 = .ok (.bipush 10, 2) := by decide +kernel
theorem dX3_lineOf_29 : decode cX3_lineOf 29 = .ok (.iadd, 1) := by decide +kernel
theorem dX3_lineOf_30 : decode cX3_lineOf 30 = .ok (.goto 5, 3) := by decide +kernel
theorem dX3_lineOf_33 : decode cX3_lineOf 33 = .ok (.bipush (-6), 2) := by decide +kernel
theorem dX3_lineOf_35 : decode cX3_lineOf 35 = .ok (.ireturn, 1) := by decide +kernel
theorem dX3_numberAt_0 : decode cX3_numberAt 0 = .ok (.iconst 0, 1) := by decide +kernel
theorem dX3_numberAt_1 : decode cX3_numberAt 1 = .ok (.istore_n 2, 1) := by decide +kernel
theorem dX3_numberAt_2 : decode cX3_numberAt 2 = .ok (.iload_n 1, 1) := by decide +kernel
theorem dX3_numberAt_3 : decode cX3_numberAt 3 = .ok (.istore_n 3, 1) := by decide +kernel
theorem dX3_numberAt_4 : decode cX3_numberAt 4 = .ok (.iload_n 3, 1) := by decide +kernel
theorem dX3_numberAt_5 : decode cX3_numberAt 5 = .ok (.aload_n 0, 1) := by decide +kernel
theorem dX3_numberAt_6 : decode cX3_numberAt 6 = .ok (.getfield 15, 3) := by decide +kernel
theorem dX3_numberAt_9 : decode cX3_numberAt 9 = .ok (.if_icmp .ge 34, 3) := by decide +kernel
theorem dX3_numberAt_12 : decode cX3_numberAt 12 = .ok (.aload_n 0, 1) := by decide +kernel
theorem dX3_numberAt_13 : decode cX3_numberAt 13 = .ok (.iload_n 3, 1) := by decide +kernel
theorem dX3_numberAt_14 : decode cX3_numberAt 14 = .ok (.invokevirtual 31, 3) := by decide +kernel
theorem dX3_numberAt_17 : decode cX3_numberAt 17 = .ok (.invokestatic 35, 3) := by decide +kernel
theorem dX3_numberAt_20 : decode cX3_numberAt 20 = .ok (.ifCond .eq 23, 3) := by decide +kernel
theorem dX3_numberAt_23 : decode cX3_numberAt 23 = .ok (.bipush 10, 2) := by decide +kernel
theorem dX3_numberAt_25 : decode cX3_numberAt 25 = .ok (.iload_n 2, 1) := by decide +kernel
theorem dX3_numberAt_26 : decode cX3_numberAt 26 = .ok (.imul, 1) := by decide +kernel
theorem dX3_numberAt_27 : decode cX3_numberAt 27 = .ok (.aload_n 0, 1) := by decide +kernel
theorem dX3_numberAt_28 : decode cX3_numberAt 28 = .ok (.iload_n 3, 1) := by decide +kernel
theorem dX3_numberAt_29 : decode cX3_numberAt 29 = .ok (.invokevirtual 31, 3) := by decide +kernel
theorem dX3_numberAt_32 : decode cX3_numberAt 32 = .ok (.iadd, 1) := by decide +kernel
theorem dX3_numberAt_33 : decode cX3_numberAt 33 = .ok (.bipush 48, 2) := by decide +kernel
theorem dX3_numberAt_35 : decode cX3_numberAt 35 = .ok (.isub, 1) := by decide +kernel
theorem dX3_numberAt_36 : decode cX3_numberAt 36 = .ok (.istore_n 2, 1) := by decide +kernel
theorem dX3_numberAt_37 : decode cX3_numberAt 37 = .ok (.iinc 3 1, 3) := by decide +kernel
theorem dX3_numberAt_40 : decode cX3_numberAt 40 = .ok (.goto (-36), 3) := by decide +kernel
theorem dX3_numberAt_43 : decode cX3_numberAt 43 = .ok (.iload_n 2, 1) := by decide +kernel
theorem dX3_numberAt_44 : decode cX3_numberAt 44 = .ok (.ireturn, 1) := by decide +kernel
theorem dX3_isDigit_0 : decode cX3_isDigit 0 = .ok (.iload_n 0, 1) := by decide +kernel
theorem dX3_isDigit_1 : decode cX3_isDigit 1 = .ok (.bipush 48, 2) := by decide +kernel
theorem dX3_isDigit_3 : decode cX3_isDigit 3 = .ok (.bipush 57, 2) := by decide +kernel
theorem dX3_isDigit_5 : decode cX3_isDigit 5 = .ok (.invokestatic 27, 3) := by decide +kernel
theorem dX3_isDigit_8 : decode cX3_isDigit 8 = .ok (.ireturn, 1) := by decide +kernel
theorem dX4_init_0 : decode cX4_init 0 = .ok (.aload_n 0, 1) := by decide +kernel
theorem dX4_init_1 : decode cX4_init 1 = .ok (.invokespecial 1, 3) := by decide +kernel
theorem dX4_init_4 : decode cX4_init 4 = .ok (.aload_n 0, 1) := by decide +kernel
theorem dX4_init_5 : decode cX4_init 5 = .ok (.new 7, 3) := by decide +kernel
theorem dX4_init_8 : decode cX4_init 8 = .ok (.dup, 1) := by decide +kernel
theorem dX4_init_9 : decode cX4_init 9 = .ok (.invokespecial 9, 3) := by decide +kernel
theorem dX4_init_12 : decode cX4_init 12 = .ok (.putfield 10, 3) := by decide +kernel
theorem dX4_init_15 : decode cX4_init 15 = .ok (.aload_n 0, 1) := by decide +kernel
theorem dX4_init_16 : decode cX4_init 16 = .ok (.new 7, 3) := by decide +kernel
theorem dX4_init_19 : decode cX4_init 19 = .ok (.dup, 1) := by decide +kernel
theorem dX4_init_20 : decode cX4_init 20 = .ok (.invokespecial 9, 3) := by decide +kernel
theorem dX4_init_23 : decode cX4_init 23 = .ok (.putfield 16, 3) := by decide +kernel
theorem dX4_init_26 : decode cX4_init 26 = .ok (.aload_n 0, 1) := by decide +kernel
theorem dX4_init_27 : decode cX4_init 27 = .ok (.iconst 2, 1) := by decide +kernel
theorem dX4_init_28 : decode cX4_init 28 = .ok (.anewarray 7, 3) := by decide +kernel
theorem dX4_init_31 : decode cX4_init 31 = .ok (.putfield 19, 3) := by decide +kernel
theorem dX4_init_34 : decode cX4_init 34 = .ok (.aload_n 0, 1) := by decide +kernel
theorem dX4_init_35 : decode cX4_init 35 = .ok (.new 23, 3) := by decide +kernel
theorem dX4_init_38 : decode cX4_init 38 = .ok (.dup, 1) := by decide +kernel
theorem dX4_init_39 : decode cX4_init 39 = .ok (.invokespecial 25, 3) := by decide +kernel
theorem dX4_init_42 : decode cX4_init 42 = .ok (.putfield 26, 3) := by decide +kernel
theorem dX4_init_45 : decode cX4_init 45 = .ok (.return_, 1) := by decide +kernel
theorem dX4_setUp_0 : decode cX4_setUp 0 = .ok (.iload_n 1, 1) := by decide +kernel
theorem dX4_setUp_1 : decode cX4_setUp 1 = .ok (.iconst 1, 1) := by decide +kernel
theorem dX4_setUp_2 : decode cX4_setUp 2 = .ok (.iconst 4, 1) := by decide +kernel
theorem dX4_setUp_3 : decode cX4_setUp 3 = .ok (.invokestatic 30, 3) := by decide +kernel
theorem dX4_setUp_6 : decode cX4_setUp 6 = .ok (.ifCond .eq 12, 3) := by decide +kernel
theorem dX4_setUp_9 : decode cX4_setUp 9 = .ok (.iload_n 2, 1) := by decide +kernel
theorem dX4_setUp_10 : decode cX4_setUp 10 = .ok (.iconst 1, 1) := by decide +kernel
theorem dX4_setUp_11 : decode cX4_setUp 11 = .ok (.iconst 3, 1) := by decide +kernel
theorem dX4_setUp_12 : decode cX4_setUp 12 = .ok (.invokestatic 30, 3) := by decide +kernel
theorem dX4_setUp_15 : decode cX4_setUp 15 = .ok (.ifCond .ne 6, 3) := by decide +kernel
theorem dX4_setUp_18 : decode cX4_setUp 18 = .ok (.bipush (-2), 2) := by decide +kernel
theorem dX4_setUp_20 : decode cX4_setUp 20 = .ok (.ireturn, 1) := by decide +kernel
theorem dX4_setUp_21 : decode cX4_setUp 21 = .ok (.aload_n 0, 1) := by decide +kernel
theorem dX4_setUp_22 : decode cX4_setUp 22 = .ok (.getfield 10, 3) := by decide +kernel
theorem dX4_setUp_25 : decode cX4_setUp 25 = .ok (.getfield 34, 3) := by decide +kernel
theorem dX4_setUp_28 : decode cX4_setUp 28 = .ok (.istore_n 3, 1) := by decide +kernel
theorem dX4_setUp_29 : decode cX4_setUp 29 = .ok (.aload_n 0, 1) := by decide +kernel
theorem dX4_setUp_30 : decode cX4_setUp 30 = .ok (.getfield 10, 3) := by decide +kernel
theorem dX4_setUp_33 : decode cX4_setUp 33 = .ok (.iload_n 1, 1) := by decide +kernel
theorem dX4_setUp_34 : decode cX4_setUp 34 = .ok (.iload_n 2, 1) := by decide +kernel
theorem dX4_setUp_35 : decode cX4_setUp 35 = .ok (.invokevirtual 38, 3) := by decide +kernel
theorem dX4_setUp_38 : decode cX4_setUp 38 = .ok (.iload_n 3, 1) := by decide +kernel
theorem dX4_setUp_39 : decode cX4_setUp 39 = .ok (.ireturn, 1) := by decide +kernel
theorem dX4_set_0 : decode cX4_set 0 = .ok (.iload_n 1, 1) := by decide +kernel
theorem dX4_set_1 : decode cX4_set 1 = .ok (.iconst 0, 1) := by decide +kernel
theorem dX4_set_2 : decode cX4_set 2 = .ok (.getstatic 42, 3) := by decide +kernel
theorem dX4_set_5 : decode cX4_set 5 = .ok (.arraylength, 1) := by decide +kernel
theorem dX4_set_6 : decode cX4_set 6 = .ok (.iconst 1, 1) := by decide +kernel
theorem dX4_set_7 : decode cX4_set 7 = .ok (.isub, 1) := by decide +kernel
theorem dX4_set_8 : decode cX4_set 8 = .ok (.invokestatic 30, 3) := by decide +kernel
theorem dX4_set_11 : decode cX4_set 11 = .ok (.ifCond .eq 16, 3) := by decide +kernel
theorem dX4_set_14 : decode cX4_set 14 = .ok (.iload_n 2, 1) := by decide +kernel
theorem dX4_set_15 : decode cX4_set 15 = .ok (.iconst 1, 1) := by decide +kernel
theorem dX4_set_16 : decode cX4_set 16 = .ok (.getstatic 42, 3) := by decide +kernel
theorem dX4_set_19 : decode cX4_set 19 = .ok (.iload_n 1, 1) := by decide +kernel
theorem dX4_set_20 : decode cX4_set 20 = .ok (.iaload, 1) := by decide +kernel
theorem dX4_set_21 : decode cX4_set 21 = .ok (.invokestatic 30, 3) := by decide +kernel
theorem dX4_set_24 : decode cX4_set 24 = .ok (.ifCond .ne 6, 3) := by decide +kernel
theorem dX4_set_27 : decode cX4_set 27 = .ok (.bipush (-2), 2) := by decide +kernel
theorem dX4_set_29 : decode cX4_set 29 = .ok (.ireturn, 1) := by decide +kernel
theorem dX4_set_30 : decode cX4_set 30 = .ok (.aload_n 0, 1) := by decide +kernel
theorem dX4_set_31 : decode cX4_set 31 = .ok (.getfield 10, 3) := by decide +kernel
theorem dX4_set_34 : decode cX4_set 34 = .ok (.iload_n 1, 1) := by decide +kernel
theorem dX4_set_35 : decode cX4_set 35 = .ok (.iload_n 2, 1) := by decide +kernel
theorem dX4_set_36 : decode cX4_set 36 = .ok (.invokevirtual 46, 3) := by decide +kernel
theorem dX4_set_39 : decode cX4_set 39 = .ok (.ireturn, 1) := by decide +kernel
theorem dX4_lift_0 : decode cX4_lift 0 = .ok (.iload_n 1, 1) := by decide +kernel
theorem dX4_lift_1 : decode cX4_lift 1 = .ok (.invokestatic 50, 3) := by decide +kernel
theorem dX4_lift_4 : decode cX4_lift 4 = .ok (.ifCond .eq 14, 3) := by decide +kernel
theorem dX4_lift_7 : decode cX4_lift 7 = .ok (.aload_n 0, 1) := by decide +kernel
theorem dX4_lift_8 : decode cX4_lift 8 = .ok (.getfield 10, 3) := by decide +kernel
theorem dX4_lift_11 : decode cX4_lift 11 = .ok (.iload_n 1, 1) := by decide +kernel
theorem dX4_lift_12 : decode cX4_lift 12 = .ok (.invokevirtual 54, 3) := by decide +kernel
theorem dX4_lift_15 : decode cX4_lift 15 = .ok (.goto 4, 3) := by decide +kernel
theorem dX4_lift_18 : decode cX4_lift 18 = .ok (.iconst (-1), 1) := by decide +kernel
theorem dX4_lift_19 : decode cX4_lift 19 = .ok (.ireturn, 1) := by decide +kernel
theorem dX4_hang_0 : decode cX4_hang 0 = .ok (.iload_n 1, 1) := by decide +kernel
theorem dX4_hang_1 : decode cX4_hang 1 = .ok (.invokestatic 50, 3) := by decide +kernel
theorem dX4_hang_4 : decode cX4_hang 4 = .ok (.ifCond .eq 14, 3) := by decide +kernel
theorem dX4_hang_7 : decode cX4_hang 7 = .ok (.aload_n 0, 1) := by decide +kernel
theorem dX4_hang_8 : decode cX4_hang 8 = .ok (.getfield 10, 3) := by decide +kernel
theorem dX4_hang_11 : decode cX4_hang 11 = .ok (.iload_n 1, 1) := by decide +kernel
theorem dX4_hang_12 : decode cX4_hang 12 = .ok (.invokevirtual 58, 3) := by decide +kernel
theorem dX4_hang_15 : decode cX4_hang 15 = .ok (.goto 4, 3) := by decide +kernel
theorem dX4_hang_18 : decode cX4_hang 18 = .ok (.iconst (-1), 1) := by decide +kernel
theorem dX4_hang_19 : decode cX4_hang 19 = .ok (.ireturn, 1) := by decide +kernel
theorem dX4_dial_0 : decode cX4_dial 0 = .ok (.iload_n 1, 1) := by decide +kernel
theorem dX4_dial_1 : decode cX4_dial 1 = .ok (.invokestatic 50, 3) := by decide +kernel
theorem dX4_dial_4 : decode cX4_dial 4 = .ok (.ifCond .ne 5, 3) := by decide +kernel
theorem dX4_dial_7 : decode cX4_dial 7 = .ok (.iconst (-1), 1) := by decide +kernel
theorem dX4_dial_8 : decode cX4_dial 8 = .ok (.ireturn, 1) := by decide +kernel
theorem dX4_dial_9 : decode cX4_dial 9 = .ok (.iload_n 2, 1) := by decide +kernel
theorem dX4_dial_10 : decode cX4_dial 10 = .ok (.iconst 0, 1) := by decide +kernel
theorem dX4_dial_11 : decode cX4_dial 11 = .ok (.bipush 9, 2) := by decide +kernel
theorem dX4_dial_13 : decode cX4_dial 13 = .ok (.invokestatic 30, 3) := by decide +kernel
theorem dX4_dial_16 : decode cX4_dial 16 = .ok (.ifCond .eq 15, 3) := by decide +kernel
theorem dX4_dial_19 : decode cX4_dial 19 = .ok (.aload_n 0, 1) := by decide +kernel
theorem dX4_dial_20 : decode cX4_dial 20 = .ok (.getfield 10, 3) := by decide +kernel
theorem dX4_dial_23 : decode cX4_dial 23 = .ok (.iload_n 1, 1) := by decide +kernel
theorem dX4_dial_24 : decode cX4_dial 24 = .ok (.iload_n 2, 1) := by decide +kernel
theorem dX4_dial_25 : decode cX4_dial 25 = .ok (.invokevirtual 61, 3) := by decide +kernel
theorem dX4_dial_28 : decode cX4_dial 28 = .ok (.goto 5, 3) := by decide +kernel
theorem dX4_dial_31 : decode cX4_dial 31 = .ok (.bipush (-2), 2) := by decide +kernel
theorem dX4_dial_33 : decode cX4_dial 33 = .ok (.ireturn, 1) := by decide +kernel
theorem dX4_tick_0 : decode cX4_tick 0 = .ok (.iload_n 1, 1) := by decide +kernel
theorem dX4_tick_1 : decode cX4_tick 1 = .ok (.iconst 1, 1) := by decide +kernel
theorem dX4_tick_2 : decode cX4_tick 2 = .ok (.sipush 1000, 3) := by decide +kernel
theorem dX4_tick_5 : decode cX4_tick 5 = .ok (.invokestatic 30, 3) := by decide +kernel
theorem dX4_tick_8 : decode cX4_tick 8 = .ok (.ifCond .ne 6, 3) := by decide +kernel
theorem dX4_tick_11 : decode cX4_tick 11 = .ok (.bipush (-2), 2) := by decide +kernel
theorem dX4_tick_13 : decode cX4_tick 13 = .ok (.ireturn, 1) := by decide +kernel
theorem dX4_tick_14 : decode cX4_tick 14 = .ok (.aload_n 0, 1) := by decide +kernel
theorem dX4_tick_15 : decode cX4_tick 15 = .ok (.getfield 10, 3) := by decide +kernel
theorem dX4_tick_18 : decode cX4_tick 18 = .ok (.iload_n 1, 1) := by decide +kernel
theorem dX4_tick_19 : decode cX4_tick 19 = .ok (.invokevirtual 64, 3) := by decide +kernel
theorem dX4_tick_22 : decode cX4_tick 22 = .ok (.ifCond .ne 6, 3) := by decide +kernel
theorem dX4_tick_25 : decode cX4_tick 25 = .ok (.bipush (-5), 2) := by decide +kernel
theorem dX4_tick_27 : decode cX4_tick 27 = .ok (.ireturn, 1) := by decide +kernel
theorem dX4_tick_28 : decode cX4_tick 28 = .ok (.aload_n 0, 1) := by decide +kernel
theorem dX4_tick_29 : decode cX4_tick 29 = .ok (.getfield 10, 3) := by decide +kernel
theorem dX4_tick_32 : decode cX4_tick 32 = .ok (.iload_n 1, 1) := by decide +kernel
theorem dX4_tick_33 : decode cX4_tick 33 = .ok (.invokevirtual 67, 3) := by decide +kernel
theorem dX4_tick_36 : decode cX4_tick 36 = .ok (.aload_n 0, 1) := by decide +kernel
theorem dX4_tick_37 : decode cX4_tick 37 = .ok (.getfield 10, 3) := by decide +kernel
theorem dX4_tick_40 : decode cX4_tick 40 = .ok (.getfield 71, 3) := by decide +kernel
theorem dX4_tick_43 : decode cX4_tick 43 = .ok (.ireturn, 1) := by decide +kernel
theorem dX4_line_0 : decode cX4_line 0 = .ok (.iload_n 1, 1) := by decide +kernel
theorem dX4_line_1 : decode cX4_line 1 = .ok (.invokestatic 50, 3) := by decide +kernel
theorem dX4_line_4 : decode cX4_line 4 = .ok (.ifCond .eq 15, 3) := by decide +kernel
theorem dX4_line_7 : decode cX4_line 7 = .ok (.aload_n 0, 1) := by decide +kernel
theorem dX4_line_8 : decode cX4_line 8 = .ok (.getfield 10, 3) := by decide +kernel
theorem dX4_line_11 : decode cX4_line 11 = .ok (.iload_n 1, 1) := by decide +kernel
theorem dX4_line_12 : decode cX4_line 12 = .ok (.iload_n 2, 1) := by decide +kernel
theorem dX4_line_13 : decode cX4_line 13 = .ok (.invokevirtual 74, 3) := by decide +kernel
theorem dX4_line_16 : decode cX4_line 16 = .ok (.goto 4, 3) := by decide +kernel
theorem dX4_line_19 : decode cX4_line 19 = .ok (.iconst (-1), 1) := by decide +kernel
theorem dX4_line_20 : decode cX4_line 20 = .ok (.ireturn, 1) := by decide +kernel
theorem dX4_finder_0 : decode cX4_finder 0 = .ok (.iload_n 1, 1) := by decide +kernel
theorem dX4_finder_1 : decode cX4_finder 1 = .ok (.iconst 0, 1) := by decide +kernel
theorem dX4_finder_2 : decode cX4_finder 2 = .ok (.aload_n 0, 1) := by decide +kernel
theorem dX4_finder_3 : decode cX4_finder 3 = .ok (.getfield 10, 3) := by decide +kernel
theorem dX4_finder_6 : decode cX4_finder 6 = .ok (.getfield 34, 3) := by decide +kernel
theorem dX4_finder_9 : decode cX4_finder 9 = .ok (.iconst 1, 1) := by decide +kernel
theorem dX4_finder_10 : decode cX4_finder 10 = .ok (.isub, 1) := by decide +kernel
theorem dX4_finder_11 : decode cX4_finder 11 = .ok (.invokestatic 30, 3) := by decide +kernel
theorem dX4_finder_14 : decode cX4_finder 14 = .ok (.ifCond .eq 18, 3) := by decide +kernel
theorem dX4_finder_17 : decode cX4_finder 17 = .ok (.aload_n 0, 1) := by decide +kernel
theorem dX4_finder_18 : decode cX4_finder 18 = .ok (.getfield 10, 3) := by decide +kernel
theorem dX4_finder_21 : decode cX4_finder 21 = .ok (.iload_n 1, 1) := by decide +kernel
theorem dX4_finder_22 : decode cX4_finder 22 = .ok (.invokevirtual 77, 3) := by decide +kernel
theorem dX4_finder_25 : decode cX4_finder 25 = .ok (.iload_n 2, 1) := by decide +kernel
theorem dX4_finder_26 : decode cX4_finder 26 = .ok (.invokevirtual 81, 3) := by decide +kernel
theorem dX4_finder_29 : decode cX4_finder 29 = .ok (.goto 4, 3) := by decide +kernel
theorem dX4_finder_32 : decode cX4_finder 32 = .ok (.iconst (-1), 1) := by decide +kernel
theorem dX4_finder_33 : decode cX4_finder 33 = .ok (.ireturn, 1) := by decide +kernel
theorem dX4_connector_0 : decode cX4_connector 0 = .ok (.iload_n 1, 1) := by decide +kernel
theorem dX4_connector_1 : decode cX4_connector 1 = .ok (.iconst 1, 1) := by decide +kernel
theorem dX4_connector_2 : decode cX4_connector 2 = .ok (.iconst 4, 1) := by decide +kernel
theorem dX4_connector_3 : decode cX4_connector 3 = .ok (.invokestatic 30, 3) := by decide +kernel
theorem dX4_connector_6 : decode cX4_connector 6 = .ok (.ifCond .eq 20, 3) := by decide +kernel
theorem dX4_connector_9 : decode cX4_connector 9 = .ok (.iload_n 2, 1) := by decide +kernel
theorem dX4_connector_10 : decode cX4_connector 10 = .ok (.iconst 0, 1) := by decide +kernel
theorem dX4_connector_11 : decode cX4_connector 11 = .ok (.aload_n 0, 1) := by decide +kernel
theorem dX4_connector_12 : decode cX4_connector 12 = .ok (.getfield 10, 3) := by decide +kernel
theorem dX4_connector_15 : decode cX4_connector 15 = .ok (.getfield 86, 3) := by decide +kernel
theorem dX4_connector_18 : decode cX4_connector 18 = .ok (.iconst 1, 1) := by decide +kernel
theorem dX4_connector_19 : decode cX4_connector 19 = .ok (.isub, 1) := by decide +kernel
theorem dX4_connector_20 : decode cX4_connector 20 = .ok (.invokestatic 30, 3) := by decide +kernel
theorem dX4_connector_23 : decode cX4_connector 23 = .ok (.ifCond .ne 5, 3) := by decide +kernel
theorem dX4_connector_26 : decode cX4_connector 26 = .ok (.iconst (-1), 1) := by decide +kernel
theorem dX4_connector_27 : decode cX4_connector 27 = .ok (.ireturn, 1) := by decide +kernel
theorem dX4_connector_28 : decode cX4_connector 28 = .ok (.aload_n 0, 1) := by decide +kernel
theorem dX4_connector_29 : decode cX4_connector 29 = .ok (.getfield 10, 3) := by decide +kernel
theorem dX4_connector_32 : decode cX4_connector 32 = .ok (.iload_n 1, 1) := by decide +kernel
theorem dX4_connector_33 : decode cX4_connector 33 = .ok (.iload_n 2, 1) := by decide +kernel
theorem dX4_connector_34 : decode cX4_connector 34 = .ok (.invokevirtual 89, 3) := by decide +kernel
theorem dX4_connector_37 : decode cX4_connector 37 = .ok (.ireturn, 1) := by decide +kernel
theorem dX4_count_0 : decode cX4_count 0 = .ok (.iload_n 1, 1) := by decide +kernel
theorem dX4_count_1 : decode cX4_count 1 = .ok (.bipush 14, 2) := by decide +kernel
theorem dX4_count_3 : decode cX4_count 3 = .ok (.if_icmp .ne 13, 3) := by decide +kernel
theorem dX4_count_6 : decode cX4_count 6 = .ok (.aload_n 0, 1) := by decide +kernel
theorem dX4_count_7 : decode cX4_count 7 = .ok (.getfield 26, 3) := by decide +kernel
theorem dX4_count_10 : decode cX4_count 10 = .ok (.getfield 92, 3) := by decide +kernel
theorem dX4_count_13 : decode cX4_count 13 = .ok (.goto 11, 3) := by decide +kernel
theorem dX4_count_16 : decode cX4_count 16 = .ok (.aload_n 0, 1) := by decide +kernel
theorem dX4_count_17 : decode cX4_count 17 = .ok (.getfield 10, 3) := by decide +kernel
theorem dX4_count_20 : decode cX4_count 20 = .ok (.iload_n 1, 1) := by decide +kernel
theorem dX4_count_21 : decode cX4_count 21 = .ok (.invokevirtual 95, 3) := by decide +kernel
theorem dX4_count_24 : decode cX4_count 24 = .ok (.ireturn, 1) := by decide +kernel
theorem dX4_trace_0 : decode cX4_trace 0 = .ok (.iload_n 1, 1) := by decide +kernel
theorem dX4_trace_1 : decode cX4_trace 1 = .ok (.invokestatic 50, 3) := by decide +kernel
theorem dX4_trace_4 : decode cX4_trace 4 = .ok (.ifCond .ne 5, 3) := by decide +kernel
theorem dX4_trace_7 : decode cX4_trace 7 = .ok (.iconst (-1), 1) := by decide +kernel
theorem dX4_trace_8 : decode cX4_trace 8 = .ok (.ireturn, 1) := by decide +kernel
theorem dX4_trace_9 : decode cX4_trace 9 = .ok (.iload_n 2, 1) := by decide +kernel
theorem dX4_trace_10 : decode cX4_trace 10 = .ok (.iconst 0, 1) := by decide +kernel
theorem dX4_trace_11 : decode cX4_trace 11 = .ok (.iconst 2, 1) := by decide +kernel
theorem dX4_trace_12 : decode cX4_trace 12 = .ok (.invokestatic 30, 3) := by decide +kernel
theorem dX4_trace_15 : decode cX4_trace 15 = .ok (.ifCond .ne 6, 3) := by decide +kernel
theorem dX4_trace_18 : decode cX4_trace 18 = .ok (.bipush (-2), 2) := by decide +kernel
theorem dX4_trace_20 : decode cX4_trace 20 = .ok (.ireturn, 1) := by decide +kernel
theorem dX4_trace_21 : decode cX4_trace 21 = .ok (.aload_n 0, 1) := by decide +kernel
theorem dX4_trace_22 : decode cX4_trace 22 = .ok (.getfield 10, 3) := by decide +kernel
theorem dX4_trace_25 : decode cX4_trace 25 = .ok (.iload_n 1, 1) := by decide +kernel
theorem dX4_trace_26 : decode cX4_trace 26 = .ok (.iload_n 2, 1) := by decide +kernel
theorem dX4_trace_27 : decode cX4_trace 27 = .ok (.invokevirtual 96, 3) := by decide +kernel
theorem dX4_trace_30 : decode cX4_trace 30 = .ok (.ireturn, 1) := by decide +kernel
theorem dX4_until_0 : decode cX4_until 0 = .ok (.iload_n 1, 1) := by decide +kernel
theorem dX4_until_1 : decode cX4_until 1 = .ok (.invokestatic 50, 3) := by decide +kernel
theorem dX4_until_4 : decode cX4_until 4 = .ok (.ifCond .ne 5, 3) := by decide +kernel
theorem dX4_until_7 : decode cX4_until 7 = .ok (.iconst (-1), 1) := by decide +kernel
theorem dX4_until_8 : decode cX4_until 8 = .ok (.ireturn, 1) := by decide +kernel
theorem dX4_until_9 : decode cX4_until 9 = .ok (.iload_n 2, 1) := by decide +kernel
theorem dX4_until_10 : decode cX4_until 10 = .ok (.iconst 0, 1) := by decide +kernel
theorem dX4_until_11 : decode cX4_until 11 = .ok (.bipush 11, 2) := by decide +kernel
theorem dX4_until_13 : decode cX4_until 13 = .ok (.invokestatic 30, 3) := by decide +kernel
theorem dX4_until_16 : decode cX4_until 16 = .ok (.ifCond .eq 14, 3) := by decide +kernel
theorem dX4_until_19 : decode cX4_until 19 = .ok (.iload_n 3, 1) := by decide +kernel
theorem dX4_until_20 : decode cX4_until 20 = .ok (.iconst 0, 1) := by decide +kernel
theorem dX4_until_21 : decode cX4_until 21 = .ok (.sipush 1000, 3) := by decide +kernel
theorem dX4_until_24 : decode cX4_until 24 = .ok (.invokestatic 30, 3) := by decide +kernel
theorem dX4_until_27 : decode cX4_until 27 = .ok (.ifCond .ne 6, 3) := by decide +kernel
theorem dX4_until_30 : decode cX4_until 30 = .ok (.bipush (-2), 2) := by decide +kernel
theorem dX4_until_32 : decode cX4_until 32 = .ok (.ireturn, 1) := by decide +kernel
theorem dX4_until_33 : decode cX4_until 33 = .ok (.aload_n 0, 1) := by decide +kernel
theorem dX4_until_34 : decode cX4_until 34 = .ok (.getfield 16, 3) := by decide +kernel
theorem dX4_until_37 : decode cX4_until 37 = .ok (.aload_n 0, 1) := by decide +kernel
theorem dX4_until_38 : decode cX4_until 38 = .ok (.getfield 10, 3) := by decide +kernel
theorem dX4_until_41 : decode cX4_until 41 = .ok (.invokevirtual 99, 3) := by decide +kernel
theorem dX4_until_44 : decode cX4_until 44 = .ok (.aload_n 0, 1) := by decide +kernel
theorem dX4_until_45 : decode cX4_until 45 = .ok (.getfield 16, 3) := by decide +kernel
theorem dX4_until_48 : decode cX4_until 48 = .ok (.iload_n 1, 1) := by decide +kernel
theorem dX4_until_49 : decode cX4_until 49 = .ok (.iload_n 2, 1) := by decide +kernel
theorem dX4_until_50 : decode cX4_until 50 = .ok (.iload_n 3, 1) := by decide +kernel
theorem dX4_until_51 : decode cX4_until 51 = .ok (.invokevirtual 103, 3) := by decide +kernel
theorem dX4_until_54 : decode cX4_until 54 = .ok (.ireturn, 1) := by decide +kernel
theorem dX4_attempt_0 : decode cX4_attempt 0 = .ok (.iload_n 1, 1) := by decide +kernel
theorem dX4_attempt_1 : decode cX4_attempt 1 = .ok (.invokestatic 50, 3) := by decide +kernel
theorem dX4_attempt_4 : decode cX4_attempt 4 = .ok (.ifCond .eq 10, 3) := by decide +kernel
theorem dX4_attempt_7 : decode cX4_attempt 7 = .ok (.iload_n 2, 1) := by decide +kernel
theorem dX4_attempt_8 : decode cX4_attempt 8 = .ok (.invokestatic 50, 3) := by decide +kernel
theorem dX4_attempt_11 : decode cX4_attempt 11 = .ok (.ifCond .ne 5, 3) := by decide +kernel
theorem dX4_attempt_14 : decode cX4_attempt 14 = .ok (.iconst (-1), 1) := by decide +kernel
theorem dX4_attempt_15 : decode cX4_attempt 15 = .ok (.ireturn, 1) := by decide +kernel
theorem dX4_attempt_16 : decode cX4_attempt 16 = .ok (.iload_n 3, 1) := by decide +kernel
theorem dX4_attempt_17 : decode cX4_attempt 17 = .ok (.iconst 0, 1) := by decide +kernel
theorem dX4_attempt_18 : decode cX4_attempt 18 = .ok (.iconst 1, 1) := by decide +kernel
theorem dX4_attempt_19 : decode cX4_attempt 19 = .ok (.invokestatic 30, 3) := by decide +kernel
theorem dX4_attempt_22 : decode cX4_attempt 22 = .ok (.ifCond .ne 6, 3) := by decide +kernel
theorem dX4_attempt_25 : decode cX4_attempt 25 = .ok (.bipush (-2), 2) := by decide +kernel
theorem dX4_attempt_27 : decode cX4_attempt 27 = .ok (.ireturn, 1) := by decide +kernel
theorem dX4_attempt_28 : decode cX4_attempt 28 = .ok (.aload_n 0, 1) := by decide +kernel
theorem dX4_attempt_29 : decode cX4_attempt 29 = .ok (.getfield 10, 3) := by decide +kernel
theorem dX4_attempt_32 : decode cX4_attempt 32 = .ok (.iload_n 1, 1) := by decide +kernel
theorem dX4_attempt_33 : decode cX4_attempt 33 = .ok (.invokevirtual 107, 3) := by decide +kernel
theorem dX4_attempt_36 : decode cX4_attempt 36 = .ok (.getfield 111, 3) := by decide +kernel
theorem dX4_attempt_39 : decode cX4_attempt 39 = .ok (.ifCond .eq 6, 3) := by decide +kernel
theorem dX4_attempt_42 : decode cX4_attempt 42 = .ok (.bipush (-5), 2) := by decide +kernel
theorem dX4_attempt_44 : decode cX4_attempt 44 = .ok (.ireturn, 1) := by decide +kernel
theorem dX4_attempt_45 : decode cX4_attempt 45 = .ok (.aload_n 0, 1) := by decide +kernel
theorem dX4_attempt_46 : decode cX4_attempt 46 = .ok (.getfield 16, 3) := by decide +kernel
theorem dX4_attempt_49 : decode cX4_attempt 49 = .ok (.aload_n 0, 1) := by decide +kernel
theorem dX4_attempt_50 : decode cX4_attempt 50 = .ok (.getfield 10, 3) := by decide +kernel
theorem dX4_attempt_53 : decode cX4_attempt 53 = .ok (.invokevirtual 99, 3) := by decide +kernel
theorem dX4_attempt_56 : decode cX4_attempt 56 = .ok (.aload_n 0, 1) := by decide +kernel
theorem dX4_attempt_57 : decode cX4_attempt 57 = .ok (.getfield 16, 3) := by decide +kernel
theorem dX4_attempt_60 : decode cX4_attempt 60 = .ok (.iload_n 1, 1) := by decide +kernel
theorem dX4_attempt_61 : decode cX4_attempt 61 = .ok (.iload_n 2, 1) := by decide +kernel
theorem dX4_attempt_62 : decode cX4_attempt 62 = .ok (.invokevirtual 116, 3) := by decide +kernel
theorem dX4_attempt_65 : decode cX4_attempt 65 = .ok (.istore 4, 2) := by decide +kernel
theorem dX4_attempt_67 : decode cX4_attempt 67 = .ok (.iload_n 3, 1) := by decide +kernel
theorem dX4_attempt_68 : decode cX4_attempt 68 = .ok (.ifCond .ne 17, 3) := by decide +kernel
theorem dX4_attempt_71 : decode cX4_attempt 71 = .ok (.aload_n 0, 1) := by decide +kernel
theorem dX4_attempt_72 : decode cX4_attempt 72 = .ok (.getfield 16, 3) := by decide +kernel
theorem dX4_attempt_75 : decode cX4_attempt 75 = .ok (.iload_n 1, 1) := by decide +kernel
theorem dX4_attempt_76 : decode cX4_attempt 76 = .ok (.invokevirtual 107, 3) := by decide +kernel
theorem dX4_attempt_79 : decode cX4_attempt 79 = .ok (.getfield 111, 3) := by decide +kernel
theorem dX4_attempt_82 : decode cX4_attempt 82 = .ok (.goto 5, 3) := by decide +kernel
theorem dX4_attempt_85 : decode cX4_attempt 85 = .ok (.iload 4, 2) := by decide +kernel
theorem dX4_attempt_87 : decode cX4_attempt 87 = .ok (.ireturn, 1) := by decide +kernel
theorem dX4_put_0 : decode cX4_put 0 = .ok (.aload_n 0, 1) := by decide +kernel
theorem dX4_put_1 : decode cX4_put 1 = .ok (.getfield 26, 3) := by decide +kernel
theorem dX4_put_4 : decode cX4_put 4 = .ok (.lload_n 1, 1) := by decide +kernel
theorem dX4_put_5 : decode cX4_put 5 = .ok (.invokevirtual 119, 3) := by decide +kernel
theorem dX4_put_8 : decode cX4_put 8 = .ok (.ireturn, 1) := by decide +kernel
theorem dX4_wipe_0 : decode cX4_wipe 0 = .ok (.aload_n 0, 1) := by decide +kernel
theorem dX4_wipe_1 : decode cX4_wipe 1 = .ok (.getfield 26, 3) := by decide +kernel
theorem dX4_wipe_4 : decode cX4_wipe 4 = .ok (.getfield 92, 3) := by decide +kernel
theorem dX4_wipe_7 : decode cX4_wipe 7 = .ok (.istore_n 1, 1) := by decide +kernel
theorem dX4_wipe_8 : decode cX4_wipe 8 = .ok (.aload_n 0, 1) := by decide +kernel
theorem dX4_wipe_9 : decode cX4_wipe 9 = .ok (.getfield 26, 3) := by decide +kernel
theorem dX4_wipe_12 : decode cX4_wipe 12 = .ok (.iconst 0, 1) := by decide +kernel
theorem dX4_wipe_13 : decode cX4_wipe 13 = .ok (.putfield 92, 3) := by decide +kernel
theorem dX4_wipe_16 : decode cX4_wipe 16 = .ok (.iload_n 1, 1) := by decide +kernel
theorem dX4_wipe_17 : decode cX4_wipe 17 = .ok (.ireturn, 1) := by decide +kernel
theorem dX4_fault_0 : decode cX4_fault 0 = .ok (.aload_n 0, 1) := by decide +kernel
theorem dX4_fault_1 : decode cX4_fault 1 = .ok (.getfield 26, 3) := by decide +kernel
theorem dX4_fault_4 : decode cX4_fault 4 = .ok (.invokevirtual 123, 3) := by decide +kernel
theorem dX4_fault_7 : decode cX4_fault 7 = .ok (.ireturn, 1) := by decide +kernel
theorem dX4_carryOut_0 : decode cX4_carryOut 0 = .ok (.aload_n 0, 1) := by decide +kernel
theorem dX4_carryOut_1 : decode cX4_carryOut 1 = .ok (.getfield 26, 3) := by decide +kernel
theorem dX4_carryOut_4 : decode cX4_carryOut 4 = .ok (.invokevirtual 123, 3) := by decide +kernel
theorem dX4_carryOut_7 : decode cX4_carryOut 7 = .ok (.bipush (-6), 2) := by decide +kernel
theorem dX4_carryOut_9 : decode cX4_carryOut 9 = .ok (.if_icmp .eq 6, 3) := by decide +kernel
theorem dX4_carryOut_12 : decode cX4_carryOut 12 = .ok (.bipush (-3), 2) := by decide +kernel
theorem dX4_carryOut_14 : decode cX4_carryOut 14 = .ok (.ireturn, 1) := by decide +kernel
theorem dX4_carryOut_15 : decode cX4_carryOut 15 = .ok (.iconst 0, 1) := by decide +kernel
theorem dX4_carryOut_16 : decode cX4_carryOut 16 = .ok (.istore_n 1, 1) := by decide +kernel
theorem dX4_carryOut_17 : decode cX4_carryOut 17 = .ok (.iconst 0, 1) := by decide +kernel
theorem dX4_carryOut_18 : decode cX4_carryOut 18 = .ok (.istore_n 2, 1) := by decide +kernel
theorem dX4_carryOut_19 : decode cX4_carryOut 19 = .ok (.iload_n 2, 1) := by decide +kernel
theorem dX4_carryOut_20 : decode cX4_carryOut 20 = .ok (.aload_n 0, 1) := by decide +kernel
theorem dX4_carryOut_21 : decode cX4_carryOut 21 = .ok (.getfield 26, 3) := by decide +kernel
theorem dX4_carryOut_24 : decode cX4_carryOut 24 = .ok (.getfield 92, 3) := by decide +kernel
theorem dX4_carryOut_27 : decode cX4_carryOut 27 = .ok (.if_icmp .ge 34, 3) := by decide +kernel
theorem dX4_carryOut_30 : decode cX4_carryOut 30 = .ok (.aload_n 0, 1) := by decide +kernel
theorem dX4_carryOut_31 : decode cX4_carryOut 31 = .ok (.getfield 26, 3) := by decide +kernel
theorem dX4_carryOut_34 : decode cX4_carryOut 34 = .ok (.iload_n 2, 1) := by decide +kernel
theorem dX4_carryOut_35 : decode cX4_carryOut 35 = .ok (.invokevirtual 127, 3) := by decide +kernel
theorem dX4_carryOut_38 : decode cX4_carryOut 38 = .ok (.ifCond .eq 17, 3) := by decide +kernel
theorem dX4_carryOut_41 : decode cX4_carryOut 41 = .ok (.aload_n 0, 1) := by decide +kernel
theorem dX4_carryOut_42 : decode cX4_carryOut 42 = .ok (.iload_n 2, 1) := by decide +kernel
theorem dX4_carryOut_43 : decode cX4_carryOut 43 = .ok (.invokevirtual 130, 3) := by decide +kernel
theorem dX4_carryOut_46 : decode cX4_carryOut 46 = .ok (.ifCond .ne 6, 3) := by decide +kernel
theorem dX4_carryOut_49 : decode cX4_carryOut 49 = .ok (.goto 12, 3) := by decide +kernel
theorem dX4_carryOut_52 : decode cX4_carryOut 52 = .ok (.iinc 1 1, 3) := by decide +kernel
theorem dX4_carryOut_55 : decode cX4_carryOut 55 = .ok (.iinc 2 1, 3) := by decide +kernel
theorem dX4_carryOut_58 : decode cX4_carryOut 58 = .ok (.goto (-39), 3) := by decide +kernel
theorem dX4_carryOut_61 : decode cX4_carryOut 61 = .ok (.aload_n 0, 1) := by decide +kernel
theorem dX4_carryOut_62 : decode cX4_carryOut 62 = .ok (.getfield 26, 3) := by decide +kernel
theorem dX4_carryOut_65 : decode cX4_carryOut 65 = .ok (.iconst 0, 1) := by decide +kernel
theorem dX4_carryOut_66 : decode cX4_carryOut 66 = .ok (.putfield 92, 3) := by decide +kernel
theorem dX4_carryOut_69 : decode cX4_carryOut 69 = .ok (.iload_n 1, 1) := by decide +kernel
theorem dX4_carryOut_70 : decode cX4_carryOut 70 = .ok (.ireturn, 1) := by decide +kernel
theorem dX4_save_0 : decode cX4_save 0 = .ok (.iload_n 1, 1) := by decide +kernel
theorem dX4_save_1 : decode cX4_save 1 = .ok (.iconst 0, 1) := by decide +kernel
theorem dX4_save_2 : decode cX4_save 2 = .ok (.aload_n 0, 1) := by decide +kernel
theorem dX4_save_3 : decode cX4_save 3 = .ok (.getfield 19, 3) := by decide +kernel
theorem dX4_save_6 : decode cX4_save 6 = .ok (.arraylength, 1) := by decide +kernel
theorem dX4_save_7 : decode cX4_save 7 = .ok (.iconst 1, 1) := by decide +kernel
theorem dX4_save_8 : decode cX4_save 8 = .ok (.isub, 1) := by decide +kernel
theorem dX4_save_9 : decode cX4_save 9 = .ok (.invokestatic 30, 3) := by decide +kernel
theorem dX4_save_12 : decode cX4_save 12 = .ok (.ifCond .ne 6, 3) := by decide +kernel
theorem dX4_save_15 : decode cX4_save 15 = .ok (.bipush (-2), 2) := by decide +kernel
theorem dX4_save_17 : decode cX4_save 17 = .ok (.ireturn, 1) := by decide +kernel
theorem dX4_save_18 : decode cX4_save 18 = .ok (.aload_n 0, 1) := by decide +kernel
theorem dX4_save_19 : decode cX4_save 19 = .ok (.getfield 19, 3) := by decide +kernel
theorem dX4_save_22 : decode cX4_save 22 = .ok (.iload_n 1, 1) := by decide +kernel
theorem dX4_save_23 : decode cX4_save 23 = .ok (.aaload, 1) := by decide +kernel
theorem dX4_save_24 : decode cX4_save 24 = .ok (.astore_n 2, 1) := by decide +kernel
theorem dX4_save_25 : decode cX4_save 25 = .ok (.aload_n 2, 1) := by decide +kernel
theorem dX4_save_26 : decode cX4_save 26 = .ok (.ifnonnull 18, 3) := by decide +kernel
theorem dX4_save_29 : decode cX4_save 29 = .ok (.new 7, 3) := by decide +kernel
theorem dX4_save_32 : decode cX4_save 32 = .ok (.dup, 1) := by decide +kernel
theorem dX4_save_33 : decode cX4_save 33 = .ok (.invokespecial 9, 3) := by decide +kernel
theorem dX4_save_36 : decode cX4_save 36 = .ok (.astore_n 2, 1) := by decide +kernel
theorem dX4_save_37 : decode cX4_save 37 = .ok (.aload_n 0, 1) := by decide +kernel
theorem dX4_save_38 : decode cX4_save 38 = .ok (.getfield 19, 3) := by decide +kernel
theorem dX4_save_41 : decode cX4_save 41 = .ok (.iload_n 1, 1) := by decide +kernel
theorem dX4_save_42 : decode cX4_save 42 = .ok (.aload_n 2, 1) := by decide +kernel
theorem dX4_save_43 : decode cX4_save 43 = .ok (.aastore, 1) := by decide +kernel
theorem dX4_save_44 : decode cX4_save 44 = .ok (.aload_n 2, 1) := by decide +kernel
theorem dX4_save_45 : decode cX4_save 45 = .ok (.aload_n 0, 1) := by decide +kernel
theorem dX4_save_46 : decode cX4_save 46 = .ok (.getfield 10, 3) := by decide +kernel
theorem dX4_save_49 : decode cX4_save 49 = .ok (.invokevirtual 99, 3) := by decide +kernel
theorem dX4_save_52 : decode cX4_save 52 = .ok (.aload_n 0, 1) := by decide +kernel
theorem dX4_save_53 : decode cX4_save 53 = .ok (.getfield 10, 3) := by decide +kernel
theorem dX4_save_56 : decode cX4_save 56 = .ok (.getfield 71, 3) := by decide +kernel
theorem dX4_save_59 : decode cX4_save 59 = .ok (.ireturn, 1) := by decide +kernel
theorem dX4_restore_0 : decode cX4_restore 0 = .ok (.iload_n 1, 1) := by decide +kernel
theorem dX4_restore_1 : decode cX4_restore 1 = .ok (.iconst 0, 1) := by decide +kernel
theorem dX4_restore_2 : decode cX4_restore 2 = .ok (.aload_n 0, 1) := by decide +kernel
theorem dX4_restore_3 : decode cX4_restore 3 = .ok (.getfield 19, 3) := by decide +kernel
theorem dX4_restore_6 : decode cX4_restore 6 = .ok (.arraylength, 1) := by decide +kernel
theorem dX4_restore_7 : decode cX4_restore 7 = .ok (.iconst 1, 1) := by decide +kernel
theorem dX4_restore_8 : decode cX4_restore 8 = .ok (.isub, 1) := by decide +kernel
theorem dX4_restore_9 : decode cX4_restore 9 = .ok (.invokestatic 30, 3) := by decide +kernel
theorem dX4_restore_12 : decode cX4_restore 12 = .ok (.ifCond .ne 6, 3) := by decide +kernel
theorem dX4_restore_15 : decode cX4_restore 15 = .ok (.bipush (-2), 2) := by decide +kernel
theorem dX4_restore_17 : decode cX4_restore 17 = .ok (.ireturn, 1) := by decide +kernel
theorem dX4_restore_18 : decode cX4_restore 18 = .ok (.aload_n 0, 1) := by decide +kernel
theorem dX4_restore_19 : decode cX4_restore 19 = .ok (.getfield 19, 3) := by decide +kernel
theorem dX4_restore_22 : decode cX4_restore 22 = .ok (.iload_n 1, 1) := by decide +kernel
theorem dX4_restore_23 : decode cX4_restore 23 = .ok (.aaload, 1) := by decide +kernel
theorem dX4_restore_24 : decode cX4_restore 24 = .ok (.astore_n 2, 1) := by decide +kernel
theorem dX4_restore_25 : decode cX4_restore 25 = .ok (.aload_n 2, 1) := by decide +kernel
theorem dX4_restore_26 : decode cX4_restore 26 = .ok (.ifnonnull 6, 3) := by decide +kernel
theorem dX4_restore_29 : decode cX4_restore 29 = .ok (.bipush (-5), 2) := by decide +kernel
theorem dX4_restore_31 : decode cX4_restore 31 = .ok (.ireturn, 1) := by decide +kernel
theorem dX4_restore_32 : decode cX4_restore 32 = .ok (.aload_n 0, 1) := by decide +kernel
theorem dX4_restore_33 : decode cX4_restore 33 = .ok (.getfield 10, 3) := by decide +kernel
theorem dX4_restore_36 : decode cX4_restore 36 = .ok (.aload_n 2, 1) := by decide +kernel
theorem dX4_restore_37 : decode cX4_restore 37 = .ok (.invokevirtual 99, 3) := by decide +kernel
theorem dX4_restore_40 : decode cX4_restore 40 = .ok (.aload_n 0, 1) := by decide +kernel
theorem dX4_restore_41 : decode cX4_restore 41 = .ok (.getfield 10, 3) := by decide +kernel
theorem dX4_restore_44 : decode cX4_restore 44 = .ok (.getfield 71, 3) := by decide +kernel
theorem dX4_restore_47 : decode cX4_restore 47 = .ok (.ireturn, 1) := by decide +kernel
theorem dX4_succeeds_0 : decode cX4_succeeds 0 = .ok (.aload_n 0, 1) := by decide +kernel
theorem dX4_succeeds_1 : decode cX4_succeeds 1 = .ok (.getfield 26, 3) := by decide +kernel
theorem dX4_succeeds_4 : decode cX4_succeeds 4 = .ok (.iload_n 1, 1) := by decide +kernel
theorem dX4_succeeds_5 : decode cX4_succeeds 5 = .ok (.iconst 1, 1) := by decide +kernel
theorem dX4_succeeds_6 : decode cX4_succeeds 6 = .ok (.iadd, 1) := by decide +kernel
theorem dX4_succeeds_7 : decode cX4_succeeds 7 = .ok (.invokevirtual 133, 3) := by decide +kernel
theorem dX4_succeeds_10 : decode cX4_succeeds 10 = .ok (.istore_n 2, 1) := by decide +kernel
theorem dX4_succeeds_11 : decode cX4_succeeds 11 = .ok (.aload_n 0, 1) := by decide +kernel
theorem dX4_succeeds_12 : decode cX4_succeeds 12 = .ok (.getfield 26, 3) := by decide +kernel
theorem dX4_succeeds_15 : decode cX4_succeeds 15 = .ok (.iload_n 1, 1) := by decide +kernel
theorem dX4_succeeds_16 : decode cX4_succeeds 16 = .ok (.invokevirtual 135, 3) := by decide +kernel
theorem dX4_succeeds_19 : decode cX4_succeeds 19 = .ok (.lookupswitch 76 #[(100, 67), (104, 50), (108, 33)], 33) := by decide +kernel
theorem dX4_succeeds_52 : decode cX4_succeeds 52 = .ok (.aload_n 0, 1) := by decide +kernel
theorem dX4_succeeds_53 : decode cX4_succeeds 53 = .ok (.getfield 10, 3) := by decide +kernel
theorem dX4_succeeds_56 : decode cX4_succeeds 56 = .ok (.iload_n 2, 1) := by decide +kernel
theorem dX4_succeeds_57 : decode cX4_succeeds 57 = .ok (.invokevirtual 54, 3) := by decide +kernel
theorem dX4_succeeds_60 : decode cX4_succeeds 60 = .ok (.ifCond .lt 7, 3) := by decide +kernel
theorem dX4_succeeds_63 : decode cX4_succeeds 63 = .ok (.iconst 1, 1) := by decide +kernel
theorem dX4_succeeds_64 : decode cX4_succeeds 64 = .ok (.goto 4, 3) := by decide +kernel
theorem dX4_succeeds_67 : decode cX4_succeeds 67 = .ok (.iconst 0, 1) := by decide +kernel
theorem dX4_succeeds_68 : decode cX4_succeeds 68 = .ok (.ireturn, 1) := by decide +kernel
theorem dX4_succeeds_69 : decode cX4_succeeds 69 = .ok (.aload_n 0, 1) := by decide +kernel
theorem dX4_succeeds_70 : decode cX4_succeeds 70 = .ok (.getfield 10, 3) := by decide +kernel
theorem dX4_succeeds_73 : decode cX4_succeeds 73 = .ok (.iload_n 2, 1) := by decide +kernel
theorem dX4_succeeds_74 : decode cX4_succeeds 74 = .ok (.invokevirtual 58, 3) := by decide +kernel
theorem dX4_succeeds_77 : decode cX4_succeeds 77 = .ok (.ifCond .lt 7, 3) := by decide +kernel
theorem dX4_succeeds_80 : decode cX4_succeeds 80 = .ok (.iconst 1, 1) := by decide +kernel
theorem dX4_succeeds_81 : decode cX4_succeeds 81 = .ok (.goto 4, 3) := by decide +kernel
theorem dX4_succeeds_84 : decode cX4_succeeds 84 = .ok (.iconst 0, 1) := by decide +kernel
theorem dX4_succeeds_85 : decode cX4_succeeds 85 = .ok (.ireturn, 1) := by decide +kernel
theorem dX4_succeeds_86 : decode cX4_succeeds 86 = .ok (.aload_n 0, 1) := by decide +kernel
theorem dX4_succeeds_87 : decode cX4_succeeds 87 = .ok (.iload_n 2, 1) := by decide +kernel
theorem dX4_succeeds_88 : decode cX4_succeeds 88 = .ok (.iload_n 1, 1) := by decide +kernel
theorem dX4_succeeds_89 : decode cX4_succeeds 89 = .ok (.iconst 2, 1) := by decide +kernel
theorem dX4_succeeds_90 : decode cX4_succeeds 90 = .ok (.iadd, 1) := by decide +kernel
theorem dX4_succeeds_91 : decode cX4_succeeds 91 = .ok (.invokevirtual 138, 3) := by decide +kernel
theorem dX4_succeeds_94 : decode cX4_succeeds 94 = .ok (.ireturn, 1) := by decide +kernel
theorem dX4_succeeds_95 : decode cX4_succeeds 95 = .ok (.aload_n 0, 1) := by decide +kernel
theorem dX4_succeeds_96 : decode cX4_succeeds 96 = .ok (.getfield 26, 3) := by decide +kernel
theorem dX4_succeeds_99 : decode cX4_succeeds 99 = .ok (.iload_n 1, 1) := by decide +kernel
theorem dX4_succeeds_100 : decode cX4_succeeds 100 = .ok (.iconst 1, 1) := by decide +kernel
theorem dX4_succeeds_101 : decode cX4_succeeds 101 = .ok (.iadd, 1) := by decide +kernel
theorem dX4_succeeds_102 : decode cX4_succeeds 102 = .ok (.invokevirtual 142, 3) := by decide +kernel
theorem dX4_succeeds_105 : decode cX4_succeeds 105 = .ok (.istore_n 3, 1) := by decide +kernel
theorem dX4_succeeds_106 : decode cX4_succeeds 106 = .ok (.aload_n 0, 1) := by decide +kernel
theorem dX4_succeeds_107 : decode cX4_succeeds 107 = .ok (.getfield 10, 3) := by decide +kernel
theorem dX4_succeeds_110 : decode cX4_succeeds 110 = .ok (.iload_n 3, 1) := by decide +kernel
theorem dX4_succeeds_111 : decode cX4_succeeds 111 = .ok (.invokevirtual 64, 3) := by decide +kernel
theorem dX4_succeeds_114 : decode cX4_succeeds 114 = .ok (.ifCond .ne 5, 3) := by decide +kernel
theorem dX4_succeeds_117 : decode cX4_succeeds 117 = .ok (.iconst 0, 1) := by decide +kernel
theorem dX4_succeeds_118 : decode cX4_succeeds 118 = .ok (.ireturn, 1) := by decide +kernel
theorem dX4_succeeds_119 : decode cX4_succeeds 119 = .ok (.aload_n 0, 1) := by decide +kernel
theorem dX4_succeeds_120 : decode cX4_succeeds 120 = .ok (.getfield 10, 3) := by decide +kernel
theorem dX4_succeeds_123 : decode cX4_succeeds 123 = .ok (.iload_n 3, 1) := by decide +kernel
theorem dX4_succeeds_124 : decode cX4_succeeds 124 = .ok (.invokevirtual 67, 3) := by decide +kernel
theorem dX4_succeeds_127 : decode cX4_succeeds 127 = .ok (.iconst 1, 1) := by decide +kernel
theorem dX4_succeeds_128 : decode cX4_succeeds 128 = .ok (.ireturn, 1) := by decide +kernel
theorem dX4_dialsAll_0 : decode cX4_dialsAll 0 = .ok (.iload_n 2, 1) := by decide +kernel
theorem dX4_dialsAll_1 : decode cX4_dialsAll 1 = .ok (.istore_n 3, 1) := by decide +kernel
theorem dX4_dialsAll_2 : decode cX4_dialsAll 2 = .ok (.iload_n 3, 1) := by decide +kernel
theorem dX4_dialsAll_3 : decode cX4_dialsAll 3 = .ok (.aload_n 0, 1) := by decide +kernel
theorem dX4_dialsAll_4 : decode cX4_dialsAll 4 = .ok (.getfield 26, 3) := by decide +kernel
theorem dX4_dialsAll_7 : decode cX4_dialsAll 7 = .ok (.getfield 92, 3) := by decide +kernel
theorem dX4_dialsAll_10 : decode cX4_dialsAll 10 = .ok (.if_icmp .ge 47, 3) := by decide +kernel
theorem dX4_dialsAll_13 : decode cX4_dialsAll 13 = .ok (.aload_n 0, 1) := by decide +kernel
theorem dX4_dialsAll_14 : decode cX4_dialsAll 14 = .ok (.getfield 26, 3) := by decide +kernel
theorem dX4_dialsAll_17 : decode cX4_dialsAll 17 = .ok (.iload_n 3, 1) := by decide +kernel
theorem dX4_dialsAll_18 : decode cX4_dialsAll 18 = .ok (.invokevirtual 135, 3) := by decide +kernel
theorem dX4_dialsAll_21 : decode cX4_dialsAll 21 = .ok (.invokestatic 145, 3) := by decide +kernel
theorem dX4_dialsAll_24 : decode cX4_dialsAll 24 = .ok (.ifCond .eq 33, 3) := by decide +kernel
theorem dX4_dialsAll_27 : decode cX4_dialsAll 27 = .ok (.aload_n 0, 1) := by decide +kernel
theorem dX4_dialsAll_28 : decode cX4_dialsAll 28 = .ok (.getfield 10, 3) := by decide +kernel
theorem dX4_dialsAll_31 : decode cX4_dialsAll 31 = .ok (.iload_n 1, 1) := by decide +kernel
theorem dX4_dialsAll_32 : decode cX4_dialsAll 32 = .ok (.aload_n 0, 1) := by decide +kernel
theorem dX4_dialsAll_33 : decode cX4_dialsAll 33 = .ok (.getfield 26, 3) := by decide +kernel
theorem dX4_dialsAll_36 : decode cX4_dialsAll 36 = .ok (.iload_n 3, 1) := by decide +kernel
theorem dX4_dialsAll_37 : decode cX4_dialsAll 37 = .ok (.invokevirtual 135, 3) := by decide +kernel
theorem dX4_dialsAll_40 : decode cX4_dialsAll 40 = .ok (.bipush 48, 2) := by decide +kernel
theorem dX4_dialsAll_42 : decode cX4_dialsAll 42 = .ok (.isub, 1) := by decide +kernel
theorem dX4_dialsAll_43 : decode cX4_dialsAll 43 = .ok (.invokevirtual 61, 3) := by decide +kernel
theorem dX4_dialsAll_46 : decode cX4_dialsAll 46 = .ok (.ifCond .ge 5, 3) := by decide +kernel
theorem dX4_dialsAll_49 : decode cX4_dialsAll 49 = .ok (.iconst 0, 1) := by decide +kernel
theorem dX4_dialsAll_50 : decode cX4_dialsAll 50 = .ok (.ireturn, 1) := by decide +kernel
theorem dX4_dialsAll_51 : decode cX4_dialsAll 51 = .ok (.iinc 3 1, 3) := by decide +kernel
theorem dX4_dialsAll_54 : decode cX4_dialsAll 54 = .ok (.goto (-52), 3) := by decide +kernel
theorem dX4_dialsAll_57 : decode cX4_dialsAll 57 = .ok (.iconst 1, 1) := by decide +kernel
theorem dX4_dialsAll_58 : decode cX4_dialsAll 58 = .ok (.ireturn, 1) := by decide +kernel
theorem dX4_isLine_0 : decode cX4_isLine 0 = .ok (.iload_n 0, 1) := by decide +kernel
theorem dX4_isLine_1 : decode cX4_isLine 1 = .ok (.iconst 0, 1) := by decide +kernel
theorem dX4_isLine_2 : decode cX4_isLine 2 = .ok (.bipush 15, 2) := by decide +kernel
theorem dX4_isLine_4 : decode cX4_isLine 4 = .ok (.invokestatic 30, 3) := by decide +kernel
theorem dX4_isLine_7 : decode cX4_isLine 7 = .ok (.ireturn, 1) := by decide +kernel
theorem dX4_isWithin_0 : decode cX4_isWithin 0 = .ok (.iload_n 0, 1) := by decide +kernel
theorem dX4_isWithin_1 : decode cX4_isWithin 1 = .ok (.iload_n 1, 1) := by decide +kernel
theorem dX4_isWithin_2 : decode cX4_isWithin 2 = .ok (.if_icmp .lt 12, 3) := by decide +kernel
theorem dX4_isWithin_5 : decode cX4_isWithin 5 = .ok (.iload_n 0, 1) := by decide +kernel
theorem dX4_isWithin_6 : decode cX4_isWithin 6 = .ok (.iload_n 2, 1) := by decide +kernel
theorem dX4_isWithin_7 : decode cX4_isWithin 7 = .ok (.if_icmp .gt 7, 3) := by decide +kernel
theorem dX4_isWithin_10 : decode cX4_isWithin 10 = .ok (.iconst 1, 1) := by decide +kernel
theorem dX4_isWithin_11 : decode cX4_isWithin 11 = .ok (.goto 4, 3) := by decide +kernel
theorem dX4_isWithin_14 : decode cX4_isWithin 14 = .ok (.iconst 0, 1) := by decide +kernel
theorem dX4_isWithin_15 : decode cX4_isWithin 15 = .ok (.ireturn, 1) := by decide +kernel
theorem dX5_init_0 : decode cX5_init 0 = .ok (.aload_n 0, 1) := by decide +kernel
theorem dX5_init_1 : decode cX5_init 1 = .ok (.invokespecial 1, 3) := by decide +kernel
theorem dX5_init_4 : decode cX5_init 4 = .ok (.aload_n 0, 1) := by decide +kernel
theorem dX5_init_5 : decode cX5_init 5 = .ok (.sipush 233, 3) := by decide +kernel
theorem dX5_init_8 : decode cX5_init 8 = .ok (.newarray .int, 2) := by decide +kernel
theorem dX5_init_10 : decode cX5_init 10 = .ok (.putfield 7, 3) := by decide +kernel
theorem dX5_init_13 : decode cX5_init 13 = .ok (.aload_n 0, 1) := by decide +kernel
theorem dX5_init_14 : decode cX5_init 14 = .ok (.sipush 233, 3) := by decide +kernel
theorem dX5_init_17 : decode cX5_init 17 = .ok (.newarray .int, 2) := by decide +kernel
theorem dX5_init_19 : decode cX5_init 19 = .ok (.putfield 13, 3) := by decide +kernel
theorem dX5_init_22 : decode cX5_init 22 = .ok (.aload_n 0, 1) := by decide +kernel
theorem dX5_init_23 : decode cX5_init 23 = .ok (.sipush 466, 3) := by decide +kernel
theorem dX5_init_26 : decode cX5_init 26 = .ok (.newarray .int, 2) := by decide +kernel
theorem dX5_init_28 : decode cX5_init 28 = .ok (.putfield 16, 3) := by decide +kernel
theorem dX5_init_31 : decode cX5_init 31 = .ok (.aload_n 0, 1) := by decide +kernel
theorem dX5_init_32 : decode cX5_init 32 = .ok (.iconst 2, 1) := by decide +kernel
theorem dX5_init_33 : decode cX5_init 33 = .ok (.newarray .boolean, 2) := by decide +kernel
theorem dX5_init_35 : decode cX5_init 35 = .ok (.putfield 19, 3) := by decide +kernel
theorem dX5_init_38 : decode cX5_init 38 = .ok (.aload_n 0, 1) := by decide +kernel
theorem dX5_init_39 : decode cX5_init 39 = .ok (.bipush 60, 2) := by decide +kernel
theorem dX5_init_41 : decode cX5_init 41 = .ok (.newarray .int, 2) := by decide +kernel
theorem dX5_init_43 : decode cX5_init 43 = .ok (.putfield 23, 3) := by decide +kernel
theorem dX5_init_46 : decode cX5_init 46 = .ok (.aload_n 0, 1) := by decide +kernel
theorem dX5_init_47 : decode cX5_init 47 = .ok (.sipush 128, 3) := by decide +kernel
theorem dX5_init_50 : decode cX5_init 50 = .ok (.newarray .int, 2) := by decide +kernel
theorem dX5_init_52 : decode cX5_init 52 = .ok (.putfield 26, 3) := by decide +kernel
theorem dX5_init_55 : decode cX5_init 55 = .ok (.aload_n 0, 1) := by decide +kernel
theorem dX5_init_56 : decode cX5_init 56 = .ok (.getfield 7, 3) := by decide +kernel
theorem dX5_init_59 : decode cX5_init 59 = .ok (.iconst 5, 1) := by decide +kernel
theorem dX5_init_60 : decode cX5_init 60 = .ok (.bipush 20, 2) := by decide +kernel
theorem dX5_init_62 : decode cX5_init 62 = .ok (.iastore, 1) := by decide +kernel
theorem dX5_init_63 : decode cX5_init 63 = .ok (.aload_n 0, 1) := by decide +kernel
theorem dX5_init_64 : decode cX5_init 64 = .ok (.getfield 7, 3) := by decide +kernel
theorem dX5_init_67 : decode cX5_init 67 = .ok (.bipush 6, 2) := by decide +kernel
theorem dX5_init_69 : decode cX5_init 69 = .ok (.bipush 40, 2) := by decide +kernel
theorem dX5_init_71 : decode cX5_init 71 = .ok (.iastore, 1) := by decide +kernel
theorem dX5_init_72 : decode cX5_init 72 = .ok (.aload_n 0, 1) := by decide +kernel
theorem dX5_init_73 : decode cX5_init 73 = .ok (.getfield 7, 3) := by decide +kernel
theorem dX5_init_76 : decode cX5_init 76 = .ok (.bipush 7, 2) := by decide +kernel
theorem dX5_init_78 : decode cX5_init 78 = .ok (.bipush 30, 2) := by decide +kernel
theorem dX5_init_80 : decode cX5_init 80 = .ok (.iastore, 1) := by decide +kernel
theorem dX5_init_81 : decode cX5_init 81 = .ok (.aload_n 0, 1) := by decide +kernel
theorem dX5_init_82 : decode cX5_init 82 = .ok (.getfield 7, 3) := by decide +kernel
theorem dX5_init_85 : decode cX5_init 85 = .ok (.bipush 8, 2) := by decide +kernel
theorem dX5_init_87 : decode cX5_init 87 = .ok (.bipush 10, 2) := by decide +kernel
theorem dX5_init_89 : decode cX5_init 89 = .ok (.iastore, 1) := by decide +kernel
theorem dX5_init_90 : decode cX5_init 90 = .ok (.aload_n 0, 1) := by decide +kernel
theorem dX5_init_91 : decode cX5_init 91 = .ok (.getfield 7, 3) := by decide +kernel
theorem dX5_init_94 : decode cX5_init 94 = .ok (.bipush 9, 2) := by decide +kernel
theorem dX5_init_96 : decode cX5_init 96 = .ok (.bipush 15, 2) := by decide +kernel
theorem dX5_init_98 : decode cX5_init 98 = .ok (.iastore, 1) := by decide +kernel
theorem dX5_init_99 : decode cX5_init 99 = .ok (.aload_n 0, 1) := by decide +kernel
theorem dX5_init_100 : decode cX5_init 100 = .ok (.iconst 2, 1) := by decide +kernel
theorem dX5_init_101 : decode cX5_init 101 = .ok (.iconst 1, 1) := by decide +kernel
theorem dX5_init_102 : decode cX5_init 102 = .ok (.invokevirtual 29, 3) := by decide +kernel
theorem dX5_init_105 : decode cX5_init 105 = .ok (.return_, 1) := by decide +kernel
theorem dX5_in_0 : decode cX5_in 0 = .ok (.iload_n 0, 1) := by decide +kernel
theorem dX5_in_1 : decode cX5_in 1 = .ok (.iload_n 1, 1) := by decide +kernel
theorem dX5_in_2 : decode cX5_in 2 = .ok (.if_icmp .lt 12, 3) := by decide +kernel
theorem dX5_in_5 : decode cX5_in 5 = .ok (.iload_n 0, 1) := by decide +kernel
theorem dX5_in_6 : decode cX5_in 6 = .ok (.iload_n 2, 1) := by decide +kernel
theorem dX5_in_7 : decode cX5_in 7 = .ok (.if_icmp .gt 7, 3) := by decide +kernel
theorem dX5_in_10 : decode cX5_in 10 = .ok (.iconst 1, 1) := by decide +kernel
theorem dX5_in_11 : decode cX5_in 11 = .ok (.goto 4, 3) := by decide +kernel
theorem dX5_in_14 : decode cX5_in 14 = .ok (.iconst 0, 1) := by decide +kernel
theorem dX5_in_15 : decode cX5_in 15 = .ok (.ireturn, 1) := by decide +kernel
theorem dX5_of_0 : decode cX5_of 0 = .ok (.aload_n 0, 1) := by decide +kernel
theorem dX5_of_1 : decode cX5_of 1 = .ok (.getfield 7, 3) := by decide +kernel
theorem dX5_of_4 : decode cX5_of 4 = .ok (.bipush 17, 2) := by decide +kernel
theorem dX5_of_6 : decode cX5_of 6 = .ok (.bipush 11, 2) := by decide +kernel
theorem dX5_of_8 : decode cX5_of 8 = .ok (.iload_n 1, 1) := by decide +kernel
theorem dX5_of_9 : decode cX5_of 9 = .ok (.imul, 1) := by decide +kernel
theorem dX5_of_10 : decode cX5_of 10 = .ok (.iadd, 1) := by decide +kernel
theorem dX5_of_11 : decode cX5_of 11 = .ok (.iload_n 2, 1) := by decide +kernel
theorem dX5_of_12 : decode cX5_of 12 = .ok (.iadd, 1) := by decide +kernel
theorem dX5_of_13 : decode cX5_of 13 = .ok (.iaload, 1) := by decide +kernel
theorem dX5_of_14 : decode cX5_of 14 = .ok (.ireturn, 1) := by decide +kernel
theorem dX5_lay_0 : decode cX5_lay 0 = .ok (.aload_n 0, 1) := by decide +kernel
theorem dX5_lay_1 : decode cX5_lay 1 = .ok (.getfield 7, 3) := by decide +kernel
theorem dX5_lay_4 : decode cX5_lay 4 = .ok (.bipush 17, 2) := by decide +kernel
theorem dX5_lay_6 : decode cX5_lay 6 = .ok (.bipush 11, 2) := by decide +kernel
theorem dX5_lay_8 : decode cX5_lay 8 = .ok (.iload_n 1, 1) := by decide +kernel
theorem dX5_lay_9 : decode cX5_lay 9 = .ok (.imul, 1) := by decide +kernel
theorem dX5_lay_10 : decode cX5_lay 10 = .ok (.iadd, 1) := by decide +kernel
theorem dX5_lay_11 : decode cX5_lay 11 = .ok (.iload_n 2, 1) := by decide +kernel
theorem dX5_lay_12 : decode cX5_lay 12 = .ok (.iadd, 1) := by decide +kernel
theorem dX5_lay_13 : decode cX5_lay 13 = .ok (.iload_n 3, 1) := by decide +kernel
theorem dX5_lay_14 : decode cX5_lay 14 = .ok (.iastore, 1) := by decide +kernel
theorem dX5_lay_15 : decode cX5_lay 15 = .ok (.return_, 1) := by decide +kernel
theorem dX5_ofFinder_0 : decode cX5_ofFinder 0 = .ok (.aload_n 0, 1) := by decide +kernel
theorem dX5_ofFinder_1 : decode cX5_ofFinder 1 = .ok (.getfield 7, 3) := by decide +kernel
theorem dX5_ofFinder_4 : decode cX5_ofFinder 4 = .ok (.sipush 193, 3) := by decide +kernel
theorem dX5_ofFinder_7 : decode cX5_ofFinder 7 = .ok (.bipush 10, 2) := by decide +kernel
theorem dX5_ofFinder_9 : decode cX5_ofFinder 9 = .ok (.iload_n 1, 1) := by decide +kernel
theorem dX5_ofFinder_10 : decode cX5_ofFinder 10 = .ok (.imul, 1) := by decide +kernel
theorem dX5_ofFinder_11 : decode cX5_ofFinder 11 = .ok (.iadd, 1) := by decide +kernel
theorem dX5_ofFinder_12 : decode cX5_ofFinder 12 = .ok (.iload_n 2, 1) := by decide +kernel
theorem dX5_ofFinder_13 : decode cX5_ofFinder 13 = .ok (.iadd, 1) := by decide +kernel
theorem dX5_ofFinder_14 : decode cX5_ofFinder 14 = .ok (.iaload, 1) := by decide +kernel
theorem dX5_ofFinder_15 : decode cX5_ofFinder 15 = .ok (.ireturn, 1) := by decide +kernel
theorem dX5_layFinder_0 : decode cX5_layFinder 0 = .ok (.aload_n 0, 1) := by decide +kernel
theorem dX5_layFinder_1 : decode cX5_layFinder 1 = .ok (.getfield 7, 3) := by decide +kernel
theorem dX5_layFinder_4 : decode cX5_layFinder 4 = .ok (.sipush 193, 3) := by decide +kernel
theorem dX5_layFinder_7 : decode cX5_layFinder 7 = .ok (.bipush 10, 2) := by decide +kernel
theorem dX5_layFinder_9 : decode cX5_layFinder 9 = .ok (.iload_n 1, 1) := by decide +kernel
theorem dX5_layFinder_10 : decode cX5_layFinder 10 = .ok (.imul, 1) := by decide +kernel
theorem dX5_layFinder_11 : decode cX5_layFinder 11 = .ok (.iadd, 1) := by decide +kernel
theorem dX5_layFinder_12 : decode cX5_layFinder 12 = .ok (.iload_n 2, 1) := by decide +kernel
theorem dX5_layFinder_13 : decode cX5_layFinder 13 = .ok (.iadd, 1) := by decide +kernel
theorem dX5_layFinder_14 : decode cX5_layFinder 14 = .ok (.iload_n 3, 1) := by decide +kernel
theorem dX5_layFinder_15 : decode cX5_layFinder 15 = .ok (.iastore, 1) := by decide +kernel
theorem dX5_layFinder_16 : decode cX5_layFinder 16 = .ok (.return_, 1) := by decide +kernel
theorem dX5_setting_0 : decode cX5_setting 0 = .ok (.aload_n 0, 1) := by decide +kernel
theorem dX5_setting_1 : decode cX5_setting 1 = .ok (.getfield 7, 3) := by decide +kernel
theorem dX5_setting_4 : decode cX5_setting 4 = .ok (.iconst 5, 1) := by decide +kernel
theorem dX5_setting_5 : decode cX5_setting 5 = .ok (.iload_n 1, 1) := by decide +kernel
theorem dX5_setting_6 : decode cX5_setting 6 = .ok (.iadd, 1) := by decide +kernel
theorem dX5_setting_7 : decode cX5_setting 7 = .ok (.iaload, 1) := by decide +kernel
theorem dX5_setting_8 : decode cX5_setting 8 = .ok (.ireturn, 1) := by decide +kernel
theorem dX5_countOne_0 : decode cX5_countOne 0 = .ok (.aload_n 0, 1) := by decide +kernel
theorem dX5_countOne_1 : decode cX5_countOne 1 = .ok (.getfield 7, 3) := by decide +kernel
theorem dX5_countOne_4 : decode cX5_countOne 4 = .ok (.bipush 10, 2) := by decide +kernel
theorem dX5_countOne_6 : decode cX5_countOne 6 = .ok (.iload_n 1, 1) := by decide +kernel
theorem dX5_countOne_7 : decode cX5_countOne 7 = .ok (.iadd, 1) := by decide +kernel
theorem dX5_countOne_8 : decode cX5_countOne 8 = .ok (.dup2, 1) := by decide +kernel
theorem dX5_countOne_9 : decode cX5_countOne 9 = .ok (.iaload, 1) := by decide +kernel
theorem dX5_countOne_10 : decode cX5_countOne 10 = .ok (.iconst 1, 1) := by decide +kernel
theorem dX5_countOne_11 : decode cX5_countOne 11 = .ok (.iadd, 1) := by decide +kernel
theorem dX5_countOne_12 : decode cX5_countOne 12 = .ok (.iastore, 1) := by decide +kernel
theorem dX5_countOne_13 : decode cX5_countOne 13 = .ok (.return_, 1) := by decide +kernel
theorem dX5_begin_0 : decode cX5_begin 0 = .ok (.iconst 0, 1) := by decide +kernel
theorem dX5_begin_1 : decode cX5_begin 1 = .ok (.istore_n 3, 1) := by decide +kernel
theorem dX5_begin_2 : decode cX5_begin 2 = .ok (.iload_n 3, 1) := by decide +kernel
theorem dX5_begin_3 : decode cX5_begin 3 = .ok (.sipush 233, 3) := by decide +kernel
theorem dX5_begin_6 : decode cX5_begin 6 = .ok (.if_icmp .ge 35, 3) := by decide +kernel
theorem dX5_begin_9 : decode cX5_begin 9 = .ok (.aload_n 0, 1) := by decide +kernel
theorem dX5_begin_10 : decode cX5_begin 10 = .ok (.getfield 7, 3) := by decide +kernel
theorem dX5_begin_13 : decode cX5_begin 13 = .ok (.iload_n 3, 1) := by decide +kernel
theorem dX5_begin_14 : decode cX5_begin 14 = .ok (.iload_n 3, 1) := by decide +kernel
theorem dX5_begin_15 : decode cX5_begin 15 = .ok (.iconst 5, 1) := by decide +kernel
theorem dX5_begin_16 : decode cX5_begin 16 = .ok (.bipush 9, 2) := by decide +kernel
theorem dX5_begin_18 : decode cX5_begin 18 = .ok (.invokestatic 33, 3) := by decide +kernel
theorem dX5_begin_21 : decode cX5_begin 21 = .ok (.ifCond .eq 12, 3) := by decide +kernel
theorem dX5_begin_24 : decode cX5_begin 24 = .ok (.aload_n 0, 1) := by decide +kernel
theorem dX5_begin_25 : decode cX5_begin 25 = .ok (.getfield 7, 3) := by decide +kernel
theorem dX5_begin_28 : decode cX5_begin 28 = .ok (.iload_n 3, 1) := by decide +kernel
theorem dX5_begin_29 : decode cX5_begin 29 = .ok (.iaload, 1) := by decide +kernel
theorem dX5_begin_30 : decode cX5_begin 30 = .ok (.goto 4, 3) := by decide +kernel
theorem dX5_begin_33 : decode cX5_begin 33 = .ok (.iconst 0, 1) := by decide +kernel
theorem dX5_begin_34 : decode cX5_begin 34 = .ok (.iastore, 1) := by decide +kernel
theorem dX5_begin_35 : decode cX5_begin 35 = .ok (.iinc 3 1, 3) := by decide +kernel
theorem dX5_begin_38 : decode cX5_begin 38 = .ok (.goto (-36), 3) := by decide +kernel
theorem dX5_begin_41 : decode cX5_begin 41 = .ok (.aload_n 0, 1) := by decide +kernel
theorem dX5_begin_42 : decode cX5_begin 42 = .ok (.getfield 7, 3) := by decide +kernel
theorem dX5_begin_45 : decode cX5_begin 45 = .ok (.iconst 1, 1) := by decide +kernel
theorem dX5_begin_46 : decode cX5_begin 46 = .ok (.iload_n 1, 1) := by decide +kernel
theorem dX5_begin_47 : decode cX5_begin 47 = .ok (.iastore, 1) := by decide +kernel
theorem dX5_begin_48 : decode cX5_begin 48 = .ok (.aload_n 0, 1) := by decide +kernel
theorem dX5_begin_49 : decode cX5_begin 49 = .ok (.getfield 7, 3) := by decide +kernel
theorem dX5_begin_52 : decode cX5_begin 52 = .ok (.iconst 2, 1) := by decide +kernel
theorem dX5_begin_53 : decode cX5_begin 53 = .ok (.iload_n 2, 1) := by decide +kernel
theorem dX5_begin_54 : decode cX5_begin 54 = .ok (.iastore, 1) := by decide +kernel
theorem dX5_begin_55 : decode cX5_begin 55 = .ok (.aload_n 0, 1) := by decide +kernel
theorem dX5_begin_56 : decode cX5_begin 56 = .ok (.getfield 7, 3) := by decide +kernel
theorem dX5_begin_59 : decode cX5_begin 59 = .ok (.iconst 3, 1) := by decide +kernel
theorem dX5_begin_60 : decode cX5_begin 60 = .ok (.bipush (-6), 2) := by decide +kernel
theorem dX5_begin_62 : decode cX5_begin 62 = .ok (.iastore, 1) := by decide +kernel
theorem dX5_begin_63 : decode cX5_begin 63 = .ok (.iconst 0, 1) := by decide +kernel
theorem dX5_begin_64 : decode cX5_begin 64 = .ok (.istore_n 3, 1) := by decide +kernel
theorem dX5_begin_65 : decode cX5_begin 65 = .ok (.iload_n 3, 1) := by decide +kernel
theorem dX5_begin_66 : decode cX5_begin 66 = .ok (.iconst 4, 1) := by decide +kernel
theorem dX5_begin_67 : decode cX5_begin 67 = .ok (.if_icmp .ge 14, 3) := by decide +kernel
theorem dX5_begin_70 : decode cX5_begin 70 = .ok (.aload_n 0, 1) := by decide +kernel
theorem dX5_begin_71 : decode cX5_begin 71 = .ok (.iload_n 3, 1) := by decide +kernel
theorem dX5_begin_72 : decode cX5_begin 72 = .ok (.invokevirtual 37, 3) := by decide +kernel
theorem dX5_begin_75 : decode cX5_begin 75 = .ok (.iinc 3 1, 3) := by decide +kernel
theorem dX5_begin_78 : decode cX5_begin 78 = .ok (.goto (-13), 3) := by decide +kernel
theorem dX5_begin_81 : decode cX5_begin 81 = .ok (.return_, 1) := by decide +kernel
theorem dX5_free_0 : decode cX5_free 0 = .ok (.iconst 0, 1) := by decide +kernel
theorem dX5_free_1 : decode cX5_free 1 = .ok (.istore_n 2, 1) := by decide +kernel
theorem dX5_free_2 : decode cX5_free 2 = .ok (.iload_n 2, 1) := by decide +kernel
theorem dX5_free_3 : decode cX5_free 3 = .ok (.bipush 10, 2) := by decide +kernel
theorem dX5_free_5 : decode cX5_free 5 = .ok (.if_icmp .ge 61, 3) := by decide +kernel
theorem dX5_free_8 : decode cX5_free 8 = .ok (.iload_n 2, 1) := by decide +kernel
theorem dX5_free_9 : decode cX5_free 9 = .ok (.iconst 2, 1) := by decide +kernel
theorem dX5_free_10 : decode cX5_free 10 = .ok (.if_icmp .eq 14, 3) := by decide +kernel
theorem dX5_free_13 : decode cX5_free 13 = .ok (.iload_n 2, 1) := by decide +kernel
theorem dX5_free_14 : decode cX5_free 14 = .ok (.iconst 4, 1) := by decide +kernel
theorem dX5_free_15 : decode cX5_free 15 = .ok (.if_icmp .eq 9, 3) := by decide +kernel
theorem dX5_free_18 : decode cX5_free 18 = .ok (.iload_n 2, 1) := by decide +kernel
theorem dX5_free_19 : decode cX5_free 19 = .ok (.bipush 9, 2) := by decide +kernel
theorem dX5_free_21 : decode cX5_free 21 = .ok (.if_icmp .ne 7, 3) := by decide +kernel
theorem dX5_free_24 : decode cX5_free 24 = .ok (.iconst 1, 1) := by decide +kernel
theorem dX5_free_25 : decode cX5_free 25 = .ok (.goto 4, 3) := by decide +kernel
theorem dX5_free_28 : decode cX5_free 28 = .ok (.iconst 0, 1) := by decide +kernel
theorem dX5_free_29 : decode cX5_free 29 = .ok (.istore_n 3, 1) := by decide +kernel
theorem dX5_free_30 : decode cX5_free 30 = .ok (.aload_n 0, 1) := by decide +kernel
theorem dX5_free_31 : decode cX5_free 31 = .ok (.iload_n 1, 1) := by decide +kernel
theorem dX5_free_32 : decode cX5_free 32 = .ok (.iload_n 2, 1) := by decide +kernel
theorem dX5_free_33 : decode cX5_free 33 = .ok (.iload_n 2, 1) := by decide +kernel
theorem dX5_free_34 : decode cX5_free 34 = .ok (.iconst 1, 1) := by decide +kernel
theorem dX5_free_35 : decode cX5_free 35 = .ok (.if_icmp .ne 12, 3) := by decide +kernel
theorem dX5_free_38 : decode cX5_free 38 = .ok (.aload_n 0, 1) := by decide +kernel
theorem dX5_free_39 : decode cX5_free 39 = .ok (.iload_n 1, 1) := by decide +kernel
theorem dX5_free_40 : decode cX5_free 40 = .ok (.iload_n 2, 1) := by decide +kernel
theorem dX5_free_41 : decode cX5_free 41 = .ok (.invokevirtual 41, 3) := by decide +kernel
theorem dX5_free_44 : decode cX5_free 44 = .ok (.goto 13, 3) := by decide +kernel
theorem dX5_free_47 : decode cX5_free 47 = .ok (.iload_n 3, 1) := by decide +kernel
theorem dX5_free_48 : decode cX5_free 48 = .ok (.ifCond .eq 8, 3) := by decide +kernel
theorem dX5_free_51 : decode cX5_free 51 = .ok (.bipush (-6), 2) := by decide +kernel
theorem dX5_free_53 : decode cX5_free 53 = .ok (.goto 4, 3) := by decide +kernel
theorem dX5_free_56 : decode cX5_free 56 = .ok (.iconst 0, 1) := by decide +kernel
theorem dX5_free_57 : decode cX5_free 57 = .ok (.invokevirtual 45, 3) := by decide +kernel
theorem dX5_free_60 : decode cX5_free 60 = .ok (.iinc 2 1, 3) := by decide +kernel
theorem dX5_free_63 : decode cX5_free 63 = .ok (.goto (-61), 3) := by decide +kernel
theorem dX5_free_66 : decode cX5_free 66 = .ok (.return_, 1) := by decide +kernel
theorem dX5_setUp_0 : decode cX5_setUp 0 = .ok (.iload_n 1, 1) := by decide +kernel
theorem dX5_setUp_1 : decode cX5_setUp 1 = .ok (.iconst 1, 1) := by decide +kernel
theorem dX5_setUp_2 : decode cX5_setUp 2 = .ok (.iconst 4, 1) := by decide +kernel
theorem dX5_setUp_3 : decode cX5_setUp 3 = .ok (.invokestatic 33, 3) := by decide +kernel
theorem dX5_setUp_6 : decode cX5_setUp 6 = .ok (.ifCond .eq 12, 3) := by decide +kernel
theorem dX5_setUp_9 : decode cX5_setUp 9 = .ok (.iload_n 2, 1) := by decide +kernel
theorem dX5_setUp_10 : decode cX5_setUp 10 = .ok (.iconst 1, 1) := by decide +kernel
theorem dX5_setUp_11 : decode cX5_setUp 11 = .ok (.iconst 3, 1) := by decide +kernel
theorem dX5_setUp_12 : decode cX5_setUp 12 = .ok (.invokestatic 33, 3) := by decide +kernel
theorem dX5_setUp_15 : decode cX5_setUp 15 = .ok (.ifCond .ne 6, 3) := by decide +kernel
theorem dX5_setUp_18 : decode cX5_setUp 18 = .ok (.bipush (-2), 2) := by decide +kernel
theorem dX5_setUp_20 : decode cX5_setUp 20 = .ok (.ireturn, 1) := by decide +kernel
theorem dX5_setUp_21 : decode cX5_setUp 21 = .ok (.aload_n 0, 1) := by decide +kernel
theorem dX5_setUp_22 : decode cX5_setUp 22 = .ok (.getfield 7, 3) := by decide +kernel
theorem dX5_setUp_25 : decode cX5_setUp 25 = .ok (.iconst 1, 1) := by decide +kernel
theorem dX5_setUp_26 : decode cX5_setUp 26 = .ok (.iaload, 1) := by decide +kernel
theorem dX5_setUp_27 : decode cX5_setUp 27 = .ok (.istore_n 3, 1) := by decide +kernel
theorem dX5_setUp_28 : decode cX5_setUp 28 = .ok (.aload_n 0, 1) := by decide +kernel
theorem dX5_setUp_29 : decode cX5_setUp 29 = .ok (.iload_n 1, 1) := by decide +kernel
theorem dX5_setUp_30 : decode cX5_setUp 30 = .ok (.iload_n 2, 1) := by decide +kernel
theorem dX5_setUp_31 : decode cX5_setUp 31 = .ok (.invokevirtual 29, 3) := by decide +kernel
theorem dX5_setUp_34 : decode cX5_setUp 34 = .ok (.iload_n 3, 1) := by decide +kernel
theorem dX5_setUp_35 : decode cX5_setUp 35 = .ok (.ireturn, 1) := by decide +kernel
theorem dX5_takes_0 : decode cX5_takes 0 = .ok (.iload_n 0, 1) := by decide +kernel
theorem dX5_takes_1 : decode cX5_takes 1 = .ok (.tableswitch 52 0 4 #[35, 35, 44, 44, 35], 35) := by decide +kernel
theorem dX5_takes_36 : decode cX5_takes 36 = .ok (.iload_n 1, 1) := by decide +kernel
theorem dX5_takes_37 : decode cX5_takes 37 = .ok (.iconst 1, 1) := by decide +kernel
theorem dX5_takes_38 : decode cX5_takes 38 = .ok (.sipush 200, 3) := by decide +kernel
theorem dX5_takes_41 : decode cX5_takes 41 = .ok (.invokestatic 33, 3) := by decide +kernel
theorem dX5_takes_44 : decode cX5_takes 44 = .ok (.ireturn, 1) := by decide +kernel
theorem dX5_takes_45 : decode cX5_takes 45 = .ok (.iload_n 1, 1) := by decide +kernel
theorem dX5_takes_46 : decode cX5_takes 46 = .ok (.iconst 1, 1) := by decide +kernel
theorem dX5_takes_47 : decode cX5_takes 47 = .ok (.bipush 100, 2) := by decide +kernel
theorem dX5_takes_49 : decode cX5_takes 49 = .ok (.invokestatic 33, 3) := by decide +kernel
theorem dX5_takes_52 : decode cX5_takes 52 = .ok (.ireturn, 1) := by decide +kernel
theorem dX5_takes_53 : decode cX5_takes 53 = .ok (.iconst 0, 1) := by decide +kernel
theorem dX5_takes_54 : decode cX5_takes 54 = .ok (.ireturn, 1) := by decide +kernel
