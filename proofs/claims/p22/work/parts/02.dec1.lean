theorem dX0_init_0 : decode cX0_init 0 = .ok (.aload_n 0, 1) := by decide +kernel
theorem dX0_init_1 : decode cX0_init 1 = .ok (.invokespecial 3, 3) := by decide +kernel
theorem dX0_init_4 : decode cX0_init 4 = .ok (.aload_n 0, 1) := by decide +kernel
theorem dX0_init_5 : decode cX0_init 5 = .ok (.bipush 16, 2) := by decide +kernel
theorem dX0_init_7 : decode cX0_init 7 = .ok (.anewarray 9, 3) := by decide +kernel
theorem dX0_init_10 : decode cX0_init 10 = .ok (.putfield 11, 3) := by decide +kernel
theorem dX0_init_13 : decode cX0_init 13 = .ok (.aload_n 0, 1) := by decide +kernel
theorem dX0_init_14 : decode cX0_init 14 = .ok (.iconst 4, 1) := by decide +kernel
theorem dX0_init_15 : decode cX0_init 15 = .ok (.anewarray 17, 3) := by decide +kernel
theorem dX0_init_18 : decode cX0_init 18 = .ok (.putfield 19, 3) := by decide +kernel
theorem dX0_init_21 : decode cX0_init 21 = .ok (.aload_n 0, 1) := by decide +kernel
theorem dX0_init_22 : decode cX0_init 22 = .ok (.new 9, 3) := by decide +kernel
theorem dX0_init_25 : decode cX0_init 25 = .ok (.dup, 1) := by decide +kernel
theorem dX0_init_26 : decode cX0_init 26 = .ok (.invokespecial 23, 3) := by decide +kernel
theorem dX0_init_29 : decode cX0_init 29 = .ok (.putfield 24, 3) := by decide +kernel
theorem dX0_init_32 : decode cX0_init 32 = .ok (.aload_n 0, 1) := by decide +kernel
theorem dX0_init_33 : decode cX0_init 33 = .ok (.new 17, 3) := by decide +kernel
theorem dX0_init_36 : decode cX0_init 36 = .ok (.dup, 1) := by decide +kernel
theorem dX0_init_37 : decode cX0_init 37 = .ok (.invokespecial 28, 3) := by decide +kernel
theorem dX0_init_40 : decode cX0_init 40 = .ok (.putfield 29, 3) := by decide +kernel
theorem dX0_init_43 : decode cX0_init 43 = .ok (.aload_n 0, 1) := by decide +kernel
theorem dX0_init_44 : decode cX0_init 44 = .ok (.getstatic 33, 3) := by decide +kernel
theorem dX0_init_47 : decode cX0_init 47 = .ok (.invokevirtual 37, 3) := by decide +kernel
theorem dX0_init_50 : decode cX0_init 50 = .ok (.checkcast 38, 3) := by decide +kernel
theorem dX0_init_53 : decode cX0_init 53 = .ok (.putfield 42, 3) := by decide +kernel
theorem dX0_init_56 : decode cX0_init 56 = .ok (.aload_n 0, 1) := by decide +kernel
theorem dX0_init_57 : decode cX0_init 57 = .ok (.iconst 2, 1) := by decide +kernel
theorem dX0_init_58 : decode cX0_init 58 = .ok (.putfield 45, 3) := by decide +kernel
theorem dX0_init_61 : decode cX0_init 61 = .ok (.aload_n 0, 1) := by decide +kernel
theorem dX0_init_62 : decode cX0_init 62 = .ok (.iconst 1, 1) := by decide +kernel
theorem dX0_init_63 : decode cX0_init 63 = .ok (.putfield 49, 3) := by decide +kernel
theorem dX0_init_66 : decode cX0_init 66 = .ok (.aload_n 0, 1) := by decide +kernel
theorem dX0_init_67 : decode cX0_init 67 = .ok (.iconst 0, 1) := by decide +kernel
theorem dX0_init_68 : decode cX0_init 68 = .ok (.putfield 52, 3) := by decide +kernel
theorem dX0_init_71 : decode cX0_init 71 = .ok (.aload_n 0, 1) := by decide +kernel
theorem dX0_init_72 : decode cX0_init 72 = .ok (.iconst (-1), 1) := by decide +kernel
theorem dX0_init_73 : decode cX0_init 73 = .ok (.putfield 55, 3) := by decide +kernel
theorem dX0_init_76 : decode cX0_init 76 = .ok (.aload_n 0, 1) := by decide +kernel
theorem dX0_init_77 : decode cX0_init 77 = .ok (.iconst 0, 1) := by decide +kernel
theorem dX0_init_78 : decode cX0_init 78 = .ok (.putfield 58, 3) := by decide +kernel
theorem dX0_init_81 : decode cX0_init 81 = .ok (.aload_n 0, 1) := by decide +kernel
theorem dX0_init_82 : decode cX0_init 82 = .ok (.iconst 0, 1) := by decide +kernel
theorem dX0_init_83 : decode cX0_init 83 = .ok (.putfield 61, 3) := by decide +kernel
theorem dX0_init_86 : decode cX0_init 86 = .ok (.aload_n 0, 1) := by decide +kernel
theorem dX0_init_87 : decode cX0_init 87 = .ok (.iconst 0, 1) := by decide +kernel
theorem dX0_init_88 : decode cX0_init 88 = .ok (.putfield 64, 3) := by decide +kernel
theorem dX0_init_91 : decode cX0_init 91 = .ok (.aload_n 0, 1) := by decide +kernel
theorem dX0_init_92 : decode cX0_init 92 = .ok (.iconst 0, 1) := by decide +kernel
theorem dX0_init_93 : decode cX0_init 93 = .ok (.putfield 67, 3) := by decide +kernel
theorem dX0_init_96 : decode cX0_init 96 = .ok (.aload_n 0, 1) := by decide +kernel
theorem dX0_init_97 : decode cX0_init 97 = .ok (.iconst 0, 1) := by decide +kernel
theorem dX0_init_98 : decode cX0_init 98 = .ok (.putfield 70, 3) := by decide +kernel
theorem dX0_init_101 : decode cX0_init 101 = .ok (.aload_n 0, 1) := by decide +kernel
theorem dX0_init_102 : decode cX0_init 102 = .ok (.iconst 0, 1) := by decide +kernel
theorem dX0_init_103 : decode cX0_init 103 = .ok (.putfield 73, 3) := by decide +kernel
theorem dX0_init_106 : decode cX0_init 106 = .ok (.aload_n 0, 1) := by decide +kernel
theorem dX0_init_107 : decode cX0_init 107 = .ok (.iconst 0, 1) := by decide +kernel
theorem dX0_init_108 : decode cX0_init 108 = .ok (.putfield 76, 3) := by decide +kernel
theorem dX0_init_111 : decode cX0_init 111 = .ok (.iconst 0, 1) := by decide +kernel
theorem dX0_init_112 : decode cX0_init 112 = .ok (.istore_n 1, 1) := by decide +kernel
theorem dX0_init_113 : decode cX0_init 113 = .ok (.iload_n 1, 1) := by decide +kernel
theorem dX0_init_114 : decode cX0_init 114 = .ok (.aload_n 0, 1) := by decide +kernel
theorem dX0_init_115 : decode cX0_init 115 = .ok (.getfield 11, 3) := by decide +kernel
theorem dX0_init_118 : decode cX0_init 118 = .ok (.arraylength, 1) := by decide +kernel
theorem dX0_init_119 : decode cX0_init 119 = .ok (.if_icmp .ge 22, 3) := by decide +kernel
theorem dX0_init_122 : decode cX0_init 122 = .ok (.aload_n 0, 1) := by decide +kernel
theorem dX0_init_123 : decode cX0_init 123 = .ok (.getfield 11, 3) := by decide +kernel
theorem dX0_init_126 : decode cX0_init 126 = .ok (.iload_n 1, 1) := by decide +kernel
theorem dX0_init_127 : decode cX0_init 127 = .ok (.new 9, 3) := by decide +kernel
theorem dX0_init_130 : decode cX0_init 130 = .ok (.dup, 1) := by decide +kernel
theorem dX0_init_131 : decode cX0_init 131 = .ok (.invokespecial 23, 3) := by decide +kernel
theorem dX0_init_134 : decode cX0_init 134 = .ok (.aastore, 1) := by decide +kernel
theorem dX0_init_135 : decode cX0_init 135 = .ok (.iinc 1 1, 3) := by decide +kernel
theorem dX0_init_138 : decode cX0_init 138 = .ok (.goto (-25), 3) := by decide +kernel
theorem dX0_init_141 : decode cX0_init 141 = .ok (.iconst 0, 1) := by decide +kernel
theorem dX0_init_142 : decode cX0_init 142 = .ok (.istore_n 1, 1) := by decide +kernel
theorem dX0_init_143 : decode cX0_init 143 = .ok (.iload_n 1, 1) := by decide +kernel
theorem dX0_init_144 : decode cX0_init 144 = .ok (.aload_n 0, 1) := by decide +kernel
theorem dX0_init_145 : decode cX0_init 145 = .ok (.getfield 19, 3) := by decide +kernel
theorem dX0_init_148 : decode cX0_init 148 = .ok (.arraylength, 1) := by decide +kernel
theorem dX0_init_149 : decode cX0_init 149 = .ok (.if_icmp .ge 22, 3) := by decide +kernel
theorem dX0_init_152 : decode cX0_init 152 = .ok (.aload_n 0, 1) := by decide +kernel
theorem dX0_init_153 : decode cX0_init 153 = .ok (.getfield 19, 3) := by decide +kernel
theorem dX0_init_156 : decode cX0_init 156 = .ok (.iload_n 1, 1) := by decide +kernel
theorem dX0_init_157 : decode cX0_init 157 = .ok (.new 17, 3) := by decide +kernel
theorem dX0_init_160 : decode cX0_init 160 = .ok (.dup, 1) := by decide +kernel
theorem dX0_init_161 : decode cX0_init 161 = .ok (.invokespecial 28, 3) := by decide +kernel
theorem dX0_init_164 : decode cX0_init 164 = .ok (.aastore, 1) := by decide +kernel
theorem dX0_init_165 : decode cX0_init 165 = .ok (.iinc 1 1, 3) := by decide +kernel
theorem dX0_init_168 : decode cX0_init 168 = .ok (.goto (-25), 3) := by decide +kernel
theorem dX0_init_171 : decode cX0_init 171 = .ok (.return_, 1) := by decide +kernel
theorem dX0_lineAt_0 : decode cX0_lineAt 0 = .ok (.iload_n 1, 1) := by decide +kernel
theorem dX0_lineAt_1 : decode cX0_lineAt 1 = .ok (.ifCond .lt 21, 3) := by decide +kernel
theorem dX0_lineAt_4 : decode cX0_lineAt 4 = .ok (.iload_n 1, 1) := by decide +kernel
theorem dX0_lineAt_5 : decode cX0_lineAt 5 = .ok (.aload_n 0, 1) := by decide +kernel
theorem dX0_lineAt_6 : decode cX0_lineAt 6 = .ok (.getfield 11, 3) := by decide +kernel
theorem dX0_lineAt_9 : decode cX0_lineAt 9 = .ok (.arraylength, 1) := by decide +kernel
theorem dX0_lineAt_10 : decode cX0_lineAt 10 = .ok (.if_icmp .ge 12, 3) := by decide +kernel
theorem dX0_lineAt_13 : decode cX0_lineAt 13 = .ok (.aload_n 0, 1) := by decide +kernel
theorem dX0_lineAt_14 : decode cX0_lineAt 14 = .ok (.getfield 11, 3) := by decide +kernel
theorem dX0_lineAt_17 : decode cX0_lineAt 17 = .ok (.iload_n 1, 1) := by decide +kernel
theorem dX0_lineAt_18 : decode cX0_lineAt 18 = .ok (.aaload, 1) := by decide +kernel
theorem dX0_lineAt_19 : decode cX0_lineAt 19 = .ok (.ifnonnull 8, 3) := by decide +kernel
theorem dX0_lineAt_22 : decode cX0_lineAt 22 = .ok (.aload_n 0, 1) := by decide +kernel
theorem dX0_lineAt_23 : decode cX0_lineAt 23 = .ok (.getfield 24, 3) := by decide +kernel
theorem dX0_lineAt_26 : decode cX0_lineAt 26 = .ok (.areturn, 1) := by decide +kernel
theorem dX0_lineAt_27 : decode cX0_lineAt 27 = .ok (.aload_n 0, 1) := by decide +kernel
theorem dX0_lineAt_28 : decode cX0_lineAt 28 = .ok (.getfield 11, 3) := by decide +kernel
theorem dX0_lineAt_31 : decode cX0_lineAt 31 = .ok (.iload_n 1, 1) := by decide +kernel
theorem dX0_lineAt_32 : decode cX0_lineAt 32 = .ok (.aaload, 1) := by decide +kernel
theorem dX0_lineAt_33 : decode cX0_lineAt 33 = .ok (.areturn, 1) := by decide +kernel
theorem dX0_finderAt_0 : decode cX0_finderAt 0 = .ok (.iload_n 1, 1) := by decide +kernel
theorem dX0_finderAt_1 : decode cX0_finderAt 1 = .ok (.ifCond .lt 21, 3) := by decide +kernel
theorem dX0_finderAt_4 : decode cX0_finderAt 4 = .ok (.iload_n 1, 1) := by decide +kernel
theorem dX0_finderAt_5 : decode cX0_finderAt 5 = .ok (.aload_n 0, 1) := by decide +kernel
theorem dX0_finderAt_6 : decode cX0_finderAt 6 = .ok (.getfield 19, 3) := by decide +kernel
theorem dX0_finderAt_9 : decode cX0_finderAt 9 = .ok (.arraylength, 1) := by decide +kernel
theorem dX0_finderAt_10 : decode cX0_finderAt 10 = .ok (.if_icmp .ge 12, 3) := by decide +kernel
theorem dX0_finderAt_13 : decode cX0_finderAt 13 = .ok (.aload_n 0, 1) := by decide +kernel
theorem dX0_finderAt_14 : decode cX0_finderAt 14 = .ok (.getfield 19, 3) := by decide +kernel
theorem dX0_finderAt_17 : decode cX0_finderAt 17 = .ok (.iload_n 1, 1) := by decide +kernel
theorem dX0_finderAt_18 : decode cX0_finderAt 18 = .ok (.aaload, 1) := by decide +kernel
theorem dX0_finderAt_19 : decode cX0_finderAt 19 = .ok (.ifnonnull 8, 3) := by decide +kernel
theorem dX0_finderAt_22 : decode cX0_finderAt 22 = .ok (.aload_n 0, 1) := by decide +kernel
theorem dX0_finderAt_23 : decode cX0_finderAt 23 = .ok (.getfield 29, 3) := by decide +kernel
theorem dX0_finderAt_26 : decode cX0_finderAt 26 = .ok (.areturn, 1) := by decide +kernel
theorem dX0_finderAt_27 : decode cX0_finderAt 27 = .ok (.aload_n 0, 1) := by decide +kernel
theorem dX0_finderAt_28 : decode cX0_finderAt 28 = .ok (.getfield 19, 3) := by decide +kernel
theorem dX0_finderAt_31 : decode cX0_finderAt 31 = .ok (.iload_n 1, 1) := by decide +kernel
theorem dX0_finderAt_32 : decode cX0_finderAt 32 = .ok (.aaload, 1) := by decide +kernel
theorem dX0_finderAt_33 : decode cX0_finderAt 33 = .ok (.areturn, 1) := by decide +kernel
theorem dX0_settingAt_0 : decode cX0_settingAt 0 = .ok (.iload_n 1, 1) := by decide +kernel
theorem dX0_settingAt_1 : decode cX0_settingAt 1 = .ok (.ifCond .lt 21, 3) := by decide +kernel
theorem dX0_settingAt_4 : decode cX0_settingAt 4 = .ok (.iload_n 1, 1) := by decide +kernel
theorem dX0_settingAt_5 : decode cX0_settingAt 5 = .ok (.aload_n 0, 1) := by decide +kernel
theorem dX0_settingAt_6 : decode cX0_settingAt 6 = .ok (.getfield 42, 3) := by decide +kernel
theorem dX0_settingAt_9 : decode cX0_settingAt 9 = .ok (.arraylength, 1) := by decide +kernel
theorem dX0_settingAt_10 : decode cX0_settingAt 10 = .ok (.if_icmp .ge 12, 3) := by decide +kernel
theorem dX0_settingAt_13 : decode cX0_settingAt 13 = .ok (.aload_n 0, 1) := by decide +kernel
theorem dX0_settingAt_14 : decode cX0_settingAt 14 = .ok (.getfield 42, 3) := by decide +kernel
theorem dX0_settingAt_17 : decode cX0_settingAt 17 = .ok (.iload_n 1, 1) := by decide +kernel
theorem dX0_settingAt_18 : decode cX0_settingAt 18 = .ok (.iaload, 1) := by decide +kernel
theorem dX0_settingAt_19 : decode cX0_settingAt 19 = .ok (.goto 5, 3) := by decide +kernel
theorem dX0_settingAt_22 : decode cX0_settingAt 22 = .ok (.bipush (-2), 2) := by decide +kernel
theorem dX0_settingAt_24 : decode cX0_settingAt 24 = .ok (.ireturn, 1) := by decide +kernel
theorem dX0_changeSetting_0 : decode cX0_changeSetting 0 = .ok (.aload_n 0, 1) := by decide +kernel
theorem dX0_changeSetting_1 : decode cX0_changeSetting 1 = .ok (.iload_n 1, 1) := by decide +kernel
theorem dX0_changeSetting_2 : decode cX0_changeSetting 2 = .ok (.invokevirtual 79, 3) := by decide +kernel
theorem dX0_changeSetting_5 : decode cX0_changeSetting 5 = .ok (.istore_n 3, 1) := by decide +kernel
theorem dX0_changeSetting_6 : decode cX0_changeSetting 6 = .ok (.iload_n 1, 1) := by decide +kernel
theorem dX0_changeSetting_7 : decode cX0_changeSetting 7 = .ok (.ifCond .lt 19, 3) := by decide +kernel
theorem dX0_changeSetting_10 : decode cX0_changeSetting 10 = .ok (.iload_n 1, 1) := by decide +kernel
theorem dX0_changeSetting_11 : decode cX0_changeSetting 11 = .ok (.aload_n 0, 1) := by decide +kernel
theorem dX0_changeSetting_12 : decode cX0_changeSetting 12 = .ok (.getfield 42, 3) := by decide +kernel
theorem dX0_changeSetting_15 : decode cX0_changeSetting 15 = .ok (.arraylength, 1) := by decide +kernel
theorem dX0_changeSetting_16 : decode cX0_changeSetting 16 = .ok (.if_icmp .ge 10, 3) := by decide +kernel
theorem dX0_changeSetting_19 : decode cX0_changeSetting 19 = .ok (.aload_n 0, 1) := by decide +kernel
theorem dX0_changeSetting_20 : decode cX0_changeSetting 20 = .ok (.getfield 42, 3) := by decide +kernel
theorem dX0_changeSetting_23 : decode cX0_changeSetting 23 = .ok (.iload_n 1, 1) := by decide +kernel
theorem dX0_changeSetting_24 : decode cX0_changeSetting 24 = .ok (.iload_n 2, 1) := by decide +kernel
theorem dX0_changeSetting_25 : decode cX0_changeSetting 25 = .ok (.iastore, 1) := by decide +kernel
theorem dX0_changeSetting_26 : decode cX0_changeSetting 26 = .ok (.iload_n 3, 1) := by decide +kernel
theorem dX0_changeSetting_27 : decode cX0_changeSetting 27 = .ok (.ireturn, 1) := by decide +kernel
theorem dX0_renew_0 : decode cX0_renew 0 = .ok (.iconst 0, 1) := by decide +kernel
theorem dX0_renew_1 : decode cX0_renew 1 = .ok (.istore_n 3, 1) := by decide +kernel
theorem dX0_renew_2 : decode cX0_renew 2 = .ok (.iload_n 3, 1) := by decide +kernel
theorem dX0_renew_3 : decode cX0_renew 3 = .ok (.bipush 16, 2) := by decide +kernel
theorem dX0_renew_5 : decode cX0_renew 5 = .ok (.if_icmp .ge 17, 3) := by decide +kernel
theorem dX0_renew_8 : decode cX0_renew 8 = .ok (.aload_n 0, 1) := by decide +kernel
theorem dX0_renew_9 : decode cX0_renew 9 = .ok (.iload_n 3, 1) := by decide +kernel
theorem dX0_renew_10 : decode cX0_renew 10 = .ok (.invokevirtual 83, 3) := by decide +kernel
theorem dX0_renew_13 : decode cX0_renew 13 = .ok (.invokevirtual 87, 3) := by decide +kernel
theorem dX0_renew_16 : decode cX0_renew 16 = .ok (.iinc 3 1, 3) := by decide +kernel
theorem dX0_renew_19 : decode cX0_renew 19 = .ok (.goto (-17), 3) := by decide +kernel
theorem dX0_renew_22 : decode cX0_renew 22 = .ok (.iconst 0, 1) := by decide +kernel
theorem dX0_renew_23 : decode cX0_renew 23 = .ok (.istore_n 3, 1) := by decide +kernel
theorem dX0_renew_24 : decode cX0_renew 24 = .ok (.iload_n 3, 1) := by decide +kernel
theorem dX0_renew_25 : decode cX0_renew 25 = .ok (.iconst 4, 1) := by decide +kernel
theorem dX0_renew_26 : decode cX0_renew 26 = .ok (.if_icmp .ge 17, 3) := by decide +kernel
theorem dX0_renew_29 : decode cX0_renew 29 = .ok (.aload_n 0, 1) := by decide +kernel
theorem dX0_renew_30 : decode cX0_renew 30 = .ok (.iload_n 3, 1) := by decide +kernel
theorem dX0_renew_31 : decode cX0_renew 31 = .ok (.invokevirtual 90, 3) := by decide +kernel
theorem dX0_renew_34 : decode cX0_renew 34 = .ok (.invokevirtual 94, 3) := by decide +kernel
theorem dX0_renew_37 : decode cX0_renew 37 = .ok (.iinc 3 1, 3) := by decide +kernel
theorem dX0_renew_40 : decode cX0_renew 40 = .ok (.goto (-16), 3) := by decide +kernel
theorem dX0_renew_43 : decode cX0_renew 43 = .ok (.aload_n 0, 1) := by decide +kernel
theorem dX0_renew_44 : decode cX0_renew 44 = .ok (.iload_n 1, 1) := by decide +kernel
theorem dX0_renew_45 : decode cX0_renew 45 = .ok (.putfield 45, 3) := by decide +kernel
theorem dX0_renew_48 : decode cX0_renew 48 = .ok (.aload_n 0, 1) := by decide +kernel
theorem dX0_renew_49 : decode cX0_renew 49 = .ok (.iload_n 2, 1) := by decide +kernel
theorem dX0_renew_50 : decode cX0_renew 50 = .ok (.putfield 49, 3) := by decide +kernel
theorem dX0_renew_53 : decode cX0_renew 53 = .ok (.aload_n 0, 1) := by decide +kernel
theorem dX0_renew_54 : decode cX0_renew 54 = .ok (.iconst 0, 1) := by decide +kernel
theorem dX0_renew_55 : decode cX0_renew 55 = .ok (.putfield 52, 3) := by decide +kernel
theorem dX0_renew_58 : decode cX0_renew 58 = .ok (.aload_n 0, 1) := by decide +kernel
theorem dX0_renew_59 : decode cX0_renew 59 = .ok (.iconst (-1), 1) := by decide +kernel
theorem dX0_renew_60 : decode cX0_renew 60 = .ok (.putfield 55, 3) := by decide +kernel
theorem dX0_renew_63 : decode cX0_renew 63 = .ok (.aload_n 0, 1) := by decide +kernel
theorem dX0_renew_64 : decode cX0_renew 64 = .ok (.iconst 0, 1) := by decide +kernel
theorem dX0_renew_65 : decode cX0_renew 65 = .ok (.putfield 58, 3) := by decide +kernel
theorem dX0_renew_68 : decode cX0_renew 68 = .ok (.aload_n 0, 1) := by decide +kernel
theorem dX0_renew_69 : decode cX0_renew 69 = .ok (.iconst 0, 1) := by decide +kernel
theorem dX0_renew_70 : decode cX0_renew 70 = .ok (.putfield 61, 3) := by decide +kernel
theorem dX0_renew_73 : decode cX0_renew 73 = .ok (.aload_n 0, 1) := by decide +kernel
theorem dX0_renew_74 : decode cX0_renew 74 = .ok (.iconst 0, 1) := by decide +kernel
theorem dX0_renew_75 : decode cX0_renew 75 = .ok (.putfield 64, 3) := by decide +kernel
theorem dX0_renew_78 : decode cX0_renew 78 = .ok (.aload_n 0, 1) := by decide +kernel
theorem dX0_renew_79 : decode cX0_renew 79 = .ok (.iconst 0, 1) := by decide +kernel
theorem dX0_renew_80 : decode cX0_renew 80 = .ok (.putfield 67, 3) := by decide +kernel
theorem dX0_renew_83 : decode cX0_renew 83 = .ok (.aload_n 0, 1) := by decide +kernel
theorem dX0_renew_84 : decode cX0_renew 84 = .ok (.iconst 0, 1) := by decide +kernel
theorem dX0_renew_85 : decode cX0_renew 85 = .ok (.putfield 70, 3) := by decide +kernel
theorem dX0_renew_88 : decode cX0_renew 88 = .ok (.aload_n 0, 1) := by decide +kernel
theorem dX0_renew_89 : decode cX0_renew 89 = .ok (.iconst 0, 1) := by decide +kernel
theorem dX0_renew_90 : decode cX0_renew 90 = .ok (.putfield 73, 3) := by decide +kernel
theorem dX0_renew_93 : decode cX0_renew 93 = .ok (.aload_n 0, 1) := by decide +kernel
theorem dX0_renew_94 : decode cX0_renew 94 = .ok (.iconst 0, 1) := by decide +kernel
theorem dX0_renew_95 : decode cX0_renew 95 = .ok (.putfield 76, 3) := by decide +kernel
theorem dX0_renew_98 : decode cX0_renew 98 = .ok (.return_, 1) := by decide +kernel
theorem dX0_copyFrom_0 : decode cX0_copyFrom 0 = .ok (.iconst 0, 1) := by decide +kernel
theorem dX0_copyFrom_1 : decode cX0_copyFrom 1 = .ok (.istore_n 2, 1) := by decide +kernel
theorem dX0_copyFrom_2 : decode cX0_copyFrom 2 = .ok (.iload_n 2, 1) := by decide +kernel
theorem dX0_copyFrom_3 : decode cX0_copyFrom 3 = .ok (.bipush 16, 2) := by decide +kernel
theorem dX0_copyFrom_5 : decode cX0_copyFrom 5 = .ok (.if_icmp .ge 22, 3) := by decide +kernel
theorem dX0_copyFrom_8 : decode cX0_copyFrom 8 = .ok (.aload_n 0, 1) := by decide +kernel
theorem dX0_copyFrom_9 : decode cX0_copyFrom 9 = .ok (.iload_n 2, 1) := by decide +kernel
theorem dX0_copyFrom_10 : decode cX0_copyFrom 10 = .ok (.invokevirtual 83, 3) := by decide +kernel
theorem dX0_copyFrom_13 : decode cX0_copyFrom 13 = .ok (.aload_n 1, 1) := by decide +kernel
theorem dX0_copyFrom_14 : decode cX0_copyFrom 14 = .ok (.iload_n 2, 1) := by decide +kernel
theorem dX0_copyFrom_15 : decode cX0_copyFrom 15 = .ok (.invokevirtual 83, 3) := by decide +kernel
theorem dX0_copyFrom_18 : decode cX0_copyFrom 18 = .ok (.invokevirtual 95, 3) := by decide +kernel
theorem dX0_copyFrom_21 : decode cX0_copyFrom 21 = .ok (.iinc 2 1, 3) := by decide +kernel
theorem dX0_copyFrom_24 : decode cX0_copyFrom 24 = .ok (.goto (-22), 3) := by decide +kernel
theorem dX0_copyFrom_27 : decode cX0_copyFrom 27 = .ok (.iconst 0, 1) := by decide +kernel
theorem dX0_copyFrom_28 : decode cX0_copyFrom 28 = .ok (.istore_n 2, 1) := by decide +kernel
theorem dX0_copyFrom_29 : decode cX0_copyFrom 29 = .ok (.iload_n 2, 1) := by decide +kernel
theorem dX0_copyFrom_30 : decode cX0_copyFrom 30 = .ok (.iconst 4, 1) := by decide +kernel
theorem dX0_copyFrom_31 : decode cX0_copyFrom 31 = .ok (.if_icmp .ge 22, 3) := by decide +kernel
theorem dX0_copyFrom_34 : decode cX0_copyFrom 34 = .ok (.aload_n 0, 1) := by decide +kernel
theorem dX0_copyFrom_35 : decode cX0_copyFrom 35 = .ok (.iload_n 2, 1) := by decide +kernel
theorem dX0_copyFrom_36 : decode cX0_copyFrom 36 = .ok (.invokevirtual 90, 3) := by decide +kernel
theorem dX0_copyFrom_39 : decode cX0_copyFrom 39 = .ok (.aload_n 1, 1) := by decide +kernel
theorem dX0_copyFrom_40 : decode cX0_copyFrom 40 = .ok (.iload_n 2, 1) := by decide +kernel
theorem dX0_copyFrom_41 : decode cX0_copyFrom 41 = .ok (.invokevirtual 90, 3) := by decide +kernel
theorem dX0_copyFrom_44 : decode cX0_copyFrom 44 = .ok (.invokevirtual 99, 3) := by decide +kernel
theorem dX0_copyFrom_47 : decode cX0_copyFrom 47 = .ok (.iinc 2 1, 3) := by decide +kernel
theorem dX0_copyFrom_50 : decode cX0_copyFrom 50 = .ok (.goto (-21), 3) := by decide +kernel
theorem dX0_copyFrom_53 : decode cX0_copyFrom 53 = .ok (.iconst 0, 1) := by decide +kernel
theorem dX0_copyFrom_54 : decode cX0_copyFrom 54 = .ok (.istore_n 2, 1) := by decide +kernel
theorem dX0_copyFrom_55 : decode cX0_copyFrom 55 = .ok (.iload_n 2, 1) := by decide +kernel
theorem dX0_copyFrom_56 : decode cX0_copyFrom 56 = .ok (.aload_n 0, 1) := by decide +kernel
theorem dX0_copyFrom_57 : decode cX0_copyFrom 57 = .ok (.getfield 42, 3) := by decide +kernel
theorem dX0_copyFrom_60 : decode cX0_copyFrom 60 = .ok (.arraylength, 1) := by decide +kernel
theorem dX0_copyFrom_61 : decode cX0_copyFrom 61 = .ok (.if_icmp .ge 20, 3) := by decide +kernel
theorem dX0_copyFrom_64 : decode cX0_copyFrom 64 = .ok (.aload_n 0, 1) := by decide +kernel
theorem dX0_copyFrom_65 : decode cX0_copyFrom 65 = .ok (.getfield 42, 3) := by decide +kernel
theorem dX0_copyFrom_68 : decode cX0_copyFrom 68 = .ok (.iload_n 2, 1) := by decide +kernel
theorem dX0_copyFrom_69 : decode cX0_copyFrom 69 = .ok (.aload_n 1, 1) := by decide +kernel
theorem dX0_copyFrom_70 : decode cX0_copyFrom 70 = .ok (.iload_n 2, 1) := by decide +kernel
theorem dX0_copyFrom_71 : decode cX0_copyFrom 71 = .ok (.invokevirtual 79, 3) := by decide +kernel
theorem dX0_copyFrom_74 : decode cX0_copyFrom 74 = .ok (.iastore, 1) := by decide +kernel
theorem dX0_copyFrom_75 : decode cX0_copyFrom 75 = .ok (.iinc 2 1, 3) := by decide +kernel
theorem dX0_copyFrom_78 : decode cX0_copyFrom 78 = .ok (.goto (-23), 3) := by decide +kernel
theorem dX0_copyFrom_81 : decode cX0_copyFrom 81 = .ok (.aload_n 0, 1) := by decide +kernel
theorem dX0_copyFrom_82 : decode cX0_copyFrom 82 = .ok (.aload_n 1, 1) := by decide +kernel
theorem dX0_copyFrom_83 : decode cX0_copyFrom 83 = .ok (.getfield 45, 3) := by decide +kernel
theorem dX0_copyFrom_86 : decode cX0_copyFrom 86 = .ok (.putfield 45, 3) := by decide +kernel
theorem dX0_copyFrom_89 : decode cX0_copyFrom 89 = .ok (.aload_n 0, 1) := by decide +kernel
theorem dX0_copyFrom_90 : decode cX0_copyFrom 90 = .ok (.aload_n 1, 1) := by decide +kernel
theorem dX0_copyFrom_91 : decode cX0_copyFrom 91 = .ok (.getfield 49, 3) := by decide +kernel
theorem dX0_copyFrom_94 : decode cX0_copyFrom 94 = .ok (.putfield 49, 3) := by decide +kernel
theorem dX0_copyFrom_97 : decode cX0_copyFrom 97 = .ok (.aload_n 0, 1) := by decide +kernel
theorem dX0_copyFrom_98 : decode cX0_copyFrom 98 = .ok (.aload_n 1, 1) := by decide +kernel
theorem dX0_copyFrom_99 : decode cX0_copyFrom 99 = .ok (.getfield 52, 3) := by decide +kernel
theorem dX0_copyFrom_102 : decode cX0_copyFrom 102 = .ok (.putfield 52, 3) := by decide +kernel
theorem dX0_copyFrom_105 : decode cX0_copyFrom 105 = .ok (.aload_n 0, 1) := by decide +kernel
theorem dX0_copyFrom_106 : decode cX0_copyFrom 106 = .ok (.aload_n 1, 1) := by decide +kernel
theorem dX0_copyFrom_107 : decode cX0_copyFrom 107 = .ok (.getfield 55, 3) := by decide +kernel
theorem dX0_copyFrom_110 : decode cX0_copyFrom 110 = .ok (.putfield 55, 3) := by decide +kernel
theorem dX0_copyFrom_113 : decode cX0_copyFrom 113 = .ok (.aload_n 0, 1) := by decide +kernel
theorem dX0_copyFrom_114 : decode cX0_copyFrom 114 = .ok (.aload_n 1, 1) := by decide +kernel
theorem dX0_copyFrom_115 : decode cX0_copyFrom 115 = .ok (.getfield 58, 3) := by decide +kernel
theorem dX0_copyFrom_118 : decode cX0_copyFrom 118 = .ok (.putfield 58, 3) := by decide +kernel
theorem dX0_copyFrom_121 : decode cX0_copyFrom 121 = .ok (.aload_n 0, 1) := by decide +kernel
theorem dX0_copyFrom_122 : decode cX0_copyFrom 122 = .ok (.aload_n 1, 1) := by decide +kernel
theorem dX0_copyFrom_123 : decode cX0_copyFrom 123 = .ok (.getfield 61, 3) := by decide +kernel
theorem dX0_copyFrom_126 : decode cX0_copyFrom 126 = .ok (.putfield 61, 3) := by decide +kernel
theorem dX0_copyFrom_129 : decode cX0_copyFrom 129 = .ok (.aload_n 0, 1) := by decide +kernel
theorem dX0_copyFrom_130 : decode cX0_copyFrom 130 = .ok (.aload_n 1, 1) := by decide +kernel
theorem dX0_copyFrom_131 : decode cX0_copyFrom 131 = .ok (.getfield 64, 3) := by decide +kernel
theorem dX0_copyFrom_134 : decode cX0_copyFrom 134 = .ok (.putfield 64, 3) := by decide +kernel
theorem dX0_copyFrom_137 : decode cX0_copyFrom 137 = .ok (.aload_n 0, 1) := by decide +kernel
theorem dX0_copyFrom_138 : decode cX0_copyFrom 138 = .ok (.aload_n 1, 1) := by decide +kernel
theorem dX0_copyFrom_139 : decode cX0_copyFrom 139 = .ok (.getfield 67, 3) := by decide +kernel
theorem dX0_copyFrom_142 : decode cX0_copyFrom 142 = .ok (.putfield 67, 3) := by decide +kernel
theorem dX0_copyFrom_145 : decode cX0_copyFrom 145 = .ok (.aload_n 0, 1) := by decide +kernel
theorem dX0_copyFrom_146 : decode cX0_copyFrom 146 = .ok (.aload_n 1, 1) := by decide +kernel
theorem dX0_copyFrom_147 : decode cX0_copyFrom 147 = .ok (.getfield 70, 3) := by decide +kernel
theorem dX0_copyFrom_150 : decode cX0_copyFrom 150 = .ok (.putfield 70, 3) := by decide +kernel
theorem dX0_copyFrom_153 : decode cX0_copyFrom 153 = .ok (.aload_n 0, 1) := by decide +kernel
theorem dX0_copyFrom_154 : decode cX0_copyFrom 154 = .ok (.aload_n 1, 1) := by decide +kernel
theorem dX0_copyFrom_155 : decode cX0_copyFrom 155 = .ok (.getfield 73, 3) := by decide +kernel
theorem dX0_copyFrom_158 : decode cX0_copyFrom 158 = .ok (.putfield 73, 3) := by decide +kernel
theorem dX0_copyFrom_161 : decode cX0_copyFrom 161 = .ok (.aload_n 0, 1) := by decide +kernel
theorem dX0_copyFrom_162 : decode cX0_copyFrom 162 = .ok (.aload_n 1, 1) := by decide +kernel
theorem dX0_copyFrom_163 : decode cX0_copyFrom 163 = .ok (.getfield 76, 3) := by decide +kernel
theorem dX0_copyFrom_166 : decode cX0_copyFrom 166 = .ok (.putfield 76, 3) := by decide +kernel
theorem dX0_copyFrom_169 : decode cX0_copyFrom 169 = .ok (.return_, 1) := by decide +kernel
theorem dX0_liftLine_0 : decode cX0_liftLine 0 = .ok (.aload_n 0, 1) := by decide +kernel
theorem dX0_liftLine_1 : decode cX0_liftLine 1 = .ok (.iload_n 1, 1) := by decide +kernel
theorem dX0_liftLine_2 : decode cX0_liftLine 2 = .ok (.invokevirtual 83, 3) := by decide +kernel
theorem dX0_liftLine_5 : decode cX0_liftLine 5 = .ok (.astore_n 2, 1) := by decide +kernel
theorem dX0_liftLine_6 : decode cX0_liftLine 6 = .ok (.aload_n 2, 1) := by decide +kernel
theorem dX0_liftLine_7 : decode cX0_liftLine 7 = .ok (.getfield 102, 3) := by decide +kernel
theorem dX0_liftLine_10 : decode cX0_liftLine 10 = .ok (.ifCond .eq 6, 3) := by decide +kernel
theorem dX0_liftLine_13 : decode cX0_liftLine 13 = .ok (.bipush (-5), 2) := by decide +kernel
theorem dX0_liftLine_15 : decode cX0_liftLine 15 = .ok (.ireturn, 1) := by decide +kernel
theorem dX0_liftLine_16 : decode cX0_liftLine 16 = .ok (.aload_n 2, 1) := by decide +kernel
theorem dX0_liftLine_17 : decode cX0_liftLine 17 = .ok (.iconst 1, 1) := by decide +kernel
theorem dX0_liftLine_18 : decode cX0_liftLine 18 = .ok (.putfield 102, 3) := by decide +kernel
theorem dX0_liftLine_21 : decode cX0_liftLine 21 = .ok (.aload_n 2, 1) := by decide +kernel
theorem dX0_liftLine_22 : decode cX0_liftLine 22 = .ok (.getfield 106, 3) := by decide +kernel
theorem dX0_liftLine_25 : decode cX0_liftLine 25 = .ok (.ifCond .ne 31, 3) := by decide +kernel
theorem dX0_liftLine_28 : decode cX0_liftLine 28 = .ok (.aload_n 2, 1) := by decide +kernel
theorem dX0_liftLine_29 : decode cX0_liftLine 29 = .ok (.iconst 1, 1) := by decide +kernel
theorem dX0_liftLine_30 : decode cX0_liftLine 30 = .ok (.putfield 106, 3) := by decide +kernel
theorem dX0_liftLine_33 : decode cX0_liftLine 33 = .ok (.aload_n 2, 1) := by decide +kernel
theorem dX0_liftLine_34 : decode cX0_liftLine 34 = .ok (.iconst 0, 1) := by decide +kernel
theorem dX0_liftLine_35 : decode cX0_liftLine 35 = .ok (.putfield 109, 3) := by decide +kernel
theorem dX0_liftLine_38 : decode cX0_liftLine 38 = .ok (.aload_n 0, 1) := by decide +kernel
theorem dX0_liftLine_39 : decode cX0_liftLine 39 = .ok (.dup, 1) := by decide +kernel
theorem dX0_liftLine_40 : decode cX0_liftLine 40 = .ok (.getfield 58, 3) := by decide +kernel
theorem dX0_liftLine_43 : decode cX0_liftLine 43 = .ok (.iconst 1, 1) := by decide +kernel
theorem dX0_liftLine_44 : decode cX0_liftLine 44 = .ok (.iadd, 1) := by decide +kernel
theorem dX0_liftLine_45 : decode cX0_liftLine 45 = .ok (.putfield 58, 3) := by decide +kernel
theorem dX0_liftLine_48 : decode cX0_liftLine 48 = .ok (.aload_n 2, 1) := by decide +kernel
theorem dX0_liftLine_49 : decode cX0_liftLine 49 = .ok (.aload_n 0, 1) := by decide +kernel
theorem dX0_liftLine_50 : decode cX0_liftLine 50 = .ok (.getfield 58, 3) := by decide +kernel
theorem dX0_liftLine_53 : decode cX0_liftLine 53 = .ok (.putfield 112, 3) := by decide +kernel
theorem dX0_liftLine_56 : decode cX0_liftLine 56 = .ok (.aload_n 2, 1) := by decide +kernel
theorem dX0_liftLine_57 : decode cX0_liftLine 57 = .ok (.getfield 106, 3) := by decide +kernel
theorem dX0_liftLine_60 : decode cX0_liftLine 60 = .ok (.ireturn, 1) := by decide +kernel
theorem dX0_hangLine_0 : decode cX0_hangLine 0 = .ok (.aload_n 0, 1) := by decide +kernel
theorem dX0_hangLine_1 : decode cX0_hangLine 1 = .ok (.iload_n 1, 1) := by decide +kernel
theorem dX0_hangLine_2 : decode cX0_hangLine 2 = .ok (.invokevirtual 83, 3) := by decide +kernel
theorem dX0_hangLine_5 : decode cX0_hangLine 5 = .ok (.astore_n 2, 1) := by decide +kernel
theorem dX0_hangLine_6 : decode cX0_hangLine 6 = .ok (.aload_n 2, 1) := by decide +kernel
theorem dX0_hangLine_7 : decode cX0_hangLine 7 = .ok (.getfield 102, 3) := by decide +kernel
theorem dX0_hangLine_10 : decode cX0_hangLine 10 = .ok (.ifCond .ne 6, 3) := by decide +kernel
theorem dX0_hangLine_13 : decode cX0_hangLine 13 = .ok (.bipush (-5), 2) := by decide +kernel
theorem dX0_hangLine_15 : decode cX0_hangLine 15 = .ok (.ireturn, 1) := by decide +kernel
theorem dX0_hangLine_16 : decode cX0_hangLine 16 = .ok (.aload_n 2, 1) := by decide +kernel
theorem dX0_hangLine_17 : decode cX0_hangLine 17 = .ok (.getfield 106, 3) := by decide +kernel
theorem dX0_hangLine_20 : decode cX0_hangLine 20 = .ok (.istore_n 3, 1) := by decide +kernel
theorem dX0_hangLine_21 : decode cX0_hangLine 21 = .ok (.aload_n 2, 1) := by decide +kernel
theorem dX0_hangLine_22 : decode cX0_hangLine 22 = .ok (.iconst 0, 1) := by decide +kernel
theorem dX0_hangLine_23 : decode cX0_hangLine 23 = .ok (.putfield 102, 3) := by decide +kernel
theorem dX0_hangLine_26 : decode cX0_hangLine 26 = .ok (.aload_n 2, 1) := by decide +kernel
theorem dX0_hangLine_27 : decode cX0_hangLine 27 = .ok (.invokevirtual 115, 3) := by decide +kernel
theorem dX0_hangLine_30 : decode cX0_hangLine 30 = .ok (.ifCond .ne 29, 3) := by decide +kernel
theorem dX0_hangLine_33 : decode cX0_hangLine 33 = .ok (.aload_n 2, 1) := by decide +kernel
theorem dX0_hangLine_34 : decode cX0_hangLine 34 = .ok (.getfield 119, 3) := by decide +kernel
theorem dX0_hangLine_37 : decode cX0_hangLine 37 = .ok (.bipush (-6), 2) := by decide +kernel
theorem dX0_hangLine_39 : decode cX0_hangLine 39 = .ok (.if_icmp .eq 15, 3) := by decide +kernel
theorem dX0_hangLine_42 : decode cX0_hangLine 42 = .ok (.aload_n 0, 1) := by decide +kernel
theorem dX0_hangLine_43 : decode cX0_hangLine 43 = .ok (.aload_n 0, 1) := by decide +kernel
theorem dX0_hangLine_44 : decode cX0_hangLine 44 = .ok (.aload_n 2, 1) := by decide +kernel
theorem dX0_hangLine_45 : decode cX0_hangLine 45 = .ok (.getfield 119, 3) := by decide +kernel
theorem dX0_hangLine_48 : decode cX0_hangLine 48 = .ok (.invokevirtual 90, 3) := by decide +kernel
theorem dX0_hangLine_51 : decode cX0_hangLine 51 = .ok (.invokevirtual 122, 3) := by decide +kernel
theorem dX0_hangLine_54 : decode cX0_hangLine 54 = .ok (.aload_n 2, 1) := by decide +kernel
theorem dX0_hangLine_55 : decode cX0_hangLine 55 = .ok (.iconst 0, 1) := by decide +kernel
theorem dX0_hangLine_56 : decode cX0_hangLine 56 = .ok (.invokevirtual 125, 3) := by decide +kernel
theorem dX0_hangLine_59 : decode cX0_hangLine 59 = .ok (.iload_n 3, 1) := by decide +kernel
theorem dX0_hangLine_60 : decode cX0_hangLine 60 = .ok (.ireturn, 1) := by decide +kernel
theorem dX0_release_0 : decode cX0_release 0 = .ok (.aload_n 0, 1) := by decide +kernel
theorem dX0_release_1 : decode cX0_release 1 = .ok (.aload_n 1, 1) := by decide +kernel
theorem dX0_release_2 : decode cX0_release 2 = .ok (.getfield 129, 3) := by decide +kernel
theorem dX0_release_5 : decode cX0_release 5 = .ok (.invokevirtual 83, 3) := by decide +kernel
theorem dX0_release_8 : decode cX0_release 8 = .ok (.astore_n 2, 1) := by decide +kernel
theorem dX0_release_9 : decode cX0_release 9 = .ok (.aload_n 2, 1) := by decide +kernel
theorem dX0_release_10 : decode cX0_release 10 = .ok (.invokevirtual 115, 3) := by decide +kernel
theorem dX0_release_13 : decode cX0_release 13 = .ok (.ifCond .eq 25, 3) := by decide +kernel
theorem dX0_release_16 : decode cX0_release 16 = .ok (.aload_n 2, 1) := by decide +kernel
theorem dX0_release_17 : decode cX0_release 17 = .ok (.getfield 102, 3) := by decide +kernel
theorem dX0_release_20 : decode cX0_release 20 = .ok (.ifCond .eq 18, 3) := by decide +kernel
theorem dX0_release_23 : decode cX0_release 23 = .ok (.aload_n 2, 1) := by decide +kernel
theorem dX0_release_24 : decode cX0_release 24 = .ok (.bipush 6, 2) := by decide +kernel
theorem dX0_release_26 : decode cX0_release 26 = .ok (.putfield 109, 3) := by decide +kernel
theorem dX0_release_29 : decode cX0_release 29 = .ok (.aload_n 2, 1) := by decide +kernel
theorem dX0_release_30 : decode cX0_release 30 = .ok (.bipush 10, 2) := by decide +kernel
theorem dX0_release_32 : decode cX0_release 32 = .ok (.invokevirtual 125, 3) := by decide +kernel
theorem dX0_release_35 : decode cX0_release 35 = .ok (.goto 15, 3) := by decide +kernel
theorem dX0_release_38 : decode cX0_release 38 = .ok (.aload_n 2, 1) := by decide +kernel
theorem dX0_release_39 : decode cX0_release 39 = .ok (.invokevirtual 115, 3) := by decide +kernel
theorem dX0_release_42 : decode cX0_release 42 = .ok (.ifCond .eq 8, 3) := by decide +kernel
theorem dX0_release_45 : decode cX0_release 45 = .ok (.aload_n 2, 1) := by decide +kernel
theorem dX0_release_46 : decode cX0_release 46 = .ok (.iconst 0, 1) := by decide +kernel
theorem dX0_release_47 : decode cX0_release 47 = .ok (.invokevirtual 125, 3) := by decide +kernel
theorem dX0_release_50 : decode cX0_release 50 = .ok (.aload_n 1, 1) := by decide +kernel
theorem dX0_release_51 : decode cX0_release 51 = .ok (.invokevirtual 132, 3) := by decide +kernel
theorem dX0_release_54 : decode cX0_release 54 = .ok (.return_, 1) := by decide +kernel
theorem dX0_dialDigit_0 : decode cX0_dialDigit 0 = .ok (.aload_n 0, 1) := by decide +kernel
theorem dX0_dialDigit_1 : decode cX0_dialDigit 1 = .ok (.iload_n 1, 1) := by decide +kernel
theorem dX0_dialDigit_2 : decode cX0_dialDigit 2 = .ok (.invokevirtual 83, 3) := by decide +kernel
theorem dX0_dialDigit_5 : decode cX0_dialDigit 5 = .ok (.astore_n 3, 1) := by decide +kernel
theorem dX0_dialDigit_6 : decode cX0_dialDigit 6 = .ok (.aload_n 3, 1) := by decide +kernel
theorem dX0_dialDigit_7 : decode cX0_dialDigit 7 = .ok (.getfield 106, 3) := by decide +kernel
theorem dX0_dialDigit_10 : decode cX0_dialDigit 10 = .ok (.iconst 2, 1) := by decide +kernel
theorem dX0_dialDigit_11 : decode cX0_dialDigit 11 = .ok (.if_icmp .eq 14, 3) := by decide +kernel
theorem dX0_dialDigit_14 : decode cX0_dialDigit 14 = .ok (.aload_n 3, 1) := by decide +kernel
theorem dX0_dialDigit_15 : decode cX0_dialDigit 15 = .ok (.getfield 106, 3) := by decide +kernel
theorem dX0_dialDigit_18 : decode cX0_dialDigit 18 = .ok (.iconst 3, 1) := by decide +kernel
theorem dX0_dialDigit_19 : decode cX0_dialDigit 19 = .ok (.if_icmp .eq 6, 3) := by decide +kernel
theorem dX0_dialDigit_22 : decode cX0_dialDigit 22 = .ok (.bipush (-5), 2) := by decide +kernel
theorem dX0_dialDigit_24 : decode cX0_dialDigit 24 = .ok (.ireturn, 1) := by decide +kernel
theorem dX0_dialDigit_25 : decode cX0_dialDigit 25 = .ok (.aload_n 3, 1) := by decide +kernel
theorem dX0_dialDigit_26 : decode cX0_dialDigit 26 = .ok (.getfield 135, 3) := by decide +kernel
theorem dX0_dialDigit_29 : decode cX0_dialDigit 29 = .ok (.iconst 4, 1) := by decide +kernel
theorem dX0_dialDigit_30 : decode cX0_dialDigit 30 = .ok (.if_icmp .lt 6, 3) := by decide +kernel
theorem dX0_dialDigit_33 : decode cX0_dialDigit 33 = .ok (.bipush (-4), 2) := by decide +kernel
theorem dX0_dialDigit_35 : decode cX0_dialDigit 35 = .ok (.ireturn, 1) := by decide +kernel
theorem dX0_dialDigit_36 : decode cX0_dialDigit 36 = .ok (.aload_n 3, 1) := by decide +kernel
theorem dX0_dialDigit_37 : decode cX0_dialDigit 37 = .ok (.iload_n 2, 1) := by decide +kernel
theorem dX0_dialDigit_38 : decode cX0_dialDigit 38 = .ok (.invokevirtual 138, 3) := by decide +kernel
theorem dX0_dialDigit_41 : decode cX0_dialDigit 41 = .ok (.aload_n 3, 1) := by decide +kernel
theorem dX0_dialDigit_42 : decode cX0_dialDigit 42 = .ok (.getfield 135, 3) := by decide +kernel
theorem dX0_dialDigit_45 : decode cX0_dialDigit 45 = .ok (.ireturn, 1) := by decide +kernel
theorem dX0_hasTimeFor_0 : decode cX0_hasTimeFor 0 = .ok (.aload_n 0, 1) := by decide +kernel
theorem dX0_hasTimeFor_1 : decode cX0_hasTimeFor 1 = .ok (.getfield 52, 3) := by decide +kernel
theorem dX0_hasTimeFor_4 : decode cX0_hasTimeFor 4 = .ok (.iload_n 1, 1) := by decide +kernel
theorem dX0_hasTimeFor_5 : decode cX0_hasTimeFor 5 = .ok (.iadd, 1) := by decide +kernel
theorem dX0_hasTimeFor_6 : decode cX0_hasTimeFor 6 = .ok (.ldc 141, 2) := by decide +kernel
theorem dX0_hasTimeFor_8 : decode cX0_hasTimeFor 8 = .ok (.if_icmp .gt 7, 3) := by decide +kernel
theorem dX0_hasTimeFor_11 : decode cX0_hasTimeFor 11 = .ok (.iconst 1, 1) := by decide +kernel
theorem dX0_hasTimeFor_12 : decode cX0_hasTimeFor 12 = .ok (.goto 4, 3) := by decide +kernel
theorem dX0_hasTimeFor_15 : decode cX0_hasTimeFor 15 = .ok (.iconst 0, 1) := by decide +kernel
theorem dX0_hasTimeFor_16 : decode cX0_hasTimeFor 16 = .ok (.ireturn, 1) := by decide +kernel
theorem dX0_pass_0 : decode cX0_pass 0 = .ok (.iconst 0, 1) := by decide +kernel
theorem dX0_pass_1 : decode cX0_pass 1 = .ok (.istore_n 2, 1) := by decide +kernel
theorem dX0_pass_2 : decode cX0_pass 2 = .ok (.iload_n 2, 1) := by decide +kernel
theorem dX0_pass_3 : decode cX0_pass 3 = .ok (.iload_n 1, 1) := by decide +kernel
theorem dX0_pass_4 : decode cX0_pass 4 = .ok (.if_icmp .ge 52, 3) := by decide +kernel
theorem dX0_pass_7 : decode cX0_pass 7 = .ok (.iconst 0, 1) := by decide +kernel
theorem dX0_pass_8 : decode cX0_pass 8 = .ok (.istore_n 3, 1) := by decide +kernel
theorem dX0_pass_9 : decode cX0_pass 9 = .ok (.iload_n 3, 1) := by decide +kernel
theorem dX0_pass_10 : decode cX0_pass 10 = .ok (.aload_n 0, 1) := by decide +kernel
theorem dX0_pass_11 : decode cX0_pass 11 = .ok (.getfield 45, 3) := by decide +kernel
theorem dX0_pass_14 : decode cX0_pass 14 = .ok (.if_icmp .ge 18, 3) := by decide +kernel
theorem dX0_pass_17 : decode cX0_pass 17 = .ok (.aload_n 0, 1) := by decide +kernel
theorem dX0_pass_18 : decode cX0_pass 18 = .ok (.aload_n 0, 1) := by decide +kernel
theorem dX0_pass_19 : decode cX0_pass 19 = .ok (.iload_n 3, 1) := by decide +kernel
theorem dX0_pass_20 : decode cX0_pass 20 = .ok (.invokevirtual 90, 3) := by decide +kernel
theorem dX0_pass_23 : decode cX0_pass 23 = .ok (.invokevirtual 142, 3) := by decide +kernel
theorem dX0_pass_26 : decode cX0_pass 26 = .ok (.iinc 3 1, 3) := by decide +kernel
theorem dX0_pass_29 : decode cX0_pass 29 = .ok (.goto (-20), 3) := by decide +kernel
theorem dX0_pass_32 : decode cX0_pass 32 = .ok (.aload_n 0, 1) := by decide +kernel
theorem dX0_pass_33 : decode cX0_pass 33 = .ok (.invokevirtual 145, 3) := by decide +kernel
theorem dX0_pass_36 : decode cX0_pass 36 = .ok (.aload_n 0, 1) := by decide +kernel
theorem dX0_pass_37 : decode cX0_pass 37 = .ok (.invokevirtual 148, 3) := by decide +kernel
theorem dX0_pass_40 : decode cX0_pass 40 = .ok (.aload_n 0, 1) := by decide +kernel
theorem dX0_pass_41 : decode cX0_pass 41 = .ok (.dup, 1) := by decide +kernel
theorem dX0_pass_42 : decode cX0_pass 42 = .ok (.getfield 52, 3) := by decide +kernel
theorem dX0_pass_45 : decode cX0_pass 45 = .ok (.iconst 1, 1) := by decide +kernel
theorem dX0_pass_46 : decode cX0_pass 46 = .ok (.iadd, 1) := by decide +kernel
theorem dX0_pass_47 : decode cX0_pass 47 = .ok (.putfield 52, 3) := by decide +kernel
theorem dX0_pass_50 : decode cX0_pass 50 = .ok (.iinc 2 1, 3) := by decide +kernel
theorem dX0_pass_53 : decode cX0_pass 53 = .ok (.goto (-51), 3) := by decide +kernel
theorem dX0_pass_56 : decode cX0_pass 56 = .ok (.return_, 1) := by decide +kernel
theorem dX0_takeStep_0 : decode cX0_takeStep 0 = .ok (.aload_n 0, 1) := by decide +kernel
theorem dX0_takeStep_1 : decode cX0_takeStep 1 = .ok (.aload_n 1, 1) := by decide +kernel
theorem dX0_takeStep_2 : decode cX0_takeStep 2 = .ok (.getfield 151, 3) := by decide +kernel
theorem dX0_takeStep_5 : decode cX0_takeStep 5 = .ok (.invokevirtual 83, 3) := by decide +kernel
theorem dX0_takeStep_8 : decode cX0_takeStep 8 = .ok (.astore_n 2, 1) := by decide +kernel
theorem dX0_takeStep_9 : decode cX0_takeStep 9 = .ok (.aload_n 1, 1) := by decide +kernel
theorem dX0_takeStep_10 : decode cX0_takeStep 10 = .ok (.getfield 154, 3) := by decide +kernel
theorem dX0_takeStep_13 : decode cX0_takeStep 13 = .ok (.tableswitch 135 1 9 #[51, 60, 70, 79, 88, 99, 108, 117, 126], 51) := by decide +kernel
theorem dX0_takeStep_64 : decode cX0_takeStep 64 = .ok (.aload_n 0, 1) := by decide +kernel
theorem dX0_takeStep_65 : decode cX0_takeStep 65 = .ok (.aload_n 1, 1) := by decide +kernel
theorem dX0_takeStep_66 : decode cX0_takeStep 66 = .ok (.aload_n 2, 1) := by decide +kernel
theorem dX0_takeStep_67 : decode cX0_takeStep 67 = .ok (.invokevirtual 155, 3) := by decide +kernel
theorem dX0_takeStep_70 : decode cX0_takeStep 70 = .ok (.goto 78, 3) := by decide +kernel
theorem dX0_takeStep_73 : decode cX0_takeStep 73 = .ok (.aload_n 0, 1) := by decide +kernel
theorem dX0_takeStep_74 : decode cX0_takeStep 74 = .ok (.aload_n 1, 1) := by decide +kernel
theorem dX0_takeStep_75 : decode cX0_takeStep 75 = .ok (.aload_n 2, 1) := by decide +kernel
theorem dX0_takeStep_76 : decode cX0_takeStep 76 = .ok (.iconst 3, 1) := by decide +kernel
theorem dX0_takeStep_77 : decode cX0_takeStep 77 = .ok (.invokevirtual 159, 3) := by decide +kernel
theorem dX0_takeStep_80 : decode cX0_takeStep 80 = .ok (.goto 68, 3) := by decide +kernel
theorem dX0_takeStep_83 : decode cX0_takeStep 83 = .ok (.aload_n 0, 1) := by decide +kernel
theorem dX0_takeStep_84 : decode cX0_takeStep 84 = .ok (.aload_n 1, 1) := by decide +kernel
theorem dX0_takeStep_85 : decode cX0_takeStep 85 = .ok (.aload_n 2, 1) := by decide +kernel
theorem dX0_takeStep_86 : decode cX0_takeStep 86 = .ok (.invokevirtual 163, 3) := by decide +kernel
theorem dX0_takeStep_89 : decode cX0_takeStep 89 = .ok (.goto 59, 3) := by decide +kernel
theorem dX0_takeStep_92 : decode cX0_takeStep 92 = .ok (.aload_n 0, 1) := by decide +kernel
theorem dX0_takeStep_93 : decode cX0_takeStep 93 = .ok (.aload_n 1, 1) := by decide +kernel
theorem dX0_takeStep_94 : decode cX0_takeStep 94 = .ok (.aload_n 2, 1) := by decide +kernel
theorem dX0_takeStep_95 : decode cX0_takeStep 95 = .ok (.invokevirtual 166, 3) := by decide +kernel
theorem dX0_takeStep_98 : decode cX0_takeStep 98 = .ok (.goto 50, 3) := by decide +kernel
theorem dX0_takeStep_101 : decode cX0_takeStep 101 = .ok (.aload_n 0, 1) := by decide +kernel
theorem dX0_takeStep_102 : decode cX0_takeStep 102 = .ok (.aload_n 1, 1) := by decide +kernel
theorem dX0_takeStep_103 : decode cX0_takeStep 103 = .ok (.aload_n 2, 1) := by decide +kernel
theorem dX0_takeStep_104 : decode cX0_takeStep 104 = .ok (.bipush 6, 2) := by decide +kernel
theorem dX0_takeStep_106 : decode cX0_takeStep 106 = .ok (.invokevirtual 159, 3) := by decide +kernel
theorem dX0_takeStep_109 : decode cX0_takeStep 109 = .ok (.goto 39, 3) := by decide +kernel
theorem dX0_takeStep_112 : decode cX0_takeStep 112 = .ok (.aload_n 0, 1) := by decide +kernel
theorem dX0_takeStep_113 : decode cX0_takeStep 113 = .ok (.aload_n 1, 1) := by decide +kernel
theorem dX0_takeStep_114 : decode cX0_takeStep 114 = .ok (.aload_n 2, 1) := by decide +kernel
theorem dX0_takeStep_115 : decode cX0_takeStep 115 = .ok (.invokevirtual 169, 3) := by decide +kernel
theorem dX0_takeStep_118 : decode cX0_takeStep 118 = .ok (.goto 30, 3) := by decide +kernel
theorem dX0_takeStep_121 : decode cX0_takeStep 121 = .ok (.aload_n 0, 1) := by decide +kernel
theorem dX0_takeStep_122 : decode cX0_takeStep 122 = .ok (.aload_n 1, 1) := by decide +kernel
theorem dX0_takeStep_123 : decode cX0_takeStep 123 = .ok (.aload_n 2, 1) := by decide +kernel
theorem dX0_takeStep_124 : decode cX0_takeStep 124 = .ok (.invokevirtual 172, 3) := by decide +kernel
theorem dX0_takeStep_127 : decode cX0_takeStep 127 = .ok (.goto 21, 3) := by decide +kernel
theorem dX0_takeStep_130 : decode cX0_takeStep 130 = .ok (.aload_n 0, 1) := by decide +kernel
theorem dX0_takeStep_131 : decode cX0_takeStep 131 = .ok (.aload_n 1, 1) := by decide +kernel
theorem dX0_takeStep_132 : decode cX0_takeStep 132 = .ok (.aload_n 2, 1) := by decide +kernel
theorem dX0_takeStep_133 : decode cX0_takeStep 133 = .ok (.invokevirtual 175, 3) := by decide +kernel
theorem dX0_takeStep_136 : decode cX0_takeStep 136 = .ok (.goto 12, 3) := by decide +kernel
theorem dX0_takeStep_139 : decode cX0_takeStep 139 = .ok (.aload_n 0, 1) := by decide +kernel
theorem dX0_takeStep_140 : decode cX0_takeStep 140 = .ok (.aload_n 1, 1) := by decide +kernel
theorem dX0_takeStep_141 : decode cX0_takeStep 141 = .ok (.aload_n 2, 1) := by decide +kernel
theorem dX0_takeStep_142 : decode cX0_takeStep 142 = .ok (.invokevirtual 178, 3) := by decide +kernel
theorem dX0_takeStep_145 : decode cX0_takeStep 145 = .ok (.goto 3, 3) := by decide +kernel
theorem dX0_takeStep_148 : decode cX0_takeStep 148 = .ok (.return_, 1) := by decide +kernel
theorem dX0_seek_0 : decode cX0_seek 0 = .ok (.aload_n 1, 1) := by decide +kernel
theorem dX0_seek_1 : decode cX0_seek 1 = .ok (.getfield 181, 3) := by decide +kernel
theorem dX0_seek_4 : decode cX0_seek 4 = .ok (.aload_n 1, 1) := by decide +kernel
theorem dX0_seek_5 : decode cX0_seek 5 = .ok (.getfield 151, 3) := by decide +kernel
theorem dX0_seek_8 : decode cX0_seek 8 = .ok (.if_icmp .ne 26, 3) := by decide +kernel
theorem dX0_seek_11 : decode cX0_seek 11 = .ok (.aload_n 1, 1) := by decide +kernel
theorem dX0_seek_12 : decode cX0_seek 12 = .ok (.iconst 2, 1) := by decide +kernel
theorem dX0_seek_13 : decode cX0_seek 13 = .ok (.invokevirtual 184, 3) := by decide +kernel
theorem dX0_seek_16 : decode cX0_seek 16 = .ok (.aload_n 2, 1) := by decide +kernel
theorem dX0_seek_17 : decode cX0_seek 17 = .ok (.iconst 2, 1) := by decide +kernel
theorem dX0_seek_18 : decode cX0_seek 18 = .ok (.putfield 106, 3) := by decide +kernel
theorem dX0_seek_21 : decode cX0_seek 21 = .ok (.aload_n 0, 1) := by decide +kernel
theorem dX0_seek_22 : decode cX0_seek 22 = .ok (.dup, 1) := by decide +kernel
theorem dX0_seek_23 : decode cX0_seek 23 = .ok (.getfield 61, 3) := by decide +kernel
theorem dX0_seek_26 : decode cX0_seek 26 = .ok (.iconst 1, 1) := by decide +kernel
theorem dX0_seek_27 : decode cX0_seek 27 = .ok (.iadd, 1) := by decide +kernel
theorem dX0_seek_28 : decode cX0_seek 28 = .ok (.putfield 61, 3) := by decide +kernel
theorem dX0_seek_31 : decode cX0_seek 31 = .ok (.goto 16, 3) := by decide +kernel
theorem dX0_seek_34 : decode cX0_seek 34 = .ok (.aload_n 1, 1) := by decide +kernel
theorem dX0_seek_35 : decode cX0_seek 35 = .ok (.aload_n 1, 1) := by decide +kernel
theorem dX0_seek_36 : decode cX0_seek 36 = .ok (.getfield 181, 3) := by decide +kernel
theorem dX0_seek_39 : decode cX0_seek 39 = .ok (.iconst 1, 1) := by decide +kernel
theorem dX0_seek_40 : decode cX0_seek 40 = .ok (.iadd, 1) := by decide +kernel
theorem dX0_seek_41 : decode cX0_seek 41 = .ok (.bipush 16, 2) := by decide +kernel
theorem dX0_seek_43 : decode cX0_seek 43 = .ok (.irem, 1) := by decide +kernel
theorem dX0_seek_44 : decode cX0_seek 44 = .ok (.putfield 181, 3) := by decide +kernel
theorem dX0_seek_47 : decode cX0_seek 47 = .ok (.return_, 1) := by decide +kernel
theorem dX0_awaitDigit_0 : decode cX0_awaitDigit 0 = .ok (.aload_n 2, 1) := by decide +kernel
theorem dX0_awaitDigit_1 : decode cX0_awaitDigit 1 = .ok (.getfield 135, 3) := by decide +kernel
theorem dX0_awaitDigit_4 : decode cX0_awaitDigit 4 = .ok (.ifCond .le 22, 3) := by decide +kernel
theorem dX0_awaitDigit_7 : decode cX0_awaitDigit 7 = .ok (.aload_n 1, 1) := by decide +kernel
theorem dX0_awaitDigit_8 : decode cX0_awaitDigit 8 = .ok (.iload_n 3, 1) := by decide +kernel
theorem dX0_awaitDigit_9 : decode cX0_awaitDigit 9 = .ok (.invokevirtual 184, 3) := by decide +kernel
theorem dX0_awaitDigit_12 : decode cX0_awaitDigit 12 = .ok (.aload_n 1, 1) := by decide +kernel
theorem dX0_awaitDigit_13 : decode cX0_awaitDigit 13 = .ok (.aload_n 2, 1) := by decide +kernel
theorem dX0_awaitDigit_14 : decode cX0_awaitDigit 14 = .ok (.invokevirtual 187, 3) := by decide +kernel
theorem dX0_awaitDigit_17 : decode cX0_awaitDigit 17 = .ok (.putfield 191, 3) := by decide +kernel
theorem dX0_awaitDigit_20 : decode cX0_awaitDigit 20 = .ok (.aload_n 2, 1) := by decide +kernel
theorem dX0_awaitDigit_21 : decode cX0_awaitDigit 21 = .ok (.iconst 3, 1) := by decide +kernel
theorem dX0_awaitDigit_22 : decode cX0_awaitDigit 22 = .ok (.putfield 106, 3) := by decide +kernel
theorem dX0_awaitDigit_25 : decode cX0_awaitDigit 25 = .ok (.return_, 1) := by decide +kernel
theorem dX0_awaitDigit_26 : decode cX0_awaitDigit 26 = .ok (.aload_n 1, 1) := by decide +kernel
theorem dX0_awaitDigit_27 : decode cX0_awaitDigit 27 = .ok (.dup, 1) := by decide +kernel
theorem dX0_awaitDigit_28 : decode cX0_awaitDigit 28 = .ok (.getfield 194, 3) := by decide +kernel
theorem dX0_awaitDigit_31 : decode cX0_awaitDigit 31 = .ok (.iconst 1, 1) := by decide +kernel
theorem dX0_awaitDigit_32 : decode cX0_awaitDigit 32 = .ok (.iadd, 1) := by decide +kernel
theorem dX0_awaitDigit_33 : decode cX0_awaitDigit 33 = .ok (.putfield 194, 3) := by decide +kernel
theorem dX0_awaitDigit_36 : decode cX0_awaitDigit 36 = .ok (.aload_n 1, 1) := by decide +kernel
theorem dX0_awaitDigit_37 : decode cX0_awaitDigit 37 = .ok (.getfield 194, 3) := by decide +kernel
theorem dX0_awaitDigit_40 : decode cX0_awaitDigit 40 = .ok (.aload_n 0, 1) := by decide +kernel
theorem dX0_awaitDigit_41 : decode cX0_awaitDigit 41 = .ok (.iconst 0, 1) := by decide +kernel
theorem dX0_awaitDigit_42 : decode cX0_awaitDigit 42 = .ok (.invokevirtual 79, 3) := by decide +kernel
theorem dX0_awaitDigit_45 : decode cX0_awaitDigit 45 = .ok (.if_icmp .lt 28, 3) := by decide +kernel
theorem dX0_awaitDigit_48 : decode cX0_awaitDigit 48 = .ok (.aload_n 1, 1) := by decide +kernel
theorem dX0_awaitDigit_49 : decode cX0_awaitDigit 49 = .ok (.invokevirtual 132, 3) := by decide +kernel
theorem dX0_awaitDigit_52 : decode cX0_awaitDigit 52 = .ok (.aload_n 2, 1) := by decide +kernel
theorem dX0_awaitDigit_53 : decode cX0_awaitDigit 53 = .ok (.iconst 5, 1) := by decide +kernel
theorem dX0_awaitDigit_54 : decode cX0_awaitDigit 54 = .ok (.putfield 109, 3) := by decide +kernel
theorem dX0_awaitDigit_57 : decode cX0_awaitDigit 57 = .ok (.aload_n 2, 1) := by decide +kernel
theorem dX0_awaitDigit_58 : decode cX0_awaitDigit 58 = .ok (.bipush 10, 2) := by decide +kernel
theorem dX0_awaitDigit_60 : decode cX0_awaitDigit 60 = .ok (.invokevirtual 125, 3) := by decide +kernel
theorem dX0_awaitDigit_63 : decode cX0_awaitDigit 63 = .ok (.aload_n 0, 1) := by decide +kernel
theorem dX0_awaitDigit_64 : decode cX0_awaitDigit 64 = .ok (.dup, 1) := by decide +kernel
theorem dX0_awaitDigit_65 : decode cX0_awaitDigit 65 = .ok (.getfield 76, 3) := by decide +kernel
theorem dX0_awaitDigit_68 : decode cX0_awaitDigit 68 = .ok (.iconst 1, 1) := by decide +kernel
theorem dX0_awaitDigit_69 : decode cX0_awaitDigit 69 = .ok (.iadd, 1) := by decide +kernel
theorem dX0_awaitDigit_70 : decode cX0_awaitDigit 70 = .ok (.putfield 76, 3) := by decide +kernel
theorem dX0_awaitDigit_73 : decode cX0_awaitDigit 73 = .ok (.return_, 1) := by decide +kernel
theorem dX0_rise_0 : decode cX0_rise 0 = .ok (.aload_n 1, 1) := by decide +kernel
theorem dX0_rise_1 : decode cX0_rise 1 = .ok (.dup, 1) := by decide +kernel
theorem dX0_rise_2 : decode cX0_rise 2 = .ok (.getfield 191, 3) := by decide +kernel
theorem dX0_rise_5 : decode cX0_rise 5 = .ok (.iconst 1, 1) := by decide +kernel
theorem dX0_rise_6 : decode cX0_rise 6 = .ok (.isub, 1) := by decide +kernel
theorem dX0_rise_7 : decode cX0_rise 7 = .ok (.putfield 191, 3) := by decide +kernel
theorem dX0_rise_10 : decode cX0_rise 10 = .ok (.aload_n 1, 1) := by decide +kernel
theorem dX0_rise_11 : decode cX0_rise 11 = .ok (.dup, 1) := by decide +kernel
theorem dX0_rise_12 : decode cX0_rise 12 = .ok (.getfield 197, 3) := by decide +kernel
theorem dX0_rise_15 : decode cX0_rise 15 = .ok (.iconst 1, 1) := by decide +kernel
theorem dX0_rise_16 : decode cX0_rise 16 = .ok (.iadd, 1) := by decide +kernel
theorem dX0_rise_17 : decode cX0_rise 17 = .ok (.putfield 197, 3) := by decide +kernel
theorem dX0_rise_20 : decode cX0_rise 20 = .ok (.aload_n 1, 1) := by decide +kernel
theorem dX0_rise_21 : decode cX0_rise 21 = .ok (.getfield 191, 3) := by decide +kernel
theorem dX0_rise_24 : decode cX0_rise 24 = .ok (.ifCond .le 4, 3) := by decide +kernel
theorem dX0_rise_27 : decode cX0_rise 27 = .ok (.return_, 1) := by decide +kernel
theorem dX0_rise_28 : decode cX0_rise 28 = .ok (.aload_n 1, 1) := by decide +kernel
theorem dX0_rise_29 : decode cX0_rise 29 = .ok (.getfield 197, 3) := by decide +kernel
theorem dX0_rise_32 : decode cX0_rise 32 = .ok (.iconst 4, 1) := by decide +kernel
theorem dX0_rise_33 : decode cX0_rise 33 = .ok (.if_icmp .le 15, 3) := by decide +kernel
theorem dX0_rise_36 : decode cX0_rise 36 = .ok (.aload_n 0, 1) := by decide +kernel
theorem dX0_rise_37 : decode cX0_rise 37 = .ok (.aload_n 1, 1) := by decide +kernel
theorem dX0_rise_38 : decode cX0_rise 38 = .ok (.aload_n 2, 1) := by decide +kernel
theorem dX0_rise_39 : decode cX0_rise 39 = .ok (.bipush 9, 2) := by decide +kernel
theorem dX0_rise_41 : decode cX0_rise 41 = .ok (.iconst 3, 1) := by decide +kernel
theorem dX0_rise_42 : decode cX0_rise 42 = .ok (.invokevirtual 200, 3) := by decide +kernel
theorem dX0_rise_45 : decode cX0_rise 45 = .ok (.goto 13, 3) := by decide +kernel
theorem dX0_rise_48 : decode cX0_rise 48 = .ok (.aload_n 1, 1) := by decide +kernel
theorem dX0_rise_49 : decode cX0_rise 49 = .ok (.iconst 4, 1) := by decide +kernel
theorem dX0_rise_50 : decode cX0_rise 50 = .ok (.invokevirtual 184, 3) := by decide +kernel
theorem dX0_rise_53 : decode cX0_rise 53 = .ok (.aload_n 1, 1) := by decide +kernel
theorem dX0_rise_54 : decode cX0_rise 54 = .ok (.iconst 0, 1) := by decide +kernel
theorem dX0_rise_55 : decode cX0_rise 55 = .ok (.putfield 204, 3) := by decide +kernel
theorem dX0_rise_58 : decode cX0_rise 58 = .ok (.return_, 1) := by decide +kernel
theorem dX0_hunt_0 : decode cX0_hunt 0 = .ok (.aload_n 0, 1) := by decide +kernel
theorem dX0_hunt_1 : decode cX0_hunt 1 = .ok (.aload_n 1, 1) := by decide +kernel
theorem dX0_hunt_2 : decode cX0_hunt 2 = .ok (.getfield 197, 3) := by decide +kernel
theorem dX0_hunt_5 : decode cX0_hunt 5 = .ok (.aload_n 1, 1) := by decide +kernel
theorem dX0_hunt_6 : decode cX0_hunt 6 = .ok (.getfield 204, 3) := by decide +kernel
theorem dX0_hunt_9 : decode cX0_hunt 9 = .ok (.invokevirtual 207, 3) := by decide +kernel
theorem dX0_hunt_12 : decode cX0_hunt 12 = .ok (.bipush (-6), 2) := by decide +kernel
theorem dX0_hunt_14 : decode cX0_hunt 14 = .ok (.if_icmp .ne 9, 3) := by decide +kernel
theorem dX0_hunt_17 : decode cX0_hunt 17 = .ok (.aload_n 1, 1) := by decide +kernel
theorem dX0_hunt_18 : decode cX0_hunt 18 = .ok (.iconst 5, 1) := by decide +kernel
theorem dX0_hunt_19 : decode cX0_hunt 19 = .ok (.invokevirtual 184, 3) := by decide +kernel
theorem dX0_hunt_22 : decode cX0_hunt 22 = .ok (.return_, 1) := by decide +kernel
theorem dX0_hunt_23 : decode cX0_hunt 23 = .ok (.aload_n 1, 1) := by decide +kernel
theorem dX0_hunt_24 : decode cX0_hunt 24 = .ok (.dup, 1) := by decide +kernel
theorem dX0_hunt_25 : decode cX0_hunt 25 = .ok (.getfield 204, 3) := by decide +kernel
theorem dX0_hunt_28 : decode cX0_hunt 28 = .ok (.iconst 1, 1) := by decide +kernel
theorem dX0_hunt_29 : decode cX0_hunt 29 = .ok (.iadd, 1) := by decide +kernel
theorem dX0_hunt_30 : decode cX0_hunt 30 = .ok (.putfield 204, 3) := by decide +kernel
theorem dX0_hunt_33 : decode cX0_hunt 33 = .ok (.aload_n 1, 1) := by decide +kernel
theorem dX0_hunt_34 : decode cX0_hunt 34 = .ok (.getfield 204, 3) := by decide +kernel
theorem dX0_hunt_37 : decode cX0_hunt 37 = .ok (.aload_n 0, 1) := by decide +kernel
theorem dX0_hunt_38 : decode cX0_hunt 38 = .ok (.getfield 49, 3) := by decide +kernel
theorem dX0_hunt_41 : decode cX0_hunt 41 = .ok (.if_icmp .lt 12, 3) := by decide +kernel
theorem dX0_hunt_44 : decode cX0_hunt 44 = .ok (.aload_n 0, 1) := by decide +kernel
theorem dX0_hunt_45 : decode cX0_hunt 45 = .ok (.aload_n 1, 1) := by decide +kernel
theorem dX0_hunt_46 : decode cX0_hunt 46 = .ok (.aload_n 2, 1) := by decide +kernel
theorem dX0_hunt_47 : decode cX0_hunt 47 = .ok (.bipush 8, 2) := by decide +kernel
theorem dX0_hunt_49 : decode cX0_hunt 49 = .ok (.iconst 2, 1) := by decide +kernel
theorem dX0_hunt_50 : decode cX0_hunt 50 = .ok (.invokevirtual 200, 3) := by decide +kernel
theorem dX0_hunt_53 : decode cX0_hunt 53 = .ok (.return_, 1) := by decide +kernel
theorem dX0_stepOn_0 : decode cX0_stepOn 0 = .ok (.aload_n 1, 1) := by decide +kernel
theorem dX0_stepOn_1 : decode cX0_stepOn 1 = .ok (.dup, 1) := by decide +kernel
theorem dX0_stepOn_2 : decode cX0_stepOn 2 = .ok (.getfield 191, 3) := by decide +kernel
theorem dX0_stepOn_5 : decode cX0_stepOn 5 = .ok (.iconst 1, 1) := by decide +kernel
theorem dX0_stepOn_6 : decode cX0_stepOn 6 = .ok (.isub, 1) := by decide +kernel
theorem dX0_stepOn_7 : decode cX0_stepOn 7 = .ok (.putfield 191, 3) := by decide +kernel
theorem dX0_stepOn_10 : decode cX0_stepOn 10 = .ok (.aload_n 1, 1) := by decide +kernel
theorem dX0_stepOn_11 : decode cX0_stepOn 11 = .ok (.dup, 1) := by decide +kernel
theorem dX0_stepOn_12 : decode cX0_stepOn 12 = .ok (.getfield 211, 3) := by decide +kernel
theorem dX0_stepOn_15 : decode cX0_stepOn 15 = .ok (.iconst 1, 1) := by decide +kernel
theorem dX0_stepOn_16 : decode cX0_stepOn 16 = .ok (.iadd, 1) := by decide +kernel
theorem dX0_stepOn_17 : decode cX0_stepOn 17 = .ok (.putfield 211, 3) := by decide +kernel
theorem dX0_stepOn_20 : decode cX0_stepOn 20 = .ok (.aload_n 1, 1) := by decide +kernel
theorem dX0_stepOn_21 : decode cX0_stepOn 21 = .ok (.getfield 191, 3) := by decide +kernel
theorem dX0_stepOn_24 : decode cX0_stepOn 24 = .ok (.ifCond .le 4, 3) := by decide +kernel
theorem dX0_stepOn_27 : decode cX0_stepOn 27 = .ok (.return_, 1) := by decide +kernel
theorem dX0_stepOn_28 : decode cX0_stepOn 28 = .ok (.aload_n 1, 1) := by decide +kernel
theorem dX0_stepOn_29 : decode cX0_stepOn 29 = .ok (.getfield 211, 3) := by decide +kernel
theorem dX0_stepOn_32 : decode cX0_stepOn 32 = .ok (.iconst 4, 1) := by decide +kernel
theorem dX0_stepOn_33 : decode cX0_stepOn 33 = .ok (.if_icmp .le 13, 3) := by decide +kernel
theorem dX0_stepOn_36 : decode cX0_stepOn 36 = .ok (.aload_n 0, 1) := by decide +kernel
theorem dX0_stepOn_37 : decode cX0_stepOn 37 = .ok (.aload_n 1, 1) := by decide +kernel
theorem dX0_stepOn_38 : decode cX0_stepOn 38 = .ok (.aload_n 2, 1) := by decide +kernel
theorem dX0_stepOn_39 : decode cX0_stepOn 39 = .ok (.bipush 9, 2) := by decide +kernel
theorem dX0_stepOn_41 : decode cX0_stepOn 41 = .ok (.iconst 3, 1) := by decide +kernel
theorem dX0_stepOn_42 : decode cX0_stepOn 42 = .ok (.invokevirtual 200, 3) := by decide +kernel
theorem dX0_stepOn_45 : decode cX0_stepOn 45 = .ok (.return_, 1) := by decide +kernel
theorem dX0_stepOn_46 : decode cX0_stepOn 46 = .ok (.iconst 4, 1) := by decide +kernel
theorem dX0_stepOn_47 : decode cX0_stepOn 47 = .ok (.aload_n 1, 1) := by decide +kernel
theorem dX0_stepOn_48 : decode cX0_stepOn 48 = .ok (.getfield 197, 3) := by decide +kernel
theorem dX0_stepOn_51 : decode cX0_stepOn 51 = .ok (.iconst 1, 1) := by decide +kernel
theorem dX0_stepOn_52 : decode cX0_stepOn 52 = .ok (.isub, 1) := by decide +kernel
theorem dX0_stepOn_53 : decode cX0_stepOn 53 = .ok (.imul, 1) := by decide +kernel
theorem dX0_stepOn_54 : decode cX0_stepOn 54 = .ok (.aload_n 1, 1) := by decide +kernel
theorem dX0_stepOn_55 : decode cX0_stepOn 55 = .ok (.getfield 211, 3) := by decide +kernel
theorem dX0_stepOn_58 : decode cX0_stepOn 58 = .ok (.iadd, 1) := by decide +kernel
theorem dX0_stepOn_59 : decode cX0_stepOn 59 = .ok (.iconst 1, 1) := by decide +kernel
theorem dX0_stepOn_60 : decode cX0_stepOn 60 = .ok (.isub, 1) := by decide +kernel
theorem dX0_stepOn_61 : decode cX0_stepOn 61 = .ok (.istore_n 3, 1) := by decide +kernel
theorem dX0_stepOn_62 : decode cX0_stepOn 62 = .ok (.aload_n 0, 1) := by decide +kernel
theorem dX0_stepOn_63 : decode cX0_stepOn 63 = .ok (.iload_n 3, 1) := by decide +kernel
theorem dX0_stepOn_64 : decode cX0_stepOn 64 = .ok (.invokevirtual 83, 3) := by decide +kernel
theorem dX0_stepOn_67 : decode cX0_stepOn 67 = .ok (.astore 4, 2) := by decide +kernel
theorem dX0_stepOn_69 : decode cX0_stepOn 69 = .ok (.aload 4, 2) := by decide +kernel
theorem dX0_stepOn_71 : decode cX0_stepOn 71 = .ok (.getfield 106, 3) := by decide +kernel
theorem dX0_stepOn_74 : decode cX0_stepOn 74 = .ok (.ifCond .eq 13, 3) := by decide +kernel
theorem dX0_stepOn_77 : decode cX0_stepOn 77 = .ok (.aload_n 0, 1) := by decide +kernel
theorem dX0_stepOn_78 : decode cX0_stepOn 78 = .ok (.aload_n 1, 1) := by decide +kernel
theorem dX0_stepOn_79 : decode cX0_stepOn 79 = .ok (.aload_n 2, 1) := by decide +kernel
theorem dX0_stepOn_80 : decode cX0_stepOn 80 = .ok (.bipush 8, 2) := by decide +kernel
theorem dX0_stepOn_82 : decode cX0_stepOn 82 = .ok (.iconst 1, 1) := by decide +kernel
theorem dX0_stepOn_83 : decode cX0_stepOn 83 = .ok (.invokevirtual 200, 3) := by decide +kernel
theorem dX0_stepOn_86 : decode cX0_stepOn 86 = .ok (.return_, 1) := by decide +kernel
theorem dX0_stepOn_87 : decode cX0_stepOn 87 = .ok (.aload_n 1, 1) := by decide +kernel
theorem dX0_stepOn_88 : decode cX0_stepOn 88 = .ok (.bipush 7, 2) := by decide +kernel
theorem dX0_stepOn_90 : decode cX0_stepOn 90 = .ok (.invokevirtual 184, 3) := by decide +kernel
theorem dX0_stepOn_93 : decode cX0_stepOn 93 = .ok (.aload_n 1, 1) := by decide +kernel
theorem dX0_stepOn_94 : decode cX0_stepOn 94 = .ok (.iload_n 3, 1) := by decide +kernel
theorem dX0_stepOn_95 : decode cX0_stepOn 95 = .ok (.putfield 129, 3) := by decide +kernel
theorem dX0_stepOn_98 : decode cX0_stepOn 98 = .ok (.aload_n 2, 1) := by decide +kernel
theorem dX0_stepOn_99 : decode cX0_stepOn 99 = .ok (.iconst 4, 1) := by decide +kernel
theorem dX0_stepOn_100 : decode cX0_stepOn 100 = .ok (.putfield 106, 3) := by decide +kernel
theorem dX0_stepOn_103 : decode cX0_stepOn 103 = .ok (.aload 4, 2) := by decide +kernel
theorem dX0_stepOn_105 : decode cX0_stepOn 105 = .ok (.iconst 5, 1) := by decide +kernel
theorem dX0_stepOn_106 : decode cX0_stepOn 106 = .ok (.putfield 106, 3) := by decide +kernel
theorem dX0_stepOn_109 : decode cX0_stepOn 109 = .ok (.aload 4, 2) := by decide +kernel
theorem dX0_stepOn_111 : decode cX0_stepOn 111 = .ok (.aload_n 2, 1) := by decide +kernel
theorem dX0_stepOn_112 : decode cX0_stepOn 112 = .ok (.getfield 119, 3) := by decide +kernel
theorem dX0_stepOn_115 : decode cX0_stepOn 115 = .ok (.putfield 119, 3) := by decide +kernel
theorem dX0_stepOn_118 : decode cX0_stepOn 118 = .ok (.aload_n 0, 1) := by decide +kernel
theorem dX0_stepOn_119 : decode cX0_stepOn 119 = .ok (.dup, 1) := by decide +kernel
theorem dX0_stepOn_120 : decode cX0_stepOn 120 = .ok (.getfield 64, 3) := by decide +kernel
theorem dX0_stepOn_123 : decode cX0_stepOn 123 = .ok (.iconst 1, 1) := by decide +kernel
theorem dX0_stepOn_124 : decode cX0_stepOn 124 = .ok (.iadd, 1) := by decide +kernel
theorem dX0_stepOn_125 : decode cX0_stepOn 125 = .ok (.putfield 64, 3) := by decide +kernel
theorem dX0_stepOn_128 : decode cX0_stepOn 128 = .ok (.return_, 1) := by decide +kernel
theorem dX0_ringOn_0 : decode cX0_ringOn 0 = .ok (.aload_n 0, 1) := by decide +kernel
theorem dX0_ringOn_1 : decode cX0_ringOn 1 = .ok (.aload_n 1, 1) := by decide +kernel
theorem dX0_ringOn_2 : decode cX0_ringOn 2 = .ok (.getfield 129, 3) := by decide +kernel
theorem dX0_ringOn_5 : decode cX0_ringOn 5 = .ok (.invokevirtual 83, 3) := by decide +kernel
theorem dX0_ringOn_8 : decode cX0_ringOn 8 = .ok (.astore_n 3, 1) := by decide +kernel
theorem dX0_ringOn_9 : decode cX0_ringOn 9 = .ok (.aload_n 3, 1) := by decide +kernel
theorem dX0_ringOn_10 : decode cX0_ringOn 10 = .ok (.getfield 102, 3) := by decide +kernel
theorem dX0_ringOn_13 : decode cX0_ringOn 13 = .ok (.ifCond .eq 42, 3) := by decide +kernel
theorem dX0_ringOn_16 : decode cX0_ringOn 16 = .ok (.aload_n 1, 1) := by decide +kernel
theorem dX0_ringOn_17 : decode cX0_ringOn 17 = .ok (.bipush 8, 2) := by decide +kernel
theorem dX0_ringOn_19 : decode cX0_ringOn 19 = .ok (.invokevirtual 184, 3) := by decide +kernel
theorem dX0_ringOn_22 : decode cX0_ringOn 22 = .ok (.aload_n 2, 1) := by decide +kernel
theorem dX0_ringOn_23 : decode cX0_ringOn 23 = .ok (.bipush 6, 2) := by decide +kernel
theorem dX0_ringOn_25 : decode cX0_ringOn 25 = .ok (.putfield 106, 3) := by decide +kernel
theorem dX0_ringOn_28 : decode cX0_ringOn 28 = .ok (.aload_n 3, 1) := by decide +kernel
theorem dX0_ringOn_29 : decode cX0_ringOn 29 = .ok (.bipush 7, 2) := by decide +kernel
theorem dX0_ringOn_31 : decode cX0_ringOn 31 = .ok (.putfield 106, 3) := by decide +kernel
theorem dX0_ringOn_34 : decode cX0_ringOn 34 = .ok (.aload_n 2, 1) := by decide +kernel
theorem dX0_ringOn_35 : decode cX0_ringOn 35 = .ok (.dup, 1) := by decide +kernel
theorem dX0_ringOn_36 : decode cX0_ringOn 36 = .ok (.getfield 214, 3) := by decide +kernel
theorem dX0_ringOn_39 : decode cX0_ringOn 39 = .ok (.iconst 1, 1) := by decide +kernel
theorem dX0_ringOn_40 : decode cX0_ringOn 40 = .ok (.iadd, 1) := by decide +kernel
theorem dX0_ringOn_41 : decode cX0_ringOn 41 = .ok (.putfield 214, 3) := by decide +kernel
theorem dX0_ringOn_44 : decode cX0_ringOn 44 = .ok (.aload_n 0, 1) := by decide +kernel
theorem dX0_ringOn_45 : decode cX0_ringOn 45 = .ok (.dup, 1) := by decide +kernel
theorem dX0_ringOn_46 : decode cX0_ringOn 46 = .ok (.getfield 67, 3) := by decide +kernel
theorem dX0_ringOn_49 : decode cX0_ringOn 49 = .ok (.iconst 1, 1) := by decide +kernel
theorem dX0_ringOn_50 : decode cX0_ringOn 50 = .ok (.iadd, 1) := by decide +kernel
theorem dX0_ringOn_51 : decode cX0_ringOn 51 = .ok (.putfield 67, 3) := by decide +kernel
theorem dX0_ringOn_54 : decode cX0_ringOn 54 = .ok (.return_, 1) := by decide +kernel
theorem dX0_ringOn_55 : decode cX0_ringOn 55 = .ok (.aload_n 1, 1) := by decide +kernel
theorem dX0_ringOn_56 : decode cX0_ringOn 56 = .ok (.dup, 1) := by decide +kernel
theorem dX0_ringOn_57 : decode cX0_ringOn 57 = .ok (.getfield 194, 3) := by decide +kernel
theorem dX0_ringOn_60 : decode cX0_ringOn 60 = .ok (.iconst 1, 1) := by decide +kernel
theorem dX0_ringOn_61 : decode cX0_ringOn 61 = .ok (.iadd, 1) := by decide +kernel
theorem dX0_ringOn_62 : decode cX0_ringOn 62 = .ok (.putfield 194, 3) := by decide +kernel
theorem dX0_ringOn_65 : decode cX0_ringOn 65 = .ok (.aload_n 1, 1) := by decide +kernel
theorem dX0_ringOn_66 : decode cX0_ringOn 66 = .ok (.getfield 194, 3) := by decide +kernel
theorem dX0_ringOn_69 : decode cX0_ringOn 69 = .ok (.aload_n 0, 1) := by decide +kernel
theorem dX0_ringOn_70 : decode cX0_ringOn 70 = .ok (.iconst 1, 1) := by decide +kernel
theorem dX0_ringOn_71 : decode cX0_ringOn 71 = .ok (.invokevirtual 79, 3) := by decide +kernel
theorem dX0_ringOn_74 : decode cX0_ringOn 74 = .ok (.if_icmp .lt 17, 3) := by decide +kernel
theorem dX0_ringOn_77 : decode cX0_ringOn 77 = .ok (.aload_n 0, 1) := by decide +kernel
theorem dX0_ringOn_78 : decode cX0_ringOn 78 = .ok (.aload_n 1, 1) := by decide +kernel
theorem dX0_ringOn_79 : decode cX0_ringOn 79 = .ok (.aload_n 2, 1) := by decide +kernel
theorem dX0_ringOn_80 : decode cX0_ringOn 80 = .ok (.bipush 8, 2) := by decide +kernel
theorem dX0_ringOn_82 : decode cX0_ringOn 82 = .ok (.iconst 4, 1) := by decide +kernel
theorem dX0_ringOn_83 : decode cX0_ringOn 83 = .ok (.invokevirtual 200, 3) := by decide +kernel
theorem dX0_ringOn_86 : decode cX0_ringOn 86 = .ok (.aload_n 3, 1) := by decide +kernel
theorem dX0_ringOn_87 : decode cX0_ringOn 87 = .ok (.iconst 0, 1) := by decide +kernel
theorem dX0_ringOn_88 : decode cX0_ringOn 88 = .ok (.invokevirtual 125, 3) := by decide +kernel
theorem dX0_ringOn_91 : decode cX0_ringOn 91 = .ok (.return_, 1) := by decide +kernel
theorem dX0_talkOn_0 : decode cX0_talkOn 0 = .ok (.aload_n 0, 1) := by decide +kernel
