theorem dX5_finder_134 : decode cX5_finder 134 = .ok (.aload_n 0, 1) := by decide +kernel
theorem dX5_finder_135 : decode cX5_finder 135 = .ok (.iload_n 3, 1) := by decide +kernel
theorem dX5_finder_136 : decode cX5_finder 136 = .ok (.invokevirtual 155, 3) := by decide +kernel
theorem dX5_finder_139 : decode cX5_finder 139 = .ok (.ifCond .eq 13, 3) := by decide +kernel
theorem dX5_finder_142 : decode cX5_finder 142 = .ok (.aload_n 0, 1) := by decide +kernel
theorem dX5_finder_143 : decode cX5_finder 143 = .ok (.iload_n 1, 1) := by decide +kernel
theorem dX5_finder_144 : decode cX5_finder 144 = .ok (.bipush 7, 2) := by decide +kernel
theorem dX5_finder_146 : decode cX5_finder 146 = .ok (.invokevirtual 41, 3) := by decide +kernel
theorem dX5_finder_149 : decode cX5_finder 149 = .ok (.goto 4, 3) := by decide +kernel
theorem dX5_finder_152 : decode cX5_finder 152 = .ok (.iconst 0, 1) := by decide +kernel
theorem dX5_finder_153 : decode cX5_finder 153 = .ok (.ireturn, 1) := by decide +kernel
theorem dX5_finder_154 : decode cX5_finder 154 = .ok (.iload_n 3, 1) := by decide +kernel
theorem dX5_finder_155 : decode cX5_finder 155 = .ok (.bipush 8, 2) := by decide +kernel
theorem dX5_finder_157 : decode cX5_finder 157 = .ok (.if_icmp .ne 13, 3) := by decide +kernel
theorem dX5_finder_160 : decode cX5_finder 160 = .ok (.aload_n 0, 1) := by decide +kernel
theorem dX5_finder_161 : decode cX5_finder 161 = .ok (.iload_n 1, 1) := by decide +kernel
theorem dX5_finder_162 : decode cX5_finder 162 = .ok (.bipush 8, 2) := by decide +kernel
theorem dX5_finder_164 : decode cX5_finder 164 = .ok (.invokevirtual 41, 3) := by decide +kernel
theorem dX5_finder_167 : decode cX5_finder 167 = .ok (.goto 4, 3) := by decide +kernel
theorem dX5_finder_170 : decode cX5_finder 170 = .ok (.iconst 0, 1) := by decide +kernel
theorem dX5_finder_171 : decode cX5_finder 171 = .ok (.ireturn, 1) := by decide +kernel
theorem dX5_finder_172 : decode cX5_finder 172 = .ok (.bipush (-2), 2) := by decide +kernel
theorem dX5_finder_174 : decode cX5_finder 174 = .ok (.ireturn, 1) := by decide +kernel
theorem dX5_connector_0 : decode cX5_connector 0 = .ok (.iload_n 1, 1) := by decide +kernel
theorem dX5_connector_1 : decode cX5_connector 1 = .ok (.iconst 1, 1) := by decide +kernel
theorem dX5_connector_2 : decode cX5_connector 2 = .ok (.iconst 4, 1) := by decide +kernel
theorem dX5_connector_3 : decode cX5_connector 3 = .ok (.invokestatic 33, 3) := by decide +kernel
theorem dX5_connector_6 : decode cX5_connector 6 = .ok (.ifCond .eq 28, 3) := by decide +kernel
theorem dX5_connector_9 : decode cX5_connector 9 = .ok (.iload_n 2, 1) := by decide +kernel
theorem dX5_connector_10 : decode cX5_connector 10 = .ok (.iconst 0, 1) := by decide +kernel
theorem dX5_connector_11 : decode cX5_connector 11 = .ok (.aload_n 0, 1) := by decide +kernel
theorem dX5_connector_12 : decode cX5_connector 12 = .ok (.getfield 7, 3) := by decide +kernel
theorem dX5_connector_15 : decode cX5_connector 15 = .ok (.iconst 2, 1) := by decide +kernel
theorem dX5_connector_16 : decode cX5_connector 16 = .ok (.iaload, 1) := by decide +kernel
theorem dX5_connector_17 : decode cX5_connector 17 = .ok (.iconst 1, 1) := by decide +kernel
theorem dX5_connector_18 : decode cX5_connector 18 = .ok (.isub, 1) := by decide +kernel
theorem dX5_connector_19 : decode cX5_connector 19 = .ok (.invokestatic 33, 3) := by decide +kernel
theorem dX5_connector_22 : decode cX5_connector 22 = .ok (.ifCond .eq 12, 3) := by decide +kernel
theorem dX5_connector_25 : decode cX5_connector 25 = .ok (.aload_n 0, 1) := by decide +kernel
theorem dX5_connector_26 : decode cX5_connector 26 = .ok (.iload_n 1, 1) := by decide +kernel
theorem dX5_connector_27 : decode cX5_connector 27 = .ok (.iload_n 2, 1) := by decide +kernel
theorem dX5_connector_28 : decode cX5_connector 28 = .ok (.invokevirtual 94, 3) := by decide +kernel
theorem dX5_connector_31 : decode cX5_connector 31 = .ok (.goto 4, 3) := by decide +kernel
theorem dX5_connector_34 : decode cX5_connector 34 = .ok (.iconst (-1), 1) := by decide +kernel
theorem dX5_connector_35 : decode cX5_connector 35 = .ok (.ireturn, 1) := by decide +kernel
theorem dX5_finders_0 : decode cX5_finders 0 = .ok (.iconst 0, 1) := by decide +kernel
theorem dX5_finders_1 : decode cX5_finders 1 = .ok (.istore_n 2, 1) := by decide +kernel
theorem dX5_finders_2 : decode cX5_finders 2 = .ok (.iconst 0, 1) := by decide +kernel
theorem dX5_finders_3 : decode cX5_finders 3 = .ok (.istore_n 3, 1) := by decide +kernel
theorem dX5_finders_4 : decode cX5_finders 4 = .ok (.iload_n 3, 1) := by decide +kernel
theorem dX5_finders_5 : decode cX5_finders 5 = .ok (.aload_n 0, 1) := by decide +kernel
theorem dX5_finders_6 : decode cX5_finders 6 = .ok (.getfield 7, 3) := by decide +kernel
theorem dX5_finders_9 : decode cX5_finders 9 = .ok (.iconst 1, 1) := by decide +kernel
theorem dX5_finders_10 : decode cX5_finders 10 = .ok (.iaload, 1) := by decide +kernel
theorem dX5_finders_11 : decode cX5_finders 11 = .ok (.if_icmp .ge 41, 3) := by decide +kernel
theorem dX5_finders_14 : decode cX5_finders 14 = .ok (.iload_n 2, 1) := by decide +kernel
theorem dX5_finders_15 : decode cX5_finders 15 = .ok (.iload_n 1, 1) := by decide +kernel
theorem dX5_finders_16 : decode cX5_finders 16 = .ok (.ifCond .eq 15, 3) := by decide +kernel
theorem dX5_finders_19 : decode cX5_finders 19 = .ok (.aload_n 0, 1) := by decide +kernel
theorem dX5_finders_20 : decode cX5_finders 20 = .ok (.iload_n 3, 1) := by decide +kernel
theorem dX5_finders_21 : decode cX5_finders 21 = .ok (.iconst 0, 1) := by decide +kernel
theorem dX5_finders_22 : decode cX5_finders 22 = .ok (.invokevirtual 41, 3) := by decide +kernel
theorem dX5_finders_25 : decode cX5_finders 25 = .ok (.ifCond .ne 18, 3) := by decide +kernel
theorem dX5_finders_28 : decode cX5_finders 28 = .ok (.goto 11, 3) := by decide +kernel
theorem dX5_finders_31 : decode cX5_finders 31 = .ok (.aload_n 0, 1) := by decide +kernel
theorem dX5_finders_32 : decode cX5_finders 32 = .ok (.iload_n 3, 1) := by decide +kernel
theorem dX5_finders_33 : decode cX5_finders 33 = .ok (.invokevirtual 57, 3) := by decide +kernel
theorem dX5_finders_36 : decode cX5_finders 36 = .ok (.ifCond .eq 7, 3) := by decide +kernel
theorem dX5_finders_39 : decode cX5_finders 39 = .ok (.iconst 1, 1) := by decide +kernel
theorem dX5_finders_40 : decode cX5_finders 40 = .ok (.goto 4, 3) := by decide +kernel
theorem dX5_finders_43 : decode cX5_finders 43 = .ok (.iconst 0, 1) := by decide +kernel
theorem dX5_finders_44 : decode cX5_finders 44 = .ok (.iadd, 1) := by decide +kernel
theorem dX5_finders_45 : decode cX5_finders 45 = .ok (.istore_n 2, 1) := by decide +kernel
theorem dX5_finders_46 : decode cX5_finders 46 = .ok (.iinc 3 1, 3) := by decide +kernel
theorem dX5_finders_49 : decode cX5_finders 49 = .ok (.goto (-45), 3) := by decide +kernel
theorem dX5_finders_52 : decode cX5_finders 52 = .ok (.iload_n 2, 1) := by decide +kernel
theorem dX5_finders_53 : decode cX5_finders 53 = .ok (.ireturn, 1) := by decide +kernel
theorem dX5_sumOf_0 : decode cX5_sumOf 0 = .ok (.iconst 0, 1) := by decide +kernel
theorem dX5_sumOf_1 : decode cX5_sumOf 1 = .ok (.istore_n 2, 1) := by decide +kernel
theorem dX5_sumOf_2 : decode cX5_sumOf 2 = .ok (.iconst 0, 1) := by decide +kernel
theorem dX5_sumOf_3 : decode cX5_sumOf 3 = .ok (.istore_n 3, 1) := by decide +kernel
theorem dX5_sumOf_4 : decode cX5_sumOf 4 = .ok (.iload_n 3, 1) := by decide +kernel
theorem dX5_sumOf_5 : decode cX5_sumOf 5 = .ok (.bipush 16, 2) := by decide +kernel
theorem dX5_sumOf_7 : decode cX5_sumOf 7 = .ok (.if_icmp .ge 18, 3) := by decide +kernel
theorem dX5_sumOf_10 : decode cX5_sumOf 10 = .ok (.iload_n 2, 1) := by decide +kernel
theorem dX5_sumOf_11 : decode cX5_sumOf 11 = .ok (.aload_n 0, 1) := by decide +kernel
theorem dX5_sumOf_12 : decode cX5_sumOf 12 = .ok (.iload_n 3, 1) := by decide +kernel
theorem dX5_sumOf_13 : decode cX5_sumOf 13 = .ok (.iload_n 1, 1) := by decide +kernel
theorem dX5_sumOf_14 : decode cX5_sumOf 14 = .ok (.invokevirtual 67, 3) := by decide +kernel
theorem dX5_sumOf_17 : decode cX5_sumOf 17 = .ok (.iadd, 1) := by decide +kernel
theorem dX5_sumOf_18 : decode cX5_sumOf 18 = .ok (.istore_n 2, 1) := by decide +kernel
theorem dX5_sumOf_19 : decode cX5_sumOf 19 = .ok (.iinc 3 1, 3) := by decide +kernel
theorem dX5_sumOf_22 : decode cX5_sumOf 22 = .ok (.goto (-18), 3) := by decide +kernel
theorem dX5_sumOf_25 : decode cX5_sumOf 25 = .ok (.iload_n 2, 1) := by decide +kernel
theorem dX5_sumOf_26 : decode cX5_sumOf 26 = .ok (.ireturn, 1) := by decide +kernel
theorem dX5_count_0 : decode cX5_count 0 = .ok (.iload_n 1, 1) := by decide +kernel
theorem dX5_count_1 : decode cX5_count 1 = .ok (.bipush 6, 2) := by decide +kernel
theorem dX5_count_3 : decode cX5_count 3 = .ok (.bipush 12, 2) := by decide +kernel
theorem dX5_count_5 : decode cX5_count 5 = .ok (.invokestatic 33, 3) := by decide +kernel
theorem dX5_count_8 : decode cX5_count 8 = .ok (.ifCond .eq 16, 3) := by decide +kernel
theorem dX5_count_11 : decode cX5_count 11 = .ok (.aload_n 0, 1) := by decide +kernel
theorem dX5_count_12 : decode cX5_count 12 = .ok (.getfield 7, 3) := by decide +kernel
theorem dX5_count_15 : decode cX5_count 15 = .ok (.bipush 10, 2) := by decide +kernel
theorem dX5_count_17 : decode cX5_count 17 = .ok (.iload_n 1, 1) := by decide +kernel
theorem dX5_count_18 : decode cX5_count 18 = .ok (.iadd, 1) := by decide +kernel
theorem dX5_count_19 : decode cX5_count 19 = .ok (.bipush 6, 2) := by decide +kernel
theorem dX5_count_21 : decode cX5_count 21 = .ok (.isub, 1) := by decide +kernel
theorem dX5_count_22 : decode cX5_count 22 = .ok (.iaload, 1) := by decide +kernel
theorem dX5_count_23 : decode cX5_count 23 = .ok (.ireturn, 1) := by decide +kernel
theorem dX5_count_24 : decode cX5_count 24 = .ok (.iload_n 1, 1) := by decide +kernel
theorem dX5_count_25 : decode cX5_count 25 = .ok (.bipush 15, 2) := by decide +kernel
theorem dX5_count_27 : decode cX5_count 27 = .ok (.bipush 19, 2) := by decide +kernel
theorem dX5_count_29 : decode cX5_count 29 = .ok (.invokestatic 33, 3) := by decide +kernel
theorem dX5_count_32 : decode cX5_count 32 = .ok (.ifCond .eq 12, 3) := by decide +kernel
theorem dX5_count_35 : decode cX5_count 35 = .ok (.aload_n 0, 1) := by decide +kernel
theorem dX5_count_36 : decode cX5_count 36 = .ok (.iload_n 1, 1) := by decide +kernel
theorem dX5_count_37 : decode cX5_count 37 = .ok (.bipush 15, 2) := by decide +kernel
theorem dX5_count_39 : decode cX5_count 39 = .ok (.isub, 1) := by decide +kernel
theorem dX5_count_40 : decode cX5_count 40 = .ok (.invokevirtual 53, 3) := by decide +kernel
theorem dX5_count_43 : decode cX5_count 43 = .ok (.ireturn, 1) := by decide +kernel
theorem dX5_count_44 : decode cX5_count 44 = .ok (.iload_n 1, 1) := by decide +kernel
theorem dX5_count_45 : decode cX5_count 45 = .ok (.tableswitch 134 0 14 #[75, 82, 89, 96, 102, 117, 134, 134, 134, 134, 134, 134, 134, 123, 129], 75) := by decide +kernel
theorem dX5_count_120 : decode cX5_count 120 = .ok (.aload_n 0, 1) := by decide +kernel
theorem dX5_count_121 : decode cX5_count 121 = .ok (.getfield 7, 3) := by decide +kernel
theorem dX5_count_124 : decode cX5_count 124 = .ok (.iconst 0, 1) := by decide +kernel
theorem dX5_count_125 : decode cX5_count 125 = .ok (.iaload, 1) := by decide +kernel
theorem dX5_count_126 : decode cX5_count 126 = .ok (.ireturn, 1) := by decide +kernel
theorem dX5_count_127 : decode cX5_count 127 = .ok (.aload_n 0, 1) := by decide +kernel
theorem dX5_count_128 : decode cX5_count 128 = .ok (.getfield 7, 3) := by decide +kernel
theorem dX5_count_131 : decode cX5_count 131 = .ok (.iconst 1, 1) := by decide +kernel
theorem dX5_count_132 : decode cX5_count 132 = .ok (.iaload, 1) := by decide +kernel
theorem dX5_count_133 : decode cX5_count 133 = .ok (.ireturn, 1) := by decide +kernel
theorem dX5_count_134 : decode cX5_count 134 = .ok (.aload_n 0, 1) := by decide +kernel
theorem dX5_count_135 : decode cX5_count 135 = .ok (.getfield 7, 3) := by decide +kernel
theorem dX5_count_138 : decode cX5_count 138 = .ok (.iconst 2, 1) := by decide +kernel
theorem dX5_count_139 : decode cX5_count 139 = .ok (.iaload, 1) := by decide +kernel
theorem dX5_count_140 : decode cX5_count 140 = .ok (.ireturn, 1) := by decide +kernel
theorem dX5_count_141 : decode cX5_count 141 = .ok (.aload_n 0, 1) := by decide +kernel
theorem dX5_count_142 : decode cX5_count 142 = .ok (.iconst 1, 1) := by decide +kernel
theorem dX5_count_143 : decode cX5_count 143 = .ok (.invokevirtual 158, 3) := by decide +kernel
theorem dX5_count_146 : decode cX5_count 146 = .ok (.ireturn, 1) := by decide +kernel
theorem dX5_count_147 : decode cX5_count 147 = .ok (.iconst 4, 1) := by decide +kernel
theorem dX5_count_148 : decode cX5_count 148 = .ok (.aload_n 0, 1) := by decide +kernel
theorem dX5_count_149 : decode cX5_count 149 = .ok (.getfield 7, 3) := by decide +kernel
theorem dX5_count_152 : decode cX5_count 152 = .ok (.iconst 2, 1) := by decide +kernel
theorem dX5_count_153 : decode cX5_count 153 = .ok (.iaload, 1) := by decide +kernel
theorem dX5_count_154 : decode cX5_count 154 = .ok (.imul, 1) := by decide +kernel
theorem dX5_count_155 : decode cX5_count 155 = .ok (.aload_n 0, 1) := by decide +kernel
theorem dX5_count_156 : decode cX5_count 156 = .ok (.iconst 0, 1) := by decide +kernel
theorem dX5_count_157 : decode cX5_count 157 = .ok (.invokevirtual 158, 3) := by decide +kernel
theorem dX5_count_160 : decode cX5_count 160 = .ok (.isub, 1) := by decide +kernel
theorem dX5_count_161 : decode cX5_count 161 = .ok (.ireturn, 1) := by decide +kernel
theorem dX5_count_162 : decode cX5_count 162 = .ok (.aload_n 0, 1) := by decide +kernel
theorem dX5_count_163 : decode cX5_count 163 = .ok (.iconst 2, 1) := by decide +kernel
theorem dX5_count_164 : decode cX5_count 164 = .ok (.invokevirtual 162, 3) := by decide +kernel
theorem dX5_count_167 : decode cX5_count 167 = .ok (.ireturn, 1) := by decide +kernel
theorem dX5_count_168 : decode cX5_count 168 = .ok (.aload_n 0, 1) := by decide +kernel
theorem dX5_count_169 : decode cX5_count 169 = .ok (.iconst 1, 1) := by decide +kernel
theorem dX5_count_170 : decode cX5_count 170 = .ok (.invokevirtual 162, 3) := by decide +kernel
theorem dX5_count_173 : decode cX5_count 173 = .ok (.ireturn, 1) := by decide +kernel
theorem dX5_count_174 : decode cX5_count 174 = .ok (.aload_n 0, 1) := by decide +kernel
theorem dX5_count_175 : decode cX5_count 175 = .ok (.getfield 165, 3) := by decide +kernel
theorem dX5_count_178 : decode cX5_count 178 = .ok (.ireturn, 1) := by decide +kernel
theorem dX5_count_179 : decode cX5_count 179 = .ok (.bipush (-2), 2) := by decide +kernel
theorem dX5_count_181 : decode cX5_count 181 = .ok (.ireturn, 1) := by decide +kernel
theorem dX5_trace_0 : decode cX5_trace 0 = .ok (.iload_n 1, 1) := by decide +kernel
theorem dX5_trace_1 : decode cX5_trace 1 = .ok (.invokestatic 64, 3) := by decide +kernel
theorem dX5_trace_4 : decode cX5_trace 4 = .ok (.ifCond .ne 5, 3) := by decide +kernel
theorem dX5_trace_7 : decode cX5_trace 7 = .ok (.iconst (-1), 1) := by decide +kernel
theorem dX5_trace_8 : decode cX5_trace 8 = .ok (.ireturn, 1) := by decide +kernel
theorem dX5_trace_9 : decode cX5_trace 9 = .ok (.iload_n 2, 1) := by decide +kernel
theorem dX5_trace_10 : decode cX5_trace 10 = .ok (.iconst 0, 1) := by decide +kernel
theorem dX5_trace_11 : decode cX5_trace 11 = .ok (.iconst 2, 1) := by decide +kernel
theorem dX5_trace_12 : decode cX5_trace 12 = .ok (.invokestatic 33, 3) := by decide +kernel
theorem dX5_trace_15 : decode cX5_trace 15 = .ok (.ifCond .ne 6, 3) := by decide +kernel
theorem dX5_trace_18 : decode cX5_trace 18 = .ok (.bipush (-2), 2) := by decide +kernel
theorem dX5_trace_20 : decode cX5_trace 20 = .ok (.ireturn, 1) := by decide +kernel
theorem dX5_trace_21 : decode cX5_trace 21 = .ok (.aload_n 0, 1) := by decide +kernel
theorem dX5_trace_22 : decode cX5_trace 22 = .ok (.iload_n 1, 1) := by decide +kernel
theorem dX5_trace_23 : decode cX5_trace 23 = .ok (.iconst 0, 1) := by decide +kernel
theorem dX5_trace_24 : decode cX5_trace 24 = .ok (.invokevirtual 67, 3) := by decide +kernel
theorem dX5_trace_27 : decode cX5_trace 27 = .ok (.istore_n 3, 1) := by decide +kernel
theorem dX5_trace_28 : decode cX5_trace 28 = .ok (.iload_n 3, 1) := by decide +kernel
theorem dX5_trace_29 : decode cX5_trace 29 = .ok (.iconst 5, 1) := by decide +kernel
theorem dX5_trace_30 : decode cX5_trace 30 = .ok (.if_icmp .eq 12, 3) := by decide +kernel
theorem dX5_trace_33 : decode cX5_trace 33 = .ok (.iload_n 3, 1) := by decide +kernel
theorem dX5_trace_34 : decode cX5_trace 34 = .ok (.bipush 7, 2) := by decide +kernel
theorem dX5_trace_36 : decode cX5_trace 36 = .ok (.if_icmp .eq 6, 3) := by decide +kernel
theorem dX5_trace_39 : decode cX5_trace 39 = .ok (.bipush (-6), 2) := by decide +kernel
theorem dX5_trace_41 : decode cX5_trace 41 = .ok (.ireturn, 1) := by decide +kernel
theorem dX5_trace_42 : decode cX5_trace 42 = .ok (.aload_n 0, 1) := by decide +kernel
theorem dX5_trace_43 : decode cX5_trace 43 = .ok (.iload_n 1, 1) := by decide +kernel
theorem dX5_trace_44 : decode cX5_trace 44 = .ok (.invokevirtual 140, 3) := by decide +kernel
theorem dX5_trace_47 : decode cX5_trace 47 = .ok (.istore 4, 2) := by decide +kernel
theorem dX5_trace_49 : decode cX5_trace 49 = .ok (.iload_n 2, 1) := by decide +kernel
theorem dX5_trace_50 : decode cX5_trace 50 = .ok (.ifCond .ne 13, 3) := by decide +kernel
theorem dX5_trace_53 : decode cX5_trace 53 = .ok (.aload_n 0, 1) := by decide +kernel
theorem dX5_trace_54 : decode cX5_trace 54 = .ok (.iload 4, 2) := by decide +kernel
theorem dX5_trace_56 : decode cX5_trace 56 = .ok (.iconst 4, 1) := by decide +kernel
theorem dX5_trace_57 : decode cX5_trace 57 = .ok (.invokevirtual 41, 3) := by decide +kernel
theorem dX5_trace_60 : decode cX5_trace 60 = .ok (.goto 20, 3) := by decide +kernel
theorem dX5_trace_63 : decode cX5_trace 63 = .ok (.iload_n 2, 1) := by decide +kernel
theorem dX5_trace_64 : decode cX5_trace 64 = .ok (.iconst 1, 1) := by decide +kernel
theorem dX5_trace_65 : decode cX5_trace 65 = .ok (.if_icmp .ne 8, 3) := by decide +kernel
theorem dX5_trace_68 : decode cX5_trace 68 = .ok (.iload 4, 2) := by decide +kernel
theorem dX5_trace_70 : decode cX5_trace 70 = .ok (.goto 10, 3) := by decide +kernel
theorem dX5_trace_73 : decode cX5_trace 73 = .ok (.aload_n 0, 1) := by decide +kernel
theorem dX5_trace_74 : decode cX5_trace 74 = .ok (.iload 4, 2) := by decide +kernel
theorem dX5_trace_76 : decode cX5_trace 76 = .ok (.iconst 2, 1) := by decide +kernel
theorem dX5_trace_77 : decode cX5_trace 77 = .ok (.invokevirtual 41, 3) := by decide +kernel
theorem dX5_trace_80 : decode cX5_trace 80 = .ok (.ireturn, 1) := by decide +kernel
theorem dX5_putAside_0 : decode cX5_putAside 0 = .ok (.iconst 0, 1) := by decide +kernel
theorem dX5_putAside_1 : decode cX5_putAside 1 = .ok (.istore_n 1, 1) := by decide +kernel
theorem dX5_putAside_2 : decode cX5_putAside 2 = .ok (.iload_n 1, 1) := by decide +kernel
theorem dX5_putAside_3 : decode cX5_putAside 3 = .ok (.sipush 233, 3) := by decide +kernel
theorem dX5_putAside_6 : decode cX5_putAside 6 = .ok (.if_icmp .ge 21, 3) := by decide +kernel
theorem dX5_putAside_9 : decode cX5_putAside 9 = .ok (.aload_n 0, 1) := by decide +kernel
theorem dX5_putAside_10 : decode cX5_putAside 10 = .ok (.getfield 13, 3) := by decide +kernel
theorem dX5_putAside_13 : decode cX5_putAside 13 = .ok (.iload_n 1, 1) := by decide +kernel
theorem dX5_putAside_14 : decode cX5_putAside 14 = .ok (.aload_n 0, 1) := by decide +kernel
theorem dX5_putAside_15 : decode cX5_putAside 15 = .ok (.getfield 7, 3) := by decide +kernel
theorem dX5_putAside_18 : decode cX5_putAside 18 = .ok (.iload_n 1, 1) := by decide +kernel
theorem dX5_putAside_19 : decode cX5_putAside 19 = .ok (.iaload, 1) := by decide +kernel
theorem dX5_putAside_20 : decode cX5_putAside 20 = .ok (.iastore, 1) := by decide +kernel
theorem dX5_putAside_21 : decode cX5_putAside 21 = .ok (.iinc 1 1, 3) := by decide +kernel
theorem dX5_putAside_24 : decode cX5_putAside 24 = .ok (.goto (-22), 3) := by decide +kernel
theorem dX5_putAside_27 : decode cX5_putAside 27 = .ok (.return_, 1) := by decide +kernel
theorem dX5_putBack_0 : decode cX5_putBack 0 = .ok (.iconst 0, 1) := by decide +kernel
theorem dX5_putBack_1 : decode cX5_putBack 1 = .ok (.istore_n 1, 1) := by decide +kernel
theorem dX5_putBack_2 : decode cX5_putBack 2 = .ok (.iload_n 1, 1) := by decide +kernel
theorem dX5_putBack_3 : decode cX5_putBack 3 = .ok (.sipush 233, 3) := by decide +kernel
theorem dX5_putBack_6 : decode cX5_putBack 6 = .ok (.if_icmp .ge 21, 3) := by decide +kernel
theorem dX5_putBack_9 : decode cX5_putBack 9 = .ok (.aload_n 0, 1) := by decide +kernel
theorem dX5_putBack_10 : decode cX5_putBack 10 = .ok (.getfield 7, 3) := by decide +kernel
theorem dX5_putBack_13 : decode cX5_putBack 13 = .ok (.iload_n 1, 1) := by decide +kernel
theorem dX5_putBack_14 : decode cX5_putBack 14 = .ok (.aload_n 0, 1) := by decide +kernel
theorem dX5_putBack_15 : decode cX5_putBack 15 = .ok (.getfield 13, 3) := by decide +kernel
theorem dX5_putBack_18 : decode cX5_putBack 18 = .ok (.iload_n 1, 1) := by decide +kernel
theorem dX5_putBack_19 : decode cX5_putBack 19 = .ok (.iaload, 1) := by decide +kernel
theorem dX5_putBack_20 : decode cX5_putBack 20 = .ok (.iastore, 1) := by decide +kernel
theorem dX5_putBack_21 : decode cX5_putBack 21 = .ok (.iinc 1 1, 3) := by decide +kernel
theorem dX5_putBack_24 : decode cX5_putBack 24 = .ok (.goto (-22), 3) := by decide +kernel
theorem dX5_putBack_27 : decode cX5_putBack 27 = .ok (.return_, 1) := by decide +kernel
theorem dX5_until_0 : decode cX5_until 0 = .ok (.iload_n 1, 1) := by decide +kernel
theorem dX5_until_1 : decode cX5_until 1 = .ok (.invokestatic 64, 3) := by decide +kernel
theorem dX5_until_4 : decode cX5_until 4 = .ok (.ifCond .ne 5, 3) := by decide +kernel
theorem dX5_until_7 : decode cX5_until 7 = .ok (.iconst (-1), 1) := by decide +kernel
theorem dX5_until_8 : decode cX5_until 8 = .ok (.ireturn, 1) := by decide +kernel
theorem dX5_until_9 : decode cX5_until 9 = .ok (.iload_n 2, 1) := by decide +kernel
theorem dX5_until_10 : decode cX5_until 10 = .ok (.iconst 0, 1) := by decide +kernel
theorem dX5_until_11 : decode cX5_until 11 = .ok (.bipush 11, 2) := by decide +kernel
theorem dX5_until_13 : decode cX5_until 13 = .ok (.invokestatic 33, 3) := by decide +kernel
theorem dX5_until_16 : decode cX5_until 16 = .ok (.ifCond .eq 14, 3) := by decide +kernel
theorem dX5_until_19 : decode cX5_until 19 = .ok (.iload_n 3, 1) := by decide +kernel
theorem dX5_until_20 : decode cX5_until 20 = .ok (.iconst 0, 1) := by decide +kernel
theorem dX5_until_21 : decode cX5_until 21 = .ok (.sipush 1000, 3) := by decide +kernel
theorem dX5_until_24 : decode cX5_until 24 = .ok (.invokestatic 33, 3) := by decide +kernel
theorem dX5_until_27 : decode cX5_until 27 = .ok (.ifCond .ne 6, 3) := by decide +kernel
theorem dX5_until_30 : decode cX5_until 30 = .ok (.bipush (-2), 2) := by decide +kernel
theorem dX5_until_32 : decode cX5_until 32 = .ok (.ireturn, 1) := by decide +kernel
theorem dX5_until_33 : decode cX5_until 33 = .ok (.aload_n 0, 1) := by decide +kernel
theorem dX5_until_34 : decode cX5_until 34 = .ok (.invokevirtual 169, 3) := by decide +kernel
theorem dX5_until_37 : decode cX5_until 37 = .ok (.iconst 0, 1) := by decide +kernel
theorem dX5_until_38 : decode cX5_until 38 = .ok (.istore 4, 2) := by decide +kernel
theorem dX5_until_40 : decode cX5_until 40 = .ok (.iload 4, 2) := by decide +kernel
theorem dX5_until_42 : decode cX5_until 42 = .ok (.iload_n 3, 1) := by decide +kernel
theorem dX5_until_43 : decode cX5_until 43 = .ok (.if_icmp .ge 23, 3) := by decide +kernel
theorem dX5_until_46 : decode cX5_until 46 = .ok (.aload_n 0, 1) := by decide +kernel
theorem dX5_until_47 : decode cX5_until 47 = .ok (.iload_n 1, 1) := by decide +kernel
theorem dX5_until_48 : decode cX5_until 48 = .ok (.iconst 0, 1) := by decide +kernel
theorem dX5_until_49 : decode cX5_until 49 = .ok (.invokevirtual 67, 3) := by decide +kernel
theorem dX5_until_52 : decode cX5_until 52 = .ok (.iload_n 2, 1) := by decide +kernel
theorem dX5_until_53 : decode cX5_until 53 = .ok (.if_icmp .eq 13, 3) := by decide +kernel
theorem dX5_until_56 : decode cX5_until 56 = .ok (.aload_n 0, 1) := by decide +kernel
theorem dX5_until_57 : decode cX5_until 57 = .ok (.invokevirtual 137, 3) := by decide +kernel
theorem dX5_until_60 : decode cX5_until 60 = .ok (.iinc 4 1, 3) := by decide +kernel
theorem dX5_until_63 : decode cX5_until 63 = .ok (.goto (-23), 3) := by decide +kernel
theorem dX5_until_66 : decode cX5_until 66 = .ok (.aload_n 0, 1) := by decide +kernel
theorem dX5_until_67 : decode cX5_until 67 = .ok (.iload_n 1, 1) := by decide +kernel
theorem dX5_until_68 : decode cX5_until 68 = .ok (.iconst 0, 1) := by decide +kernel
theorem dX5_until_69 : decode cX5_until 69 = .ok (.invokevirtual 67, 3) := by decide +kernel
theorem dX5_until_72 : decode cX5_until 72 = .ok (.iload_n 2, 1) := by decide +kernel
theorem dX5_until_73 : decode cX5_until 73 = .ok (.if_icmp .ne 7, 3) := by decide +kernel
theorem dX5_until_76 : decode cX5_until 76 = .ok (.iconst 1, 1) := by decide +kernel
theorem dX5_until_77 : decode cX5_until 77 = .ok (.goto 4, 3) := by decide +kernel
theorem dX5_until_80 : decode cX5_until 80 = .ok (.iconst 0, 1) := by decide +kernel
theorem dX5_until_81 : decode cX5_until 81 = .ok (.istore 5, 2) := by decide +kernel
theorem dX5_until_83 : decode cX5_until 83 = .ok (.aload_n 0, 1) := by decide +kernel
theorem dX5_until_84 : decode cX5_until 84 = .ok (.invokevirtual 172, 3) := by decide +kernel
theorem dX5_until_87 : decode cX5_until 87 = .ok (.iload 5, 2) := by decide +kernel
theorem dX5_until_89 : decode cX5_until 89 = .ok (.ifCond .eq 8, 3) := by decide +kernel
theorem dX5_until_92 : decode cX5_until 92 = .ok (.iload 4, 2) := by decide +kernel
theorem dX5_until_94 : decode cX5_until 94 = .ok (.goto 5, 3) := by decide +kernel
theorem dX5_until_97 : decode cX5_until 97 = .ok (.bipush (-6), 2) := by decide +kernel
theorem dX5_until_99 : decode cX5_until 99 = .ok (.ireturn, 1) := by decide +kernel
theorem dX5_isEnd_0 : decode cX5_isEnd 0 = .ok (.iload_n 0, 1) := by decide +kernel
theorem dX5_isEnd_1 : decode cX5_isEnd 1 = .ok (.iconst 4, 1) := by decide +kernel
theorem dX5_isEnd_2 : decode cX5_isEnd 2 = .ok (.if_icmp .eq 14, 3) := by decide +kernel
theorem dX5_isEnd_5 : decode cX5_isEnd 5 = .ok (.iload_n 0, 1) := by decide +kernel
theorem dX5_isEnd_6 : decode cX5_isEnd 6 = .ok (.bipush 8, 2) := by decide +kernel
theorem dX5_isEnd_8 : decode cX5_isEnd 8 = .ok (.bipush 11, 2) := by decide +kernel
theorem dX5_isEnd_10 : decode cX5_isEnd 10 = .ok (.invokestatic 33, 3) := by decide +kernel
theorem dX5_isEnd_13 : decode cX5_isEnd 13 = .ok (.ifCond .eq 7, 3) := by decide +kernel
theorem dX5_isEnd_16 : decode cX5_isEnd 16 = .ok (.iconst 1, 1) := by decide +kernel
theorem dX5_isEnd_17 : decode cX5_isEnd 17 = .ok (.goto 4, 3) := by decide +kernel
theorem dX5_isEnd_20 : decode cX5_isEnd 20 = .ok (.iconst 0, 1) := by decide +kernel
theorem dX5_isEnd_21 : decode cX5_isEnd 21 = .ok (.ireturn, 1) := by decide +kernel
theorem dX5_attempt_0 : decode cX5_attempt 0 = .ok (.iload_n 1, 1) := by decide +kernel
theorem dX5_attempt_1 : decode cX5_attempt 1 = .ok (.invokestatic 64, 3) := by decide +kernel
theorem dX5_attempt_4 : decode cX5_attempt 4 = .ok (.ifCond .eq 10, 3) := by decide +kernel
theorem dX5_attempt_7 : decode cX5_attempt 7 = .ok (.iload_n 2, 1) := by decide +kernel
theorem dX5_attempt_8 : decode cX5_attempt 8 = .ok (.invokestatic 64, 3) := by decide +kernel
theorem dX5_attempt_11 : decode cX5_attempt 11 = .ok (.ifCond .ne 5, 3) := by decide +kernel
theorem dX5_attempt_14 : decode cX5_attempt 14 = .ok (.iconst (-1), 1) := by decide +kernel
theorem dX5_attempt_15 : decode cX5_attempt 15 = .ok (.ireturn, 1) := by decide +kernel
theorem dX5_attempt_16 : decode cX5_attempt 16 = .ok (.iload_n 3, 1) := by decide +kernel
theorem dX5_attempt_17 : decode cX5_attempt 17 = .ok (.iconst 0, 1) := by decide +kernel
theorem dX5_attempt_18 : decode cX5_attempt 18 = .ok (.iconst 1, 1) := by decide +kernel
theorem dX5_attempt_19 : decode cX5_attempt 19 = .ok (.invokestatic 33, 3) := by decide +kernel
theorem dX5_attempt_22 : decode cX5_attempt 22 = .ok (.ifCond .ne 6, 3) := by decide +kernel
theorem dX5_attempt_25 : decode cX5_attempt 25 = .ok (.bipush (-2), 2) := by decide +kernel
theorem dX5_attempt_27 : decode cX5_attempt 27 = .ok (.ireturn, 1) := by decide +kernel
theorem dX5_attempt_28 : decode cX5_attempt 28 = .ok (.aload_n 0, 1) := by decide +kernel
theorem dX5_attempt_29 : decode cX5_attempt 29 = .ok (.iload_n 1, 1) := by decide +kernel
theorem dX5_attempt_30 : decode cX5_attempt 30 = .ok (.iconst 0, 1) := by decide +kernel
theorem dX5_attempt_31 : decode cX5_attempt 31 = .ok (.invokevirtual 67, 3) := by decide +kernel
theorem dX5_attempt_34 : decode cX5_attempt 34 = .ok (.ifCond .eq 6, 3) := by decide +kernel
theorem dX5_attempt_37 : decode cX5_attempt 37 = .ok (.bipush (-5), 2) := by decide +kernel
theorem dX5_attempt_39 : decode cX5_attempt 39 = .ok (.ireturn, 1) := by decide +kernel
theorem dX5_attempt_40 : decode cX5_attempt 40 = .ok (.aload_n 0, 1) := by decide +kernel
theorem dX5_attempt_41 : decode cX5_attempt 41 = .ok (.invokevirtual 169, 3) := by decide +kernel
theorem dX5_attempt_44 : decode cX5_attempt 44 = .ok (.aload_n 0, 1) := by decide +kernel
theorem dX5_attempt_45 : decode cX5_attempt 45 = .ok (.iload_n 1, 1) := by decide +kernel
theorem dX5_attempt_46 : decode cX5_attempt 46 = .ok (.invokevirtual 175, 3) := by decide +kernel
theorem dX5_attempt_49 : decode cX5_attempt 49 = .ok (.istore 4, 2) := by decide +kernel
theorem dX5_attempt_51 : decode cX5_attempt 51 = .ok (.iconst 0, 1) := by decide +kernel
theorem dX5_attempt_52 : decode cX5_attempt 52 = .ok (.istore 5, 2) := by decide +kernel
theorem dX5_attempt_54 : decode cX5_attempt 54 = .ok (.iconst 0, 1) := by decide +kernel
theorem dX5_attempt_55 : decode cX5_attempt 55 = .ok (.istore 6, 2) := by decide +kernel
theorem dX5_attempt_57 : decode cX5_attempt 57 = .ok (.iload 5, 2) := by decide +kernel
theorem dX5_attempt_59 : decode cX5_attempt 59 = .ok (.sipush 500, 3) := by decide +kernel
theorem dX5_attempt_62 : decode cX5_attempt 62 = .ok (.if_icmp .ge 66, 3) := by decide +kernel
theorem dX5_attempt_65 : decode cX5_attempt 65 = .ok (.aload_n 0, 1) := by decide +kernel
theorem dX5_attempt_66 : decode cX5_attempt 66 = .ok (.iload_n 1, 1) := by decide +kernel
theorem dX5_attempt_67 : decode cX5_attempt 67 = .ok (.iconst 0, 1) := by decide +kernel
theorem dX5_attempt_68 : decode cX5_attempt 68 = .ok (.invokevirtual 67, 3) := by decide +kernel
theorem dX5_attempt_71 : decode cX5_attempt 71 = .ok (.invokestatic 178, 3) := by decide +kernel
theorem dX5_attempt_74 : decode cX5_attempt 74 = .ok (.ifCond .ne 54, 3) := by decide +kernel
theorem dX5_attempt_77 : decode cX5_attempt 77 = .ok (.aload_n 0, 1) := by decide +kernel
theorem dX5_attempt_78 : decode cX5_attempt 78 = .ok (.invokevirtual 137, 3) := by decide +kernel
theorem dX5_attempt_81 : decode cX5_attempt 81 = .ok (.iinc 5 1, 3) := by decide +kernel
theorem dX5_attempt_84 : decode cX5_attempt 84 = .ok (.iload 6, 2) := by decide +kernel
theorem dX5_attempt_86 : decode cX5_attempt 86 = .ok (.ifCond .ne (-29), 3) := by decide +kernel
theorem dX5_attempt_89 : decode cX5_attempt 89 = .ok (.aload_n 0, 1) := by decide +kernel
theorem dX5_attempt_90 : decode cX5_attempt 90 = .ok (.iload_n 1, 1) := by decide +kernel
theorem dX5_attempt_91 : decode cX5_attempt 91 = .ok (.iconst 0, 1) := by decide +kernel
theorem dX5_attempt_92 : decode cX5_attempt 92 = .ok (.invokevirtual 67, 3) := by decide +kernel
theorem dX5_attempt_95 : decode cX5_attempt 95 = .ok (.iconst 2, 1) := by decide +kernel
theorem dX5_attempt_96 : decode cX5_attempt 96 = .ok (.if_icmp .ne (-39), 3) := by decide +kernel
theorem dX5_attempt_99 : decode cX5_attempt 99 = .ok (.aload_n 0, 1) := by decide +kernel
theorem dX5_attempt_100 : decode cX5_attempt 100 = .ok (.iload_n 1, 1) := by decide +kernel
theorem dX5_attempt_101 : decode cX5_attempt 101 = .ok (.iload_n 2, 1) := by decide +kernel
theorem dX5_attempt_102 : decode cX5_attempt 102 = .ok (.iconst 4, 1) := by decide +kernel
theorem dX5_attempt_103 : decode cX5_attempt 103 = .ok (.idiv, 1) := by decide +kernel
theorem dX5_attempt_104 : decode cX5_attempt 104 = .ok (.iconst 1, 1) := by decide +kernel
theorem dX5_attempt_105 : decode cX5_attempt 105 = .ok (.iadd, 1) := by decide +kernel
theorem dX5_attempt_106 : decode cX5_attempt 106 = .ok (.invokevirtual 181, 3) := by decide +kernel
theorem dX5_attempt_109 : decode cX5_attempt 109 = .ok (.aload_n 0, 1) := by decide +kernel
theorem dX5_attempt_110 : decode cX5_attempt 110 = .ok (.iload_n 1, 1) := by decide +kernel
theorem dX5_attempt_111 : decode cX5_attempt 111 = .ok (.iload_n 2, 1) := by decide +kernel
theorem dX5_attempt_112 : decode cX5_attempt 112 = .ok (.iconst 4, 1) := by decide +kernel
theorem dX5_attempt_113 : decode cX5_attempt 113 = .ok (.irem, 1) := by decide +kernel
theorem dX5_attempt_114 : decode cX5_attempt 114 = .ok (.iconst 1, 1) := by decide +kernel
theorem dX5_attempt_115 : decode cX5_attempt 115 = .ok (.iadd, 1) := by decide +kernel
theorem dX5_attempt_116 : decode cX5_attempt 116 = .ok (.invokevirtual 181, 3) := by decide +kernel
theorem dX5_attempt_119 : decode cX5_attempt 119 = .ok (.iadd, 1) := by decide +kernel
theorem dX5_attempt_120 : decode cX5_attempt 120 = .ok (.istore 4, 2) := by decide +kernel
theorem dX5_attempt_122 : decode cX5_attempt 122 = .ok (.iconst 1, 1) := by decide +kernel
theorem dX5_attempt_123 : decode cX5_attempt 123 = .ok (.istore 6, 2) := by decide +kernel
theorem dX5_attempt_125 : decode cX5_attempt 125 = .ok (.goto (-68), 3) := by decide +kernel
theorem dX5_attempt_128 : decode cX5_attempt 128 = .ok (.iload_n 3, 1) := by decide +kernel
theorem dX5_attempt_129 : decode cX5_attempt 129 = .ok (.ifCond .ne 12, 3) := by decide +kernel
theorem dX5_attempt_132 : decode cX5_attempt 132 = .ok (.aload_n 0, 1) := by decide +kernel
theorem dX5_attempt_133 : decode cX5_attempt 133 = .ok (.iload_n 1, 1) := by decide +kernel
theorem dX5_attempt_134 : decode cX5_attempt 134 = .ok (.iconst 0, 1) := by decide +kernel
theorem dX5_attempt_135 : decode cX5_attempt 135 = .ok (.invokevirtual 67, 3) := by decide +kernel
theorem dX5_attempt_138 : decode cX5_attempt 138 = .ok (.goto 5, 3) := by decide +kernel
theorem dX5_attempt_141 : decode cX5_attempt 141 = .ok (.iload 5, 2) := by decide +kernel
theorem dX5_attempt_143 : decode cX5_attempt 143 = .ok (.istore 4, 2) := by decide +kernel
theorem dX5_attempt_145 : decode cX5_attempt 145 = .ok (.aload_n 0, 1) := by decide +kernel
theorem dX5_attempt_146 : decode cX5_attempt 146 = .ok (.invokevirtual 172, 3) := by decide +kernel
theorem dX5_attempt_149 : decode cX5_attempt 149 = .ok (.iload 4, 2) := by decide +kernel
theorem dX5_attempt_151 : decode cX5_attempt 151 = .ok (.ireturn, 1) := by decide +kernel
theorem dX5_put_0 : decode cX5_put 0 = .ok (.iconst 0, 1) := by decide +kernel
theorem dX5_put_1 : decode cX5_put 1 = .ok (.istore_n 3, 1) := by decide +kernel
theorem dX5_put_2 : decode cX5_put 2 = .ok (.lload_n 1, 1) := by decide +kernel
theorem dX5_put_3 : decode cX5_put 3 = .ok (.lstore 4, 2) := by decide +kernel
theorem dX5_put_5 : decode cX5_put 5 = .ok (.iload_n 3, 1) := by decide +kernel
theorem dX5_put_6 : decode cX5_put 6 = .ok (.bipush 8, 2) := by decide +kernel
theorem dX5_put_8 : decode cX5_put 8 = .ok (.if_icmp .ge 47, 3) := by decide +kernel
theorem dX5_put_11 : decode cX5_put 11 = .ok (.lload 4, 2) := by decide +kernel
theorem dX5_put_13 : decode cX5_put 13 = .ok (.ldc2_w 184, 3) := by decide +kernel
theorem dX5_put_16 : decode cX5_put 16 = .ok (.land, 1) := by decide +kernel
theorem dX5_put_17 : decode cX5_put 17 = .ok (.lconst 0, 1) := by decide +kernel
theorem dX5_put_18 : decode cX5_put 18 = .ok (.lcmp, 1) := by decide +kernel
theorem dX5_put_19 : decode cX5_put 19 = .ok (.ifCond .eq 36, 3) := by decide +kernel
theorem dX5_put_22 : decode cX5_put 22 = .ok (.lload 4, 2) := by decide +kernel
theorem dX5_put_24 : decode cX5_put 24 = .ok (.ldc2_w 184, 3) := by decide +kernel
theorem dX5_put_27 : decode cX5_put 27 = .ok (.land, 1) := by decide +kernel
theorem dX5_put_28 : decode cX5_put 28 = .ok (.l2i, 1) := by decide +kernel
theorem dX5_put_29 : decode cX5_put 29 = .ok (.bipush 33, 2) := by decide +kernel
theorem dX5_put_31 : decode cX5_put 31 = .ok (.bipush 126, 2) := by decide +kernel
theorem dX5_put_33 : decode cX5_put 33 = .ok (.invokestatic 33, 3) := by decide +kernel
theorem dX5_put_36 : decode cX5_put 36 = .ok (.ifCond .ne 6, 3) := by decide +kernel
theorem dX5_put_39 : decode cX5_put 39 = .ok (.bipush (-2), 2) := by decide +kernel
theorem dX5_put_41 : decode cX5_put 41 = .ok (.ireturn, 1) := by decide +kernel
theorem dX5_put_42 : decode cX5_put 42 = .ok (.iinc 3 1, 3) := by decide +kernel
theorem dX5_put_45 : decode cX5_put 45 = .ok (.lload 4, 2) := by decide +kernel
theorem dX5_put_47 : decode cX5_put 47 = .ok (.bipush 8, 2) := by decide +kernel
theorem dX5_put_49 : decode cX5_put 49 = .ok (.lushr, 1) := by decide +kernel
theorem dX5_put_50 : decode cX5_put 50 = .ok (.lstore 4, 2) := by decide +kernel
theorem dX5_put_52 : decode cX5_put 52 = .ok (.goto (-47), 3) := by decide +kernel
theorem dX5_put_55 : decode cX5_put 55 = .ok (.iload_n 3, 1) := by decide +kernel
theorem dX5_put_56 : decode cX5_put 56 = .ok (.ifCond .eq 10, 3) := by decide +kernel
theorem dX5_put_59 : decode cX5_put 59 = .ok (.lload 4, 2) := by decide +kernel
theorem dX5_put_61 : decode cX5_put 61 = .ok (.lconst 0, 1) := by decide +kernel
theorem dX5_put_62 : decode cX5_put 62 = .ok (.lcmp, 1) := by decide +kernel
theorem dX5_put_63 : decode cX5_put 63 = .ok (.ifCond .eq 6, 3) := by decide +kernel
theorem dX5_put_66 : decode cX5_put 66 = .ok (.bipush (-2), 2) := by decide +kernel
theorem dX5_put_68 : decode cX5_put 68 = .ok (.ireturn, 1) := by decide +kernel
theorem dX5_put_69 : decode cX5_put 69 = .ok (.aload_n 0, 1) := by decide +kernel
theorem dX5_put_70 : decode cX5_put 70 = .ok (.getfield 165, 3) := by decide +kernel
theorem dX5_put_73 : decode cX5_put 73 = .ok (.iload_n 3, 1) := by decide +kernel
theorem dX5_put_74 : decode cX5_put 74 = .ok (.iadd, 1) := by decide +kernel
theorem dX5_put_75 : decode cX5_put 75 = .ok (.bipush 60, 2) := by decide +kernel
theorem dX5_put_77 : decode cX5_put 77 = .ok (.if_icmp .le 6, 3) := by decide +kernel
theorem dX5_put_80 : decode cX5_put 80 = .ok (.bipush (-4), 2) := by decide +kernel
theorem dX5_put_82 : decode cX5_put 82 = .ok (.ireturn, 1) := by decide +kernel
theorem dX5_put_83 : decode cX5_put 83 = .ok (.iconst 0, 1) := by decide +kernel
theorem dX5_put_84 : decode cX5_put 84 = .ok (.istore 6, 2) := by decide +kernel
theorem dX5_put_86 : decode cX5_put 86 = .ok (.iload 6, 2) := by decide +kernel
theorem dX5_put_88 : decode cX5_put 88 = .ok (.iload_n 3, 1) := by decide +kernel
theorem dX5_put_89 : decode cX5_put 89 = .ok (.if_icmp .ge 37, 3) := by decide +kernel
theorem dX5_put_92 : decode cX5_put 92 = .ok (.aload_n 0, 1) := by decide +kernel
theorem dX5_put_93 : decode cX5_put 93 = .ok (.getfield 23, 3) := by decide +kernel
theorem dX5_put_96 : decode cX5_put 96 = .ok (.aload_n 0, 1) := by decide +kernel
theorem dX5_put_97 : decode cX5_put 97 = .ok (.getfield 165, 3) := by decide +kernel
theorem dX5_put_100 : decode cX5_put 100 = .ok (.iload 6, 2) := by decide +kernel
theorem dX5_put_102 : decode cX5_put 102 = .ok (.iadd, 1) := by decide +kernel
theorem dX5_put_103 : decode cX5_put 103 = .ok (.lload_n 1, 1) := by decide +kernel
theorem dX5_put_104 : decode cX5_put 104 = .ok (.bipush 8, 2) := by decide +kernel
theorem dX5_put_106 : decode cX5_put 106 = .ok (.iload_n 3, 1) := by decide +kernel
theorem dX5_put_107 : decode cX5_put 107 = .ok (.iconst 1, 1) := by decide +kernel
theorem dX5_put_108 : decode cX5_put 108 = .ok (.isub, 1) := by decide +kernel
theorem dX5_put_109 : decode cX5_put 109 = .ok (.iload 6, 2) := by decide +kernel
theorem dX5_put_111 : decode cX5_put 111 = .ok (.isub, 1) := by decide +kernel
theorem dX5_put_112 : decode cX5_put 112 = .ok (.imul, 1) := by decide +kernel
theorem dX5_put_113 : decode cX5_put 113 = .ok (.lshr, 1) := by decide +kernel
theorem dX5_put_114 : decode cX5_put 114 = .ok (.ldc2_w 184, 3) := by decide +kernel
theorem dX5_put_117 : decode cX5_put 117 = .ok (.land, 1) := by decide +kernel
theorem dX5_put_118 : decode cX5_put 118 = .ok (.l2i, 1) := by decide +kernel
theorem dX5_put_119 : decode cX5_put 119 = .ok (.iastore, 1) := by decide +kernel
theorem dX5_put_120 : decode cX5_put 120 = .ok (.iinc 6 1, 3) := by decide +kernel
theorem dX5_put_123 : decode cX5_put 123 = .ok (.goto (-37), 3) := by decide +kernel
theorem dX5_put_126 : decode cX5_put 126 = .ok (.aload_n 0, 1) := by decide +kernel
theorem dX5_put_127 : decode cX5_put 127 = .ok (.dup, 1) := by decide +kernel
theorem dX5_put_128 : decode cX5_put 128 = .ok (.getfield 165, 3) := by decide +kernel
theorem dX5_put_131 : decode cX5_put 131 = .ok (.iload_n 3, 1) := by decide +kernel
theorem dX5_put_132 : decode cX5_put 132 = .ok (.iadd, 1) := by decide +kernel
theorem dX5_put_133 : decode cX5_put 133 = .ok (.putfield 165, 3) := by decide +kernel
theorem dX5_put_136 : decode cX5_put 136 = .ok (.aload_n 0, 1) := by decide +kernel
theorem dX5_put_137 : decode cX5_put 137 = .ok (.getfield 165, 3) := by decide +kernel
theorem dX5_put_140 : decode cX5_put 140 = .ok (.ireturn, 1) := by decide +kernel
theorem dX5_wipe_0 : decode cX5_wipe 0 = .ok (.aload_n 0, 1) := by decide +kernel
theorem dX5_wipe_1 : decode cX5_wipe 1 = .ok (.getfield 165, 3) := by decide +kernel
theorem dX5_wipe_4 : decode cX5_wipe 4 = .ok (.istore_n 1, 1) := by decide +kernel
theorem dX5_wipe_5 : decode cX5_wipe 5 = .ok (.aload_n 0, 1) := by decide +kernel
theorem dX5_wipe_6 : decode cX5_wipe 6 = .ok (.iconst 0, 1) := by decide +kernel
theorem dX5_wipe_7 : decode cX5_wipe 7 = .ok (.putfield 165, 3) := by decide +kernel
theorem dX5_wipe_10 : decode cX5_wipe 10 = .ok (.iload_n 1, 1) := by decide +kernel
theorem dX5_wipe_11 : decode cX5_wipe 11 = .ok (.ireturn, 1) := by decide +kernel
theorem dX5_next_0 : decode cX5_next 0 = .ok (.aload_n 0, 1) := by decide +kernel
theorem dX5_next_1 : decode cX5_next 1 = .ok (.getfield 186, 3) := by decide +kernel
theorem dX5_next_4 : decode cX5_next 4 = .ok (.aload_n 0, 1) := by decide +kernel
theorem dX5_next_5 : decode cX5_next 5 = .ok (.getfield 165, 3) := by decide +kernel
theorem dX5_next_8 : decode cX5_next 8 = .ok (.if_icmp .ge 15, 3) := by decide +kernel
theorem dX5_next_11 : decode cX5_next 11 = .ok (.aload_n 0, 1) := by decide +kernel
theorem dX5_next_12 : decode cX5_next 12 = .ok (.getfield 23, 3) := by decide +kernel
theorem dX5_next_15 : decode cX5_next 15 = .ok (.aload_n 0, 1) := by decide +kernel
theorem dX5_next_16 : decode cX5_next 16 = .ok (.getfield 186, 3) := by decide +kernel
theorem dX5_next_19 : decode cX5_next 19 = .ok (.iaload, 1) := by decide +kernel
theorem dX5_next_20 : decode cX5_next 20 = .ok (.goto 4, 3) := by decide +kernel
theorem dX5_next_23 : decode cX5_next 23 = .ok (.iconst 0, 1) := by decide +kernel
theorem dX5_next_24 : decode cX5_next 24 = .ok (.ireturn, 1) := by decide +kernel
theorem dX5_lineBy_0 : decode cX5_lineBy 0 = .ok (.iload_n 0, 1) := by decide +kernel
theorem dX5_lineBy_1 : decode cX5_lineBy 1 = .ok (.bipush 48, 2) := by decide +kernel
theorem dX5_lineBy_3 : decode cX5_lineBy 3 = .ok (.bipush 57, 2) := by decide +kernel
theorem dX5_lineBy_5 : decode cX5_lineBy 5 = .ok (.invokestatic 33, 3) := by decide +kernel
theorem dX5_lineBy_8 : decode cX5_lineBy 8 = .ok (.ifCond .eq 10, 3) := by decide +kernel
theorem dX5_lineBy_11 : decode cX5_lineBy 11 = .ok (.iload_n 0, 1) := by decide +kernel
theorem dX5_lineBy_12 : decode cX5_lineBy 12 = .ok (.bipush 48, 2) := by decide +kernel
theorem dX5_lineBy_14 : decode cX5_lineBy 14 = .ok (.isub, 1) := by decide +kernel
theorem dX5_lineBy_15 : decode cX5_lineBy 15 = .ok (.goto 26, 3) := by decide +kernel
theorem dX5_lineBy_18 : decode cX5_lineBy 18 = .ok (.iload_n 0, 1) := by decide +kernel
theorem dX5_lineBy_19 : decode cX5_lineBy 19 = .ok (.bipush 97, 2) := by decide +kernel
theorem dX5_lineBy_21 : decode cX5_lineBy 21 = .ok (.bipush 102, 2) := by decide +kernel
theorem dX5_lineBy_23 : decode cX5_lineBy 23 = .ok (.invokestatic 33, 3) := by decide +kernel
theorem dX5_lineBy_26 : decode cX5_lineBy 26 = .ok (.ifCond .eq 13, 3) := by decide +kernel
theorem dX5_lineBy_29 : decode cX5_lineBy 29 = .ok (.iload_n 0, 1) := by decide +kernel
theorem dX5_lineBy_30 : decode cX5_lineBy 30 = .ok (.bipush 97, 2) := by decide +kernel
theorem dX5_lineBy_32 : decode cX5_lineBy 32 = .ok (.isub, 1) := by decide +kernel
theorem dX5_lineBy_33 : decode cX5_lineBy 33 = .ok (.bipush 10, 2) := by decide +kernel
theorem dX5_lineBy_35 : decode cX5_lineBy 35 = .ok (.iadd, 1) := by decide +kernel
theorem dX5_lineBy_36 : decode cX5_lineBy 36 = .ok (.goto 5, 3) := by decide +kernel
theorem dX5_lineBy_39 : decode cX5_lineBy 39 = .ok (.bipush (-6), 2) := by decide +kernel
theorem dX5_lineBy_41 : decode cX5_lineBy 41 = .ok (.ireturn, 1) := by decide +kernel
theorem dX5_readLine_0 : decode cX5_readLine 0 = .ok (.aload_n 0, 1) := by decide +kernel
theorem dX5_readLine_1 : decode cX5_readLine 1 = .ok (.invokevirtual 189, 3) := by decide +kernel
theorem dX5_readLine_4 : decode cX5_readLine 4 = .ok (.invokestatic 193, 3) := by decide +kernel
theorem dX5_readLine_7 : decode cX5_readLine 7 = .ok (.istore_n 1, 1) := by decide +kernel
theorem dX5_readLine_8 : decode cX5_readLine 8 = .ok (.aload_n 0, 1) := by decide +kernel
theorem dX5_readLine_9 : decode cX5_readLine 9 = .ok (.aload_n 0, 1) := by decide +kernel
theorem dX5_readLine_10 : decode cX5_readLine 10 = .ok (.getfield 196, 3) := by decide +kernel
theorem dX5_readLine_13 : decode cX5_readLine 13 = .ok (.ifCond .ne 7, 3) := by decide +kernel
theorem dX5_readLine_16 : decode cX5_readLine 16 = .ok (.iload_n 1, 1) := by decide +kernel
theorem dX5_readLine_17 : decode cX5_readLine 17 = .ok (.ifCond .ge 7, 3) := by decide +kernel
theorem dX5_readLine_20 : decode cX5_readLine 20 = .ok (.iconst 1, 1) := by decide +kernel
theorem dX5_readLine_21 : decode cX5_readLine 21 = .ok (.goto 4, 3) := by decide +kernel
theorem dX5_readLine_24 : decode cX5_readLine 24 = .ok (.iconst 0, 1) := by decide +kernel
theorem dX5_readLine_25 : decode cX5_readLine 25 = .ok (.putfield 196, 3) := by decide +kernel
theorem dX5_readLine_28 : decode cX5_readLine 28 = .ok (.aload_n 0, 1) := by decide +kernel
theorem dX5_readLine_29 : decode cX5_readLine 29 = .ok (.dup, 1) := by decide +kernel
theorem dX5_readLine_30 : decode cX5_readLine 30 = .ok (.getfield 186, 3) := by decide +kernel
theorem dX5_readLine_33 : decode cX5_readLine 33 = .ok (.aload_n 0, 1) := by decide +kernel
theorem dX5_readLine_34 : decode cX5_readLine 34 = .ok (.getfield 196, 3) := by decide +kernel
theorem dX5_readLine_37 : decode cX5_readLine 37 = .ok (.ifCond .eq 7, 3) := by decide +kernel
theorem dX5_readLine_40 : decode cX5_readLine 40 = .ok (.iconst 0, 1) := by decide +kernel
theorem dX5_readLine_41 : decode cX5_readLine 41 = .ok (.goto 4, 3) := by decide +kernel
theorem dX5_readLine_44 : decode cX5_readLine 44 = .ok (.iconst 1, 1) := by decide +kernel
theorem dX5_readLine_45 : decode cX5_readLine 45 = .ok (.iadd, 1) := by decide +kernel
theorem dX5_readLine_46 : decode cX5_readLine 46 = .ok (.putfield 186, 3) := by decide +kernel
theorem dX5_readLine_49 : decode cX5_readLine 49 = .ok (.iload_n 1, 1) := by decide +kernel
theorem dX5_readLine_50 : decode cX5_readLine 50 = .ok (.ireturn, 1) := by decide +kernel
theorem dX5_readNumber_0 : decode cX5_readNumber 0 = .ok (.aload_n 0, 1) := by decide +kernel
theorem dX5_readNumber_1 : decode cX5_readNumber 1 = .ok (.invokevirtual 189, 3) := by decide +kernel
theorem dX5_readNumber_4 : decode cX5_readNumber 4 = .ok (.bipush 49, 2) := by decide +kernel
theorem dX5_readNumber_6 : decode cX5_readNumber 6 = .ok (.bipush 57, 2) := by decide +kernel
theorem dX5_readNumber_8 : decode cX5_readNumber 8 = .ok (.invokestatic 33, 3) := by decide +kernel
theorem dX5_readNumber_11 : decode cX5_readNumber 11 = .ok (.ifCond .ne 10, 3) := by decide +kernel
theorem dX5_readNumber_14 : decode cX5_readNumber 14 = .ok (.aload_n 0, 1) := by decide +kernel
theorem dX5_readNumber_15 : decode cX5_readNumber 15 = .ok (.iconst 1, 1) := by decide +kernel
theorem dX5_readNumber_16 : decode cX5_readNumber 16 = .ok (.putfield 196, 3) := by decide +kernel
theorem dX5_readNumber_19 : decode cX5_readNumber 19 = .ok (.iconst 0, 1) := by decide +kernel
theorem dX5_readNumber_20 : decode cX5_readNumber 20 = .ok (.ireturn, 1) := by decide +kernel
theorem dX5_readNumber_21 : decode cX5_readNumber 21 = .ok (.aload_n 0, 1) := by decide +kernel
theorem dX5_readNumber_22 : decode cX5_readNumber 22 = .ok (.invokevirtual 189, 3) := by decide +kernel
theorem dX5_readNumber_25 : decode cX5_readNumber 25 = .ok (.bipush 48, 2) := by decide +kernel
theorem dX5_readNumber_27 : decode cX5_readNumber 27 = .ok (.isub, 1) := by decide +kernel
theorem dX5_readNumber_28 : decode cX5_readNumber 28 = .ok (.istore_n 1, 1) := by decide +kernel
theorem dX5_readNumber_29 : decode cX5_readNumber 29 = .ok (.aload_n 0, 1) := by decide +kernel
theorem dX5_readNumber_30 : decode cX5_readNumber 30 = .ok (.dup, 1) := by decide +kernel
theorem dX5_readNumber_31 : decode cX5_readNumber 31 = .ok (.getfield 186, 3) := by decide +kernel
theorem dX5_readNumber_34 : decode cX5_readNumber 34 = .ok (.iconst 1, 1) := by decide +kernel
theorem dX5_readNumber_35 : decode cX5_readNumber 35 = .ok (.iadd, 1) := by decide +kernel
theorem dX5_readNumber_36 : decode cX5_readNumber 36 = .ok (.putfield 186, 3) := by decide +kernel
theorem dX5_readNumber_39 : decode cX5_readNumber 39 = .ok (.aload_n 0, 1) := by decide +kernel
theorem dX5_readNumber_40 : decode cX5_readNumber 40 = .ok (.invokevirtual 189, 3) := by decide +kernel
theorem dX5_readNumber_43 : decode cX5_readNumber 43 = .ok (.bipush 48, 2) := by decide +kernel
theorem dX5_readNumber_45 : decode cX5_readNumber 45 = .ok (.bipush 57, 2) := by decide +kernel
theorem dX5_readNumber_47 : decode cX5_readNumber 47 = .ok (.invokestatic 33, 3) := by decide +kernel
theorem dX5_readNumber_50 : decode cX5_readNumber 50 = .ok (.ifCond .eq 47, 3) := by decide +kernel
theorem dX5_readNumber_53 : decode cX5_readNumber 53 = .ok (.bipush 10, 2) := by decide +kernel
theorem dX5_readNumber_55 : decode cX5_readNumber 55 = .ok (.iload_n 1, 1) := by decide +kernel
theorem dX5_readNumber_56 : decode cX5_readNumber 56 = .ok (.imul, 1) := by decide +kernel
theorem dX5_readNumber_57 : decode cX5_readNumber 57 = .ok (.aload_n 0, 1) := by decide +kernel
theorem dX5_readNumber_58 : decode cX5_readNumber 58 = .ok (.invokevirtual 189, 3) := by decide +kernel
theorem dX5_readNumber_61 : decode cX5_readNumber 61 = .ok (.iadd, 1) := by decide +kernel
theorem dX5_readNumber_62 : decode cX5_readNumber 62 = .ok (.bipush 48, 2) := by decide +kernel
theorem dX5_readNumber_64 : decode cX5_readNumber 64 = .ok (.isub, 1) := by decide +kernel
theorem dX5_readNumber_65 : decode cX5_readNumber 65 = .ok (.sipush 200, 3) := by decide +kernel
theorem dX5_readNumber_68 : decode cX5_readNumber 68 = .ok (.if_icmp .gt 29, 3) := by decide +kernel
theorem dX5_readNumber_71 : decode cX5_readNumber 71 = .ok (.bipush 10, 2) := by decide +kernel
theorem dX5_readNumber_73 : decode cX5_readNumber 73 = .ok (.iload_n 1, 1) := by decide +kernel
theorem dX5_readNumber_74 : decode cX5_readNumber 74 = .ok (.imul, 1) := by decide +kernel
theorem dX5_readNumber_75 : decode cX5_readNumber 75 = .ok (.aload_n 0, 1) := by decide +kernel
theorem dX5_readNumber_76 : decode cX5_readNumber 76 = .ok (.invokevirtual 189, 3) := by decide +kernel
theorem dX5_readNumber_79 : decode cX5_readNumber 79 = .ok (.iadd, 1) := by decide +kernel
theorem dX5_readNumber_80 : decode cX5_readNumber 80 = .ok (.bipush 48, 2) := by decide +kernel
theorem dX5_readNumber_82 : decode cX5_readNumber 82 = .ok (.isub, 1) := by decide +kernel
theorem dX5_readNumber_83 : decode cX5_readNumber 83 = .ok (.istore_n 1, 1) := by decide +kernel
theorem dX5_readNumber_84 : decode cX5_readNumber 84 = .ok (.aload_n 0, 1) := by decide +kernel
theorem dX5_readNumber_85 : decode cX5_readNumber 85 = .ok (.dup, 1) := by decide +kernel
theorem dX5_readNumber_86 : decode cX5_readNumber 86 = .ok (.getfield 186, 3) := by decide +kernel
theorem dX5_readNumber_89 : decode cX5_readNumber 89 = .ok (.iconst 1, 1) := by decide +kernel
theorem dX5_readNumber_90 : decode cX5_readNumber 90 = .ok (.iadd, 1) := by decide +kernel
theorem dX5_readNumber_91 : decode cX5_readNumber 91 = .ok (.putfield 186, 3) := by decide +kernel
theorem dX5_readNumber_94 : decode cX5_readNumber 94 = .ok (.goto (-55), 3) := by decide +kernel
theorem dX5_readNumber_97 : decode cX5_readNumber 97 = .ok (.iload_n 1, 1) := by decide +kernel
theorem dX5_readNumber_98 : decode cX5_readNumber 98 = .ok (.ireturn, 1) := by decide +kernel
theorem dX5_readDigits_0 : decode cX5_readDigits 0 = .ok (.aload_n 0, 1) := by decide +kernel
theorem dX5_readDigits_1 : decode cX5_readDigits 1 = .ok (.getfield 26, 3) := by decide +kernel
theorem dX5_readDigits_4 : decode cX5_readDigits 4 = .ok (.iload_n 1, 1) := by decide +kernel
theorem dX5_readDigits_5 : decode cX5_readDigits 5 = .ok (.iconst 2, 1) := by decide +kernel
theorem dX5_readDigits_6 : decode cX5_readDigits 6 = .ok (.iadd, 1) := by decide +kernel
theorem dX5_readDigits_7 : decode cX5_readDigits 7 = .ok (.aload_n 0, 1) := by decide +kernel
theorem dX5_readDigits_8 : decode cX5_readDigits 8 = .ok (.getfield 186, 3) := by decide +kernel
theorem dX5_readDigits_11 : decode cX5_readDigits 11 = .ok (.iastore, 1) := by decide +kernel
theorem dX5_readDigits_12 : decode cX5_readDigits 12 = .ok (.aload_n 0, 1) := by decide +kernel
theorem dX5_readDigits_13 : decode cX5_readDigits 13 = .ok (.getfield 196, 3) := by decide +kernel
theorem dX5_readDigits_16 : decode cX5_readDigits 16 = .ok (.ifCond .ne 30, 3) := by decide +kernel
theorem dX5_readDigits_19 : decode cX5_readDigits 19 = .ok (.aload_n 0, 1) := by decide +kernel
theorem dX5_readDigits_20 : decode cX5_readDigits 20 = .ok (.invokevirtual 189, 3) := by decide +kernel
theorem dX5_readDigits_23 : decode cX5_readDigits 23 = .ok (.bipush 48, 2) := by decide +kernel
theorem dX5_readDigits_25 : decode cX5_readDigits 25 = .ok (.bipush 57, 2) := by decide +kernel
theorem dX5_readDigits_27 : decode cX5_readDigits 27 = .ok (.invokestatic 33, 3) := by decide +kernel
theorem dX5_readDigits_30 : decode cX5_readDigits 30 = .ok (.ifCond .eq 16, 3) := by decide +kernel
theorem dX5_readDigits_33 : decode cX5_readDigits 33 = .ok (.aload_n 0, 1) := by decide +kernel
theorem dX5_readDigits_34 : decode cX5_readDigits 34 = .ok (.dup, 1) := by decide +kernel
theorem dX5_readDigits_35 : decode cX5_readDigits 35 = .ok (.getfield 186, 3) := by decide +kernel
theorem dX5_readDigits_38 : decode cX5_readDigits 38 = .ok (.iconst 1, 1) := by decide +kernel
theorem dX5_readDigits_39 : decode cX5_readDigits 39 = .ok (.iadd, 1) := by decide +kernel
theorem dX5_readDigits_40 : decode cX5_readDigits 40 = .ok (.putfield 186, 3) := by decide +kernel
theorem dX5_readDigits_43 : decode cX5_readDigits 43 = .ok (.goto (-31), 3) := by decide +kernel
theorem dX5_readDigits_46 : decode cX5_readDigits 46 = .ok (.aload_n 0, 1) := by decide +kernel
theorem dX5_readDigits_47 : decode cX5_readDigits 47 = .ok (.getfield 26, 3) := by decide +kernel
theorem dX5_readDigits_50 : decode cX5_readDigits 50 = .ok (.iload_n 1, 1) := by decide +kernel
theorem dX5_readDigits_51 : decode cX5_readDigits 51 = .ok (.iconst 3, 1) := by decide +kernel
theorem dX5_readDigits_52 : decode cX5_readDigits 52 = .ok (.iadd, 1) := by decide +kernel
theorem dX5_readDigits_53 : decode cX5_readDigits 53 = .ok (.aload_n 0, 1) := by decide +kernel
theorem dX5_readDigits_54 : decode cX5_readDigits 54 = .ok (.getfield 186, 3) := by decide +kernel
theorem dX5_readDigits_57 : decode cX5_readDigits 57 = .ok (.aload_n 0, 1) := by decide +kernel
theorem dX5_readDigits_58 : decode cX5_readDigits 58 = .ok (.getfield 26, 3) := by decide +kernel
theorem dX5_readDigits_61 : decode cX5_readDigits 61 = .ok (.iload_n 1, 1) := by decide +kernel
theorem dX5_readDigits_62 : decode cX5_readDigits 62 = .ok (.iconst 2, 1) := by decide +kernel
theorem dX5_readDigits_63 : decode cX5_readDigits 63 = .ok (.iadd, 1) := by decide +kernel
theorem dX5_readDigits_64 : decode cX5_readDigits 64 = .ok (.iaload, 1) := by decide +kernel
theorem dX5_readDigits_65 : decode cX5_readDigits 65 = .ok (.isub, 1) := by decide +kernel
theorem dX5_readDigits_66 : decode cX5_readDigits 66 = .ok (.iastore, 1) := by decide +kernel
theorem dX5_readDigits_67 : decode cX5_readDigits 67 = .ok (.aload_n 0, 1) := by decide +kernel
theorem dX5_readDigits_68 : decode cX5_readDigits 68 = .ok (.aload_n 0, 1) := by decide +kernel
theorem dX5_readDigits_69 : decode cX5_readDigits 69 = .ok (.getfield 196, 3) := by decide +kernel
theorem dX5_readDigits_72 : decode cX5_readDigits 72 = .ok (.ifCond .ne 14, 3) := by decide +kernel
theorem dX5_readDigits_75 : decode cX5_readDigits 75 = .ok (.aload_n 0, 1) := by decide +kernel
theorem dX5_readDigits_76 : decode cX5_readDigits 76 = .ok (.getfield 26, 3) := by decide +kernel
theorem dX5_readDigits_79 : decode cX5_readDigits 79 = .ok (.iload_n 1, 1) := by decide +kernel
theorem dX5_readDigits_80 : decode cX5_readDigits 80 = .ok (.iconst 3, 1) := by decide +kernel
theorem dX5_readDigits_81 : decode cX5_readDigits 81 = .ok (.iadd, 1) := by decide +kernel
theorem dX5_readDigits_82 : decode cX5_readDigits 82 = .ok (.iaload, 1) := by decide +kernel
theorem dX5_readDigits_83 : decode cX5_readDigits 83 = .ok (.ifCond .ne 7, 3) := by decide +kernel
theorem dX5_readDigits_86 : decode cX5_readDigits 86 = .ok (.iconst 1, 1) := by decide +kernel
theorem dX5_readDigits_87 : decode cX5_readDigits 87 = .ok (.goto 4, 3) := by decide +kernel
theorem dX5_readDigits_90 : decode cX5_readDigits 90 = .ok (.iconst 0, 1) := by decide +kernel
theorem dX5_readDigits_91 : decode cX5_readDigits 91 = .ok (.putfield 196, 3) := by decide +kernel
theorem dX5_readDigits_94 : decode cX5_readDigits 94 = .ok (.return_, 1) := by decide +kernel
theorem dX5_readAct_0 : decode cX5_readAct 0 = .ok (.aload_n 0, 1) := by decide +kernel
theorem dX5_readAct_1 : decode cX5_readAct 1 = .ok (.invokevirtual 189, 3) := by decide +kernel
theorem dX5_readAct_4 : decode cX5_readAct 4 = .ok (.istore_n 1, 1) := by decide +kernel
theorem dX5_readAct_5 : decode cX5_readAct 5 = .ok (.iload_n 1, 1) := by decide +kernel
theorem dX5_readAct_6 : decode cX5_readAct 6 = .ok (.bipush 108, 2) := by decide +kernel
theorem dX5_readAct_8 : decode cX5_readAct 8 = .ok (.if_icmp .eq 27, 3) := by decide +kernel
theorem dX5_readAct_11 : decode cX5_readAct 11 = .ok (.iload_n 1, 1) := by decide +kernel
theorem dX5_readAct_12 : decode cX5_readAct 12 = .ok (.bipush 104, 2) := by decide +kernel
theorem dX5_readAct_14 : decode cX5_readAct 14 = .ok (.if_icmp .eq 21, 3) := by decide +kernel
theorem dX5_readAct_17 : decode cX5_readAct 17 = .ok (.iload_n 1, 1) := by decide +kernel
theorem dX5_readAct_18 : decode cX5_readAct 18 = .ok (.bipush 100, 2) := by decide +kernel
theorem dX5_readAct_20 : decode cX5_readAct 20 = .ok (.if_icmp .eq 15, 3) := by decide +kernel
theorem dX5_readAct_23 : decode cX5_readAct 23 = .ok (.iload_n 1, 1) := by decide +kernel
theorem dX5_readAct_24 : decode cX5_readAct 24 = .ok (.bipush 116, 2) := by decide +kernel
theorem dX5_readAct_26 : decode cX5_readAct 26 = .ok (.if_icmp .eq 9, 3) := by decide +kernel
theorem dX5_readAct_29 : decode cX5_readAct 29 = .ok (.aload_n 0, 1) := by decide +kernel
theorem dX5_readAct_30 : decode cX5_readAct 30 = .ok (.iconst 1, 1) := by decide +kernel
theorem dX5_readAct_31 : decode cX5_readAct 31 = .ok (.putfield 196, 3) := by decide +kernel
theorem dX5_readAct_34 : decode cX5_readAct 34 = .ok (.return_, 1) := by decide +kernel
theorem dX5_readAct_35 : decode cX5_readAct 35 = .ok (.aload_n 0, 1) := by decide +kernel
theorem dX5_readAct_36 : decode cX5_readAct 36 = .ok (.dup, 1) := by decide +kernel
theorem dX5_readAct_37 : decode cX5_readAct 37 = .ok (.getfield 186, 3) := by decide +kernel
theorem dX5_readAct_40 : decode cX5_readAct 40 = .ok (.iconst 1, 1) := by decide +kernel
theorem dX5_readAct_41 : decode cX5_readAct 41 = .ok (.iadd, 1) := by decide +kernel
theorem dX5_readAct_42 : decode cX5_readAct 42 = .ok (.putfield 186, 3) := by decide +kernel
theorem dX5_readAct_45 : decode cX5_readAct 45 = .ok (.iconst 4, 1) := by decide +kernel
theorem dX5_readAct_46 : decode cX5_readAct 46 = .ok (.aload_n 0, 1) := by decide +kernel
theorem dX5_readAct_47 : decode cX5_readAct 47 = .ok (.getfield 200, 3) := by decide +kernel
theorem dX5_readAct_50 : decode cX5_readAct 50 = .ok (.imul, 1) := by decide +kernel
theorem dX5_readAct_51 : decode cX5_readAct 51 = .ok (.istore_n 2, 1) := by decide +kernel
theorem dX5_readAct_52 : decode cX5_readAct 52 = .ok (.aload_n 0, 1) := by decide +kernel
theorem dX5_readAct_53 : decode cX5_readAct 53 = .ok (.getfield 26, 3) := by decide +kernel
theorem dX5_readAct_56 : decode cX5_readAct 56 = .ok (.iload_n 2, 1) := by decide +kernel
theorem dX5_readAct_57 : decode cX5_readAct 57 = .ok (.iload_n 1, 1) := by decide +kernel
theorem dX5_readAct_58 : decode cX5_readAct 58 = .ok (.iastore, 1) := by decide +kernel
theorem dX5_readAct_59 : decode cX5_readAct 59 = .ok (.aload_n 0, 1) := by decide +kernel
theorem dX5_readAct_60 : decode cX5_readAct 60 = .ok (.getfield 26, 3) := by decide +kernel
theorem dX5_readAct_63 : decode cX5_readAct 63 = .ok (.iload_n 2, 1) := by decide +kernel
theorem dX5_readAct_64 : decode cX5_readAct 64 = .ok (.iconst 1, 1) := by decide +kernel
theorem dX5_readAct_65 : decode cX5_readAct 65 = .ok (.iadd, 1) := by decide +kernel
theorem dX5_readAct_66 : decode cX5_readAct 66 = .ok (.iload_n 1, 1) := by decide +kernel
theorem dX5_readAct_67 : decode cX5_readAct 67 = .ok (.bipush 116, 2) := by decide +kernel
theorem dX5_readAct_69 : decode cX5_readAct 69 = .ok (.if_icmp .ne 10, 3) := by decide +kernel
theorem dX5_readAct_72 : decode cX5_readAct 72 = .ok (.aload_n 0, 1) := by decide +kernel
theorem dX5_readAct_73 : decode cX5_readAct 73 = .ok (.invokevirtual 203, 3) := by decide +kernel
theorem dX5_readAct_76 : decode cX5_readAct 76 = .ok (.goto 7, 3) := by decide +kernel
theorem dX5_readAct_79 : decode cX5_readAct 79 = .ok (.aload_n 0, 1) := by decide +kernel
theorem dX5_readAct_80 : decode cX5_readAct 80 = .ok (.invokevirtual 206, 3) := by decide +kernel
theorem dX5_readAct_83 : decode cX5_readAct 83 = .ok (.iastore, 1) := by decide +kernel
theorem dX5_readAct_84 : decode cX5_readAct 84 = .ok (.iload_n 1, 1) := by decide +kernel
theorem dX5_readAct_85 : decode cX5_readAct 85 = .ok (.bipush 100, 2) := by decide +kernel
theorem dX5_readAct_87 : decode cX5_readAct 87 = .ok (.if_icmp .ne 8, 3) := by decide +kernel
theorem dX5_readAct_90 : decode cX5_readAct 90 = .ok (.aload_n 0, 1) := by decide +kernel
theorem dX5_readAct_91 : decode cX5_readAct 91 = .ok (.iload_n 2, 1) := by decide +kernel
theorem dX5_readAct_92 : decode cX5_readAct 92 = .ok (.invokevirtual 209, 3) := by decide +kernel
theorem dX5_readAct_95 : decode cX5_readAct 95 = .ok (.aload_n 0, 1) := by decide +kernel
theorem dX5_readAct_96 : decode cX5_readAct 96 = .ok (.dup, 1) := by decide +kernel
theorem dX5_readAct_97 : decode cX5_readAct 97 = .ok (.getfield 200, 3) := by decide +kernel
theorem dX5_readAct_100 : decode cX5_readAct 100 = .ok (.iconst 1, 1) := by decide +kernel
theorem dX5_readAct_101 : decode cX5_readAct 101 = .ok (.iadd, 1) := by decide +kernel
theorem dX5_readAct_102 : decode cX5_readAct 102 = .ok (.putfield 200, 3) := by decide +kernel
theorem dX5_readAct_105 : decode cX5_readAct 105 = .ok (.return_, 1) := by decide +kernel
theorem dX5_fault_0 : decode cX5_fault 0 = .ok (.aload_n 0, 1) := by decide +kernel
theorem dX5_fault_1 : decode cX5_fault 1 = .ok (.iconst 0, 1) := by decide +kernel
theorem dX5_fault_2 : decode cX5_fault 2 = .ok (.putfield 186, 3) := by decide +kernel
theorem dX5_fault_5 : decode cX5_fault 5 = .ok (.aload_n 0, 1) := by decide +kernel
theorem dX5_fault_6 : decode cX5_fault 6 = .ok (.iconst 0, 1) := by decide +kernel
theorem dX5_fault_7 : decode cX5_fault 7 = .ok (.putfield 196, 3) := by decide +kernel
theorem dX5_fault_10 : decode cX5_fault 10 = .ok (.aload_n 0, 1) := by decide +kernel
theorem dX5_fault_11 : decode cX5_fault 11 = .ok (.iconst 0, 1) := by decide +kernel
theorem dX5_fault_12 : decode cX5_fault 12 = .ok (.putfield 200, 3) := by decide +kernel
theorem dX5_fault_15 : decode cX5_fault 15 = .ok (.aload_n 0, 1) := by decide +kernel
theorem dX5_fault_16 : decode cX5_fault 16 = .ok (.invokevirtual 212, 3) := by decide +kernel
theorem dX5_fault_19 : decode cX5_fault 19 = .ok (.aload_n 0, 1) := by decide +kernel
theorem dX5_fault_20 : decode cX5_fault 20 = .ok (.getfield 196, 3) := by decide +kernel
theorem dX5_fault_23 : decode cX5_fault 23 = .ok (.ifCond .ne 29, 3) := by decide +kernel
theorem dX5_fault_26 : decode cX5_fault 26 = .ok (.aload_n 0, 1) := by decide +kernel
theorem dX5_fault_27 : decode cX5_fault 27 = .ok (.invokevirtual 189, 3) := by decide +kernel
theorem dX5_fault_30 : decode cX5_fault 30 = .ok (.bipush 44, 2) := by decide +kernel
theorem dX5_fault_32 : decode cX5_fault 32 = .ok (.if_icmp .ne 20, 3) := by decide +kernel
theorem dX5_fault_35 : decode cX5_fault 35 = .ok (.aload_n 0, 1) := by decide +kernel
theorem dX5_fault_36 : decode cX5_fault 36 = .ok (.dup, 1) := by decide +kernel
theorem dX5_fault_37 : decode cX5_fault 37 = .ok (.getfield 186, 3) := by decide +kernel
theorem dX5_fault_40 : decode cX5_fault 40 = .ok (.iconst 1, 1) := by decide +kernel
theorem dX5_fault_41 : decode cX5_fault 41 = .ok (.iadd, 1) := by decide +kernel
theorem dX5_fault_42 : decode cX5_fault 42 = .ok (.putfield 186, 3) := by decide +kernel
theorem dX5_fault_45 : decode cX5_fault 45 = .ok (.aload_n 0, 1) := by decide +kernel
theorem dX5_fault_46 : decode cX5_fault 46 = .ok (.invokevirtual 212, 3) := by decide +kernel
theorem dX5_fault_49 : decode cX5_fault 49 = .ok (.goto (-30), 3) := by decide +kernel
theorem dX5_fault_52 : decode cX5_fault 52 = .ok (.aload_n 0, 1) := by decide +kernel
theorem dX5_fault_53 : decode cX5_fault 53 = .ok (.getfield 196, 3) := by decide +kernel
theorem dX5_fault_56 : decode cX5_fault 56 = .ok (.ifCond .ne 14, 3) := by decide +kernel
theorem dX5_fault_59 : decode cX5_fault 59 = .ok (.aload_n 0, 1) := by decide +kernel
theorem dX5_fault_60 : decode cX5_fault 60 = .ok (.getfield 186, 3) := by decide +kernel
theorem dX5_fault_63 : decode cX5_fault 63 = .ok (.aload_n 0, 1) := by decide +kernel
theorem dX5_fault_64 : decode cX5_fault 64 = .ok (.getfield 165, 3) := by decide +kernel
theorem dX5_fault_67 : decode cX5_fault 67 = .ok (.if_icmp .ge 10, 3) := by decide +kernel
theorem dX5_fault_70 : decode cX5_fault 70 = .ok (.aload_n 0, 1) := by decide +kernel
theorem dX5_fault_71 : decode cX5_fault 71 = .ok (.getfield 186, 3) := by decide +kernel
theorem dX5_fault_74 : decode cX5_fault 74 = .ok (.goto 5, 3) := by decide +kernel
theorem dX5_fault_77 : decode cX5_fault 77 = .ok (.bipush (-6), 2) := by decide +kernel
theorem dX5_fault_79 : decode cX5_fault 79 = .ok (.ireturn, 1) := by decide +kernel
theorem dX5_dials_0 : decode cX5_dials 0 = .ok (.iconst 1, 1) := by decide +kernel
theorem dX5_dials_1 : decode cX5_dials 1 = .ok (.istore_n 2, 1) := by decide +kernel
theorem dX5_dials_2 : decode cX5_dials 2 = .ok (.iconst 0, 1) := by decide +kernel
theorem dX5_dials_3 : decode cX5_dials 3 = .ok (.istore_n 3, 1) := by decide +kernel
theorem dX5_dials_4 : decode cX5_dials 4 = .ok (.iload_n 3, 1) := by decide +kernel
theorem dX5_dials_5 : decode cX5_dials 5 = .ok (.aload_n 0, 1) := by decide +kernel
theorem dX5_dials_6 : decode cX5_dials 6 = .ok (.getfield 26, 3) := by decide +kernel
theorem dX5_dials_9 : decode cX5_dials 9 = .ok (.iload_n 1, 1) := by decide +kernel
theorem dX5_dials_10 : decode cX5_dials 10 = .ok (.iconst 3, 1) := by decide +kernel
theorem dX5_dials_11 : decode cX5_dials 11 = .ok (.iadd, 1) := by decide +kernel
theorem dX5_dials_12 : decode cX5_dials 12 = .ok (.iaload, 1) := by decide +kernel
theorem dX5_dials_13 : decode cX5_dials 13 = .ok (.if_icmp .ge 52, 3) := by decide +kernel
theorem dX5_dials_16 : decode cX5_dials 16 = .ok (.iload_n 2, 1) := by decide +kernel
theorem dX5_dials_17 : decode cX5_dials 17 = .ok (.ifCond .eq 48, 3) := by decide +kernel
theorem dX5_dials_20 : decode cX5_dials 20 = .ok (.aload_n 0, 1) := by decide +kernel
theorem dX5_dials_21 : decode cX5_dials 21 = .ok (.aload_n 0, 1) := by decide +kernel
theorem dX5_dials_22 : decode cX5_dials 22 = .ok (.getfield 26, 3) := by decide +kernel
theorem dX5_dials_25 : decode cX5_dials 25 = .ok (.iload_n 1, 1) := by decide +kernel
theorem dX5_dials_26 : decode cX5_dials 26 = .ok (.iconst 1, 1) := by decide +kernel
theorem dX5_dials_27 : decode cX5_dials 27 = .ok (.iadd, 1) := by decide +kernel
theorem dX5_dials_28 : decode cX5_dials 28 = .ok (.iaload, 1) := by decide +kernel
theorem dX5_dials_29 : decode cX5_dials 29 = .ok (.aload_n 0, 1) := by decide +kernel
theorem dX5_dials_30 : decode cX5_dials 30 = .ok (.getfield 23, 3) := by decide +kernel
theorem dX5_dials_33 : decode cX5_dials 33 = .ok (.aload_n 0, 1) := by decide +kernel
theorem dX5_dials_34 : decode cX5_dials 34 = .ok (.getfield 26, 3) := by decide +kernel
theorem dX5_dials_37 : decode cX5_dials 37 = .ok (.iload_n 1, 1) := by decide +kernel
theorem dX5_dials_38 : decode cX5_dials 38 = .ok (.iconst 2, 1) := by decide +kernel
theorem dX5_dials_39 : decode cX5_dials 39 = .ok (.iadd, 1) := by decide +kernel
theorem dX5_dials_40 : decode cX5_dials 40 = .ok (.iaload, 1) := by decide +kernel
theorem dX5_dials_41 : decode cX5_dials 41 = .ok (.iload_n 3, 1) := by decide +kernel
theorem dX5_dials_42 : decode cX5_dials 42 = .ok (.iadd, 1) := by decide +kernel
theorem dX5_dials_43 : decode cX5_dials 43 = .ok (.iaload, 1) := by decide +kernel
theorem dX5_dials_44 : decode cX5_dials 44 = .ok (.bipush 48, 2) := by decide +kernel
theorem dX5_dials_46 : decode cX5_dials 46 = .ok (.isub, 1) := by decide +kernel
theorem dX5_dials_47 : decode cX5_dials 47 = .ok (.invokevirtual 181, 3) := by decide +kernel
theorem dX5_dials_50 : decode cX5_dials 50 = .ok (.ifCond .lt 7, 3) := by decide +kernel
theorem dX5_dials_53 : decode cX5_dials 53 = .ok (.iconst 1, 1) := by decide +kernel
theorem dX5_dials_54 : decode cX5_dials 54 = .ok (.goto 4, 3) := by decide +kernel
theorem dX5_dials_57 : decode cX5_dials 57 = .ok (.iconst 0, 1) := by decide +kernel
theorem dX5_dials_58 : decode cX5_dials 58 = .ok (.istore_n 2, 1) := by decide +kernel
theorem dX5_dials_59 : decode cX5_dials 59 = .ok (.iinc 3 1, 3) := by decide +kernel
theorem dX5_dials_62 : decode cX5_dials 62 = .ok (.goto (-58), 3) := by decide +kernel
theorem dX5_dials_65 : decode cX5_dials 65 = .ok (.iload_n 2, 1) := by decide +kernel
theorem dX5_dials_66 : decode cX5_dials 66 = .ok (.ireturn, 1) := by decide +kernel
theorem dX5_does_0 : decode cX5_does 0 = .ok (.aload_n 0, 1) := by decide +kernel
theorem dX5_does_1 : decode cX5_does 1 = .ok (.getfield 26, 3) := by decide +kernel
theorem dX5_does_4 : decode cX5_does 4 = .ok (.iload_n 1, 1) := by decide +kernel
theorem dX5_does_5 : decode cX5_does 5 = .ok (.iaload, 1) := by decide +kernel
theorem dX5_does_6 : decode cX5_does 6 = .ok (.lookupswitch 82 #[(100, 76), (104, 55), (108, 34)], 34) := by decide +kernel
theorem dX5_does_40 : decode cX5_does 40 = .ok (.aload_n 0, 1) := by decide +kernel
theorem dX5_does_41 : decode cX5_does 41 = .ok (.aload_n 0, 1) := by decide +kernel
theorem dX5_does_42 : decode cX5_does 42 = .ok (.getfield 26, 3) := by decide +kernel
theorem dX5_does_45 : decode cX5_does 45 = .ok (.iload_n 1, 1) := by decide +kernel
theorem dX5_does_46 : decode cX5_does 46 = .ok (.iconst 1, 1) := by decide +kernel
theorem dX5_does_47 : decode cX5_does 47 = .ok (.iadd, 1) := by decide +kernel
theorem dX5_does_48 : decode cX5_does 48 = .ok (.iaload, 1) := by decide +kernel
theorem dX5_does_49 : decode cX5_does 49 = .ok (.invokevirtual 175, 3) := by decide +kernel
theorem dX5_does_52 : decode cX5_does 52 = .ok (.ifCond .lt 7, 3) := by decide +kernel
theorem dX5_does_55 : decode cX5_does 55 = .ok (.iconst 1, 1) := by decide +kernel
theorem dX5_does_56 : decode cX5_does 56 = .ok (.goto 4, 3) := by decide +kernel
theorem dX5_does_59 : decode cX5_does 59 = .ok (.iconst 0, 1) := by decide +kernel
theorem dX5_does_60 : decode cX5_does 60 = .ok (.ireturn, 1) := by decide +kernel
theorem dX5_does_61 : decode cX5_does 61 = .ok (.aload_n 0, 1) := by decide +kernel
theorem dX5_does_62 : decode cX5_does 62 = .ok (.aload_n 0, 1) := by decide +kernel
theorem dX5_does_63 : decode cX5_does 63 = .ok (.getfield 26, 3) := by decide +kernel
theorem dX5_does_66 : decode cX5_does 66 = .ok (.iload_n 1, 1) := by decide +kernel
theorem dX5_does_67 : decode cX5_does 67 = .ok (.iconst 1, 1) := by decide +kernel
theorem dX5_does_68 : decode cX5_does 68 = .ok (.iadd, 1) := by decide +kernel
theorem dX5_does_69 : decode cX5_does 69 = .ok (.iaload, 1) := by decide +kernel
theorem dX5_does_70 : decode cX5_does 70 = .ok (.invokevirtual 215, 3) := by decide +kernel
theorem dX5_does_73 : decode cX5_does 73 = .ok (.ifCond .lt 7, 3) := by decide +kernel
theorem dX5_does_76 : decode cX5_does 76 = .ok (.iconst 1, 1) := by decide +kernel
theorem dX5_does_77 : decode cX5_does 77 = .ok (.goto 4, 3) := by decide +kernel
theorem dX5_does_80 : decode cX5_does 80 = .ok (.iconst 0, 1) := by decide +kernel
theorem dX5_does_81 : decode cX5_does 81 = .ok (.ireturn, 1) := by decide +kernel
theorem dX5_does_82 : decode cX5_does 82 = .ok (.aload_n 0, 1) := by decide +kernel
theorem dX5_does_83 : decode cX5_does 83 = .ok (.iload_n 1, 1) := by decide +kernel
theorem dX5_does_84 : decode cX5_does 84 = .ok (.invokevirtual 218, 3) := by decide +kernel
theorem dX5_does_87 : decode cX5_does 87 = .ok (.ireturn, 1) := by decide +kernel
theorem dX5_does_88 : decode cX5_does 88 = .ok (.aload_n 0, 1) := by decide +kernel
theorem dX5_does_89 : decode cX5_does 89 = .ok (.aload_n 0, 1) := by decide +kernel
theorem dX5_does_90 : decode cX5_does 90 = .ok (.getfield 26, 3) := by decide +kernel
theorem dX5_does_93 : decode cX5_does 93 = .ok (.iload_n 1, 1) := by decide +kernel
theorem dX5_does_94 : decode cX5_does 94 = .ok (.iconst 1, 1) := by decide +kernel
theorem dX5_does_95 : decode cX5_does 95 = .ok (.iadd, 1) := by decide +kernel
theorem dX5_does_96 : decode cX5_does 96 = .ok (.iaload, 1) := by decide +kernel
theorem dX5_does_97 : decode cX5_does 97 = .ok (.invokevirtual 221, 3) := by decide +kernel
theorem dX5_does_100 : decode cX5_does 100 = .ok (.ifCond .lt 7, 3) := by decide +kernel
theorem dX5_does_103 : decode cX5_does 103 = .ok (.iconst 1, 1) := by decide +kernel
theorem dX5_does_104 : decode cX5_does 104 = .ok (.goto 4, 3) := by decide +kernel
theorem dX5_does_107 : decode cX5_does 107 = .ok (.iconst 0, 1) := by decide +kernel
theorem dX5_does_108 : decode cX5_does 108 = .ok (.ireturn, 1) := by decide +kernel
theorem dX5_carryOut_0 : decode cX5_carryOut 0 = .ok (.aload_n 0, 1) := by decide +kernel
theorem dX5_carryOut_1 : decode cX5_carryOut 1 = .ok (.invokevirtual 224, 3) := by decide +kernel
theorem dX5_carryOut_4 : decode cX5_carryOut 4 = .ok (.bipush (-6), 2) := by decide +kernel
theorem dX5_carryOut_6 : decode cX5_carryOut 6 = .ok (.if_icmp .eq 6, 3) := by decide +kernel
theorem dX5_carryOut_9 : decode cX5_carryOut 9 = .ok (.bipush (-3), 2) := by decide +kernel
theorem dX5_carryOut_11 : decode cX5_carryOut 11 = .ok (.ireturn, 1) := by decide +kernel
theorem dX5_carryOut_12 : decode cX5_carryOut 12 = .ok (.iconst 0, 1) := by decide +kernel
theorem dX5_carryOut_13 : decode cX5_carryOut 13 = .ok (.istore_n 1, 1) := by decide +kernel
theorem dX5_carryOut_14 : decode cX5_carryOut 14 = .ok (.iload_n 1, 1) := by decide +kernel
theorem dX5_carryOut_15 : decode cX5_carryOut 15 = .ok (.aload_n 0, 1) := by decide +kernel
theorem dX5_carryOut_16 : decode cX5_carryOut 16 = .ok (.getfield 200, 3) := by decide +kernel
theorem dX5_carryOut_19 : decode cX5_carryOut 19 = .ok (.if_icmp .ge 19, 3) := by decide +kernel
theorem dX5_carryOut_22 : decode cX5_carryOut 22 = .ok (.aload_n 0, 1) := by decide +kernel
theorem dX5_carryOut_23 : decode cX5_carryOut 23 = .ok (.iconst 4, 1) := by decide +kernel
theorem dX5_carryOut_24 : decode cX5_carryOut 24 = .ok (.iload_n 1, 1) := by decide +kernel
theorem dX5_carryOut_25 : decode cX5_carryOut 25 = .ok (.imul, 1) := by decide +kernel
theorem dX5_carryOut_26 : decode cX5_carryOut 26 = .ok (.invokevirtual 227, 3) := by decide +kernel
theorem dX5_carryOut_29 : decode cX5_carryOut 29 = .ok (.ifCond .eq 9, 3) := by decide +kernel
theorem dX5_carryOut_32 : decode cX5_carryOut 32 = .ok (.iinc 1 1, 3) := by decide +kernel
theorem dX5_carryOut_35 : decode cX5_carryOut 35 = .ok (.goto (-21), 3) := by decide +kernel
theorem dX5_carryOut_38 : decode cX5_carryOut 38 = .ok (.aload_n 0, 1) := by decide +kernel
theorem dX5_carryOut_39 : decode cX5_carryOut 39 = .ok (.iconst 0, 1) := by decide +kernel
theorem dX5_carryOut_40 : decode cX5_carryOut 40 = .ok (.putfield 165, 3) := by decide +kernel
theorem dX5_carryOut_43 : decode cX5_carryOut 43 = .ok (.iload_n 1, 1) := by decide +kernel
theorem dX5_carryOut_44 : decode cX5_carryOut 44 = .ok (.ireturn, 1) := by decide +kernel
theorem dX5_save_0 : decode cX5_save 0 = .ok (.iload_n 1, 1) := by decide +kernel
theorem dX5_save_1 : decode cX5_save 1 = .ok (.iconst 0, 1) := by decide +kernel
theorem dX5_save_2 : decode cX5_save 2 = .ok (.iconst 1, 1) := by decide +kernel
theorem dX5_save_3 : decode cX5_save 3 = .ok (.invokestatic 33, 3) := by decide +kernel
theorem dX5_save_6 : decode cX5_save 6 = .ok (.ifCond .ne 6, 3) := by decide +kernel
theorem dX5_save_9 : decode cX5_save 9 = .ok (.bipush (-2), 2) := by decide +kernel
theorem dX5_save_11 : decode cX5_save 11 = .ok (.ireturn, 1) := by decide +kernel
theorem dX5_save_12 : decode cX5_save 12 = .ok (.iconst 0, 1) := by decide +kernel
theorem dX5_save_13 : decode cX5_save 13 = .ok (.istore_n 2, 1) := by decide +kernel
theorem dX5_save_14 : decode cX5_save 14 = .ok (.iload_n 2, 1) := by decide +kernel
theorem dX5_save_15 : decode cX5_save 15 = .ok (.sipush 233, 3) := by decide +kernel
theorem dX5_save_18 : decode cX5_save 18 = .ok (.if_icmp .ge 27, 3) := by decide +kernel
theorem dX5_save_21 : decode cX5_save 21 = .ok (.aload_n 0, 1) := by decide +kernel
theorem dX5_save_22 : decode cX5_save 22 = .ok (.getfield 16, 3) := by decide +kernel
theorem dX5_save_25 : decode cX5_save 25 = .ok (.sipush 233, 3) := by decide +kernel
theorem dX5_save_28 : decode cX5_save 28 = .ok (.iload_n 1, 1) := by decide +kernel
theorem dX5_save_29 : decode cX5_save 29 = .ok (.imul, 1) := by decide +kernel
theorem dX5_save_30 : decode cX5_save 30 = .ok (.iload_n 2, 1) := by decide +kernel
theorem dX5_save_31 : decode cX5_save 31 = .ok (.iadd, 1) := by decide +kernel
theorem dX5_save_32 : decode cX5_save 32 = .ok (.aload_n 0, 1) := by decide +kernel
theorem dX5_save_33 : decode cX5_save 33 = .ok (.getfield 7, 3) := by decide +kernel
theorem dX5_save_36 : decode cX5_save 36 = .ok (.iload_n 2, 1) := by decide +kernel
theorem dX5_save_37 : decode cX5_save 37 = .ok (.iaload, 1) := by decide +kernel
theorem dX5_save_38 : decode cX5_save 38 = .ok (.iastore, 1) := by decide +kernel
theorem dX5_save_39 : decode cX5_save 39 = .ok (.iinc 2 1, 3) := by decide +kernel
theorem dX5_save_42 : decode cX5_save 42 = .ok (.goto (-28), 3) := by decide +kernel
theorem dX5_save_45 : decode cX5_save 45 = .ok (.aload_n 0, 1) := by decide +kernel
theorem dX5_save_46 : decode cX5_save 46 = .ok (.getfield 19, 3) := by decide +kernel
theorem dX5_save_49 : decode cX5_save 49 = .ok (.iload_n 1, 1) := by decide +kernel
theorem dX5_save_50 : decode cX5_save 50 = .ok (.iconst 1, 1) := by decide +kernel
theorem dX5_save_51 : decode cX5_save 51 = .ok (.bastore, 1) := by decide +kernel
theorem dX5_save_52 : decode cX5_save 52 = .ok (.aload_n 0, 1) := by decide +kernel
theorem dX5_save_53 : decode cX5_save 53 = .ok (.getfield 7, 3) := by decide +kernel
theorem dX5_save_56 : decode cX5_save 56 = .ok (.iconst 0, 1) := by decide +kernel
theorem dX5_save_57 : decode cX5_save 57 = .ok (.iaload, 1) := by decide +kernel
theorem dX5_save_58 : decode cX5_save 58 = .ok (.ireturn, 1) := by decide +kernel
theorem dX5_restore_0 : decode cX5_restore 0 = .ok (.iload_n 1, 1) := by decide +kernel
theorem dX5_restore_1 : decode cX5_restore 1 = .ok (.iconst 0, 1) := by decide +kernel
theorem dX5_restore_2 : decode cX5_restore 2 = .ok (.iconst 1, 1) := by decide +kernel
theorem dX5_restore_3 : decode cX5_restore 3 = .ok (.invokestatic 33, 3) := by decide +kernel
theorem dX5_restore_6 : decode cX5_restore 6 = .ok (.ifCond .ne 6, 3) := by decide +kernel
theorem dX5_restore_9 : decode cX5_restore 9 = .ok (.bipush (-2), 2) := by decide +kernel
theorem dX5_restore_11 : decode cX5_restore 11 = .ok (.ireturn, 1) := by decide +kernel
theorem dX5_restore_12 : decode cX5_restore 12 = .ok (.aload_n 0, 1) := by decide +kernel
theorem dX5_restore_13 : decode cX5_restore 13 = .ok (.getfield 19, 3) := by decide +kernel
theorem dX5_restore_16 : decode cX5_restore 16 = .ok (.iload_n 1, 1) := by decide +kernel
theorem dX5_restore_17 : decode cX5_restore 17 = .ok (.baload, 1) := by decide +kernel
theorem dX5_restore_18 : decode cX5_restore 18 = .ok (.ifCond .ne 6, 3) := by decide +kernel
theorem dX5_restore_21 : decode cX5_restore 21 = .ok (.bipush (-5), 2) := by decide +kernel
theorem dX5_restore_23 : decode cX5_restore 23 = .ok (.ireturn, 1) := by decide +kernel
theorem dX5_restore_24 : decode cX5_restore 24 = .ok (.iconst 0, 1) := by decide +kernel
theorem dX5_restore_25 : decode cX5_restore 25 = .ok (.istore_n 2, 1) := by decide +kernel
theorem dX5_restore_26 : decode cX5_restore 26 = .ok (.iload_n 2, 1) := by decide +kernel
theorem dX5_restore_27 : decode cX5_restore 27 = .ok (.sipush 233, 3) := by decide +kernel
theorem dX5_restore_30 : decode cX5_restore 30 = .ok (.if_icmp .ge 27, 3) := by decide +kernel
theorem dX5_restore_33 : decode cX5_restore 33 = .ok (.aload_n 0, 1) := by decide +kernel
theorem dX5_restore_34 : decode cX5_restore 34 = .ok (.getfield 7, 3) := by decide +kernel
theorem dX5_restore_37 : decode cX5_restore 37 = .ok (.iload_n 2, 1) := by decide +kernel
theorem dX5_restore_38 : decode cX5_restore 38 = .ok (.aload_n 0, 1) := by decide +kernel
theorem dX5_restore_39 : decode cX5_restore 39 = .ok (.getfield 16, 3) := by decide +kernel
theorem dX5_restore_42 : decode cX5_restore 42 = .ok (.sipush 233, 3) := by decide +kernel
theorem dX5_restore_45 : decode cX5_restore 45 = .ok (.iload_n 1, 1) := by decide +kernel
theorem dX5_restore_46 : decode cX5_restore 46 = .ok (.imul, 1) := by decide +kernel
theorem dX5_restore_47 : decode cX5_restore 47 = .ok (.iload_n 2, 1) := by decide +kernel
theorem dX5_restore_48 : decode cX5_restore 48 = .ok (.iadd, 1) := by decide +kernel
theorem dX5_restore_49 : decode cX5_restore 49 = .ok (.iaload, 1) := by decide +kernel
theorem dX5_restore_50 : decode cX5_restore 50 = .ok (.iastore, 1) := by decide +kernel
theorem dX5_restore_51 : decode cX5_restore 51 = .ok (.iinc 2 1, 3) := by decide +kernel
theorem dX5_restore_54 : decode cX5_restore 54 = .ok (.goto (-28), 3) := by decide +kernel
theorem dX5_restore_57 : decode cX5_restore 57 = .ok (.aload_n 0, 1) := by decide +kernel
theorem dX5_restore_58 : decode cX5_restore 58 = .ok (.getfield 7, 3) := by decide +kernel
theorem dX5_restore_61 : decode cX5_restore 61 = .ok (.iconst 0, 1) := by decide +kernel
theorem dX5_restore_62 : decode cX5_restore 62 = .ok (.iaload, 1) := by decide +kernel
theorem dX5_restore_63 : decode cX5_restore 63 = .ok (.ireturn, 1) := by decide +kernel
theorem dL_law_0 : decode code 0 = .ok (.new 7, 3) := by decide +kernel
theorem dL_law_3 : decode code 3 = .ok (.dup, 1) := by decide +kernel
theorem dL_law_4 : decode code 4 = .ok (.invokespecial 9, 3) := by decide +kernel
theorem dL_law_7 : decode code 7 = .ok (.astore_n 1, 1) := by decide +kernel
theorem dL_law_8 : decode code 8 = .ok (.new 10, 3) := by decide +kernel
theorem dL_law_11 : decode code 11 = .ok (.dup, 1) := by decide +kernel
theorem dL_law_12 : decode code 12 = .ok (.invokespecial 12, 3) := by decide +kernel
theorem dL_law_15 : decode code 15 = .ok (.astore_n 2, 1) := by decide +kernel
theorem dL_law_16 : decode code 16 = .ok (.iconst 0, 1) := by decide +kernel
theorem dL_law_17 : decode code 17 = .ok (.istore_n 3, 1) := by decide +kernel
theorem dL_law_18 : decode code 18 = .ok (.iload_n 3, 1) := by decide +kernel
theorem dL_law_19 : decode code 19 = .ok (.aload_n 0, 1) := by decide +kernel
theorem dL_law_20 : decode code 20 = .ok (.arraylength, 1) := by decide +kernel
theorem dL_law_21 : decode code 21 = .ok (.iconst 4, 1) := by decide +kernel
theorem dL_law_22 : decode code 22 = .ok (.isub, 1) := by decide +kernel
theorem dL_law_23 : decode code 23 = .ok (.if_icmp .gt 654, 3) := by decide +kernel
theorem dL_law_26 : decode code 26 = .ok (.aload_n 0, 1) := by decide +kernel
theorem dL_law_27 : decode code 27 = .ok (.iload_n 3, 1) := by decide +kernel
theorem dL_law_28 : decode code 28 = .ok (.iaload, 1) := by decide +kernel
theorem dL_law_29 : decode code 29 = .ok (.bipush 31, 2) := by decide +kernel
theorem dL_law_31 : decode code 31 = .ok (.iand, 1) := by decide +kernel
theorem dL_law_32 : decode code 32 = .ok (.tableswitch 639 0 18 #[92, 125, 158, 181, 204, 237, 260, 293, 326, 359, 382, 415, 458, 501, 554, 567, 580, 593, 616], 92) := by decide +kernel
theorem dL_law_124 : decode code 124 = .ok (.aload_n 1, 1) := by decide +kernel
theorem dL_law_125 : decode code 125 = .ok (.aload_n 0, 1) := by decide +kernel
theorem dL_law_126 : decode code 126 = .ok (.iload_n 3, 1) := by decide +kernel
theorem dL_law_127 : decode code 127 = .ok (.iconst 1, 1) := by decide +kernel
theorem dL_law_128 : decode code 128 = .ok (.iadd, 1) := by decide +kernel
theorem dL_law_129 : decode code 129 = .ok (.iaload, 1) := by decide +kernel
theorem dL_law_130 : decode code 130 = .ok (.aload_n 0, 1) := by decide +kernel
theorem dL_law_131 : decode code 131 = .ok (.iload_n 3, 1) := by decide +kernel
theorem dL_law_132 : decode code 132 = .ok (.iconst 2, 1) := by decide +kernel
theorem dL_law_133 : decode code 133 = .ok (.iadd, 1) := by decide +kernel
theorem dL_law_134 : decode code 134 = .ok (.iaload, 1) := by decide +kernel
theorem dL_law_135 : decode code 135 = .ok (.invokevirtual 13, 3) := by decide +kernel
theorem dL_law_138 : decode code 138 = .ok (.aload_n 2, 1) := by decide +kernel
theorem dL_law_139 : decode code 139 = .ok (.aload_n 0, 1) := by decide +kernel
theorem dL_law_140 : decode code 140 = .ok (.iload_n 3, 1) := by decide +kernel
theorem dL_law_141 : decode code 141 = .ok (.iconst 1, 1) := by decide +kernel
theorem dL_law_142 : decode code 142 = .ok (.iadd, 1) := by decide +kernel
theorem dL_law_143 : decode code 143 = .ok (.iaload, 1) := by decide +kernel
theorem dL_law_144 : decode code 144 = .ok (.aload_n 0, 1) := by decide +kernel
theorem dL_law_145 : decode code 145 = .ok (.iload_n 3, 1) := by decide +kernel
theorem dL_law_146 : decode code 146 = .ok (.iconst 2, 1) := by decide +kernel
theorem dL_law_147 : decode code 147 = .ok (.iadd, 1) := by decide +kernel
theorem dL_law_148 : decode code 148 = .ok (.iaload, 1) := by decide +kernel
theorem dL_law_149 : decode code 149 = .ok (.invokevirtual 17, 3) := by decide +kernel
theorem dL_law_152 : decode code 152 = .ok (.if_icmp .eq 519, 3) := by decide +kernel
theorem dL_law_155 : decode code 155 = .ok (.iconst 0, 1) := by decide +kernel
theorem dL_law_156 : decode code 156 = .ok (.ireturn, 1) := by decide +kernel
theorem dL_law_157 : decode code 157 = .ok (.aload_n 1, 1) := by decide +kernel
theorem dL_law_158 : decode code 158 = .ok (.aload_n 0, 1) := by decide +kernel
theorem dL_law_159 : decode code 159 = .ok (.iload_n 3, 1) := by decide +kernel
theorem dL_law_160 : decode code 160 = .ok (.iconst 1, 1) := by decide +kernel
theorem dL_law_161 : decode code 161 = .ok (.iadd, 1) := by decide +kernel
theorem dL_law_162 : decode code 162 = .ok (.iaload, 1) := by decide +kernel
theorem dL_law_163 : decode code 163 = .ok (.aload_n 0, 1) := by decide +kernel
theorem dL_law_164 : decode code 164 = .ok (.iload_n 3, 1) := by decide +kernel
theorem dL_law_165 : decode code 165 = .ok (.iconst 2, 1) := by decide +kernel
theorem dL_law_166 : decode code 166 = .ok (.iadd, 1) := by decide +kernel
theorem dL_law_167 : decode code 167 = .ok (.iaload, 1) := by decide +kernel
theorem dL_law_168 : decode code 168 = .ok (.invokevirtual 18, 3) := by decide +kernel
theorem dL_law_171 : decode code 171 = .ok (.aload_n 2, 1) := by decide +kernel
theorem dL_law_172 : decode code 172 = .ok (.aload_n 0, 1) := by decide +kernel
theorem dL_law_173 : decode code 173 = .ok (.iload_n 3, 1) := by decide +kernel
theorem dL_law_174 : decode code 174 = .ok (.iconst 1, 1) := by decide +kernel
theorem dL_law_175 : decode code 175 = .ok (.iadd, 1) := by decide +kernel
theorem dL_law_176 : decode code 176 = .ok (.iaload, 1) := by decide +kernel
theorem dL_law_177 : decode code 177 = .ok (.aload_n 0, 1) := by decide +kernel
theorem dL_law_178 : decode code 178 = .ok (.iload_n 3, 1) := by decide +kernel
theorem dL_law_179 : decode code 179 = .ok (.iconst 2, 1) := by decide +kernel
theorem dL_law_180 : decode code 180 = .ok (.iadd, 1) := by decide +kernel
theorem dL_law_181 : decode code 181 = .ok (.iaload, 1) := by decide +kernel
theorem dL_law_182 : decode code 182 = .ok (.invokevirtual 21, 3) := by decide +kernel
theorem dL_law_185 : decode code 185 = .ok (.if_icmp .eq 486, 3) := by decide +kernel
theorem dL_law_188 : decode code 188 = .ok (.iconst 0, 1) := by decide +kernel
theorem dL_law_189 : decode code 189 = .ok (.ireturn, 1) := by decide +kernel
theorem dL_law_190 : decode code 190 = .ok (.aload_n 1, 1) := by decide +kernel
theorem dL_law_191 : decode code 191 = .ok (.aload_n 0, 1) := by decide +kernel
theorem dL_law_192 : decode code 192 = .ok (.iload_n 3, 1) := by decide +kernel
theorem dL_law_193 : decode code 193 = .ok (.iconst 1, 1) := by decide +kernel
theorem dL_law_194 : decode code 194 = .ok (.iadd, 1) := by decide +kernel
theorem dL_law_195 : decode code 195 = .ok (.iaload, 1) := by decide +kernel
theorem dL_law_196 : decode code 196 = .ok (.invokevirtual 22, 3) := by decide +kernel
theorem dL_law_199 : decode code 199 = .ok (.aload_n 2, 1) := by decide +kernel
theorem dL_law_200 : decode code 200 = .ok (.aload_n 0, 1) := by decide +kernel
theorem dL_law_201 : decode code 201 = .ok (.iload_n 3, 1) := by decide +kernel
theorem dL_law_202 : decode code 202 = .ok (.iconst 1, 1) := by decide +kernel
theorem dL_law_203 : decode code 203 = .ok (.iadd, 1) := by decide +kernel
theorem dL_law_204 : decode code 204 = .ok (.iaload, 1) := by decide +kernel
theorem dL_law_205 : decode code 205 = .ok (.invokevirtual 26, 3) := by decide +kernel
theorem dL_law_208 : decode code 208 = .ok (.if_icmp .eq 463, 3) := by decide +kernel
theorem dL_law_211 : decode code 211 = .ok (.iconst 0, 1) := by decide +kernel
theorem dL_law_212 : decode code 212 = .ok (.ireturn, 1) := by decide +kernel
theorem dL_law_213 : decode code 213 = .ok (.aload_n 1, 1) := by decide +kernel
theorem dL_law_214 : decode code 214 = .ok (.aload_n 0, 1) := by decide +kernel
theorem dL_law_215 : decode code 215 = .ok (.iload_n 3, 1) := by decide +kernel
theorem dL_law_216 : decode code 216 = .ok (.iconst 1, 1) := by decide +kernel
theorem dL_law_217 : decode code 217 = .ok (.iadd, 1) := by decide +kernel
theorem dL_law_218 : decode code 218 = .ok (.iaload, 1) := by decide +kernel
theorem dL_law_219 : decode code 219 = .ok (.invokevirtual 27, 3) := by decide +kernel
theorem dL_law_222 : decode code 222 = .ok (.aload_n 2, 1) := by decide +kernel
theorem dL_law_223 : decode code 223 = .ok (.aload_n 0, 1) := by decide +kernel
theorem dL_law_224 : decode code 224 = .ok (.iload_n 3, 1) := by decide +kernel
theorem dL_law_225 : decode code 225 = .ok (.iconst 1, 1) := by decide +kernel
theorem dL_law_226 : decode code 226 = .ok (.iadd, 1) := by decide +kernel
theorem dL_law_227 : decode code 227 = .ok (.iaload, 1) := by decide +kernel
theorem dL_law_228 : decode code 228 = .ok (.invokevirtual 30, 3) := by decide +kernel
theorem dL_law_231 : decode code 231 = .ok (.if_icmp .eq 440, 3) := by decide +kernel
theorem dL_law_234 : decode code 234 = .ok (.iconst 0, 1) := by decide +kernel
theorem dL_law_235 : decode code 235 = .ok (.ireturn, 1) := by decide +kernel
theorem dL_law_236 : decode code 236 = .ok (.aload_n 1, 1) := by decide +kernel
theorem dL_law_237 : decode code 237 = .ok (.aload_n 0, 1) := by decide +kernel
theorem dL_law_238 : decode code 238 = .ok (.iload_n 3, 1) := by decide +kernel
theorem dL_law_239 : decode code 239 = .ok (.iconst 1, 1) := by decide +kernel
theorem dL_law_240 : decode code 240 = .ok (.iadd, 1) := by decide +kernel
theorem dL_law_241 : decode code 241 = .ok (.iaload, 1) := by decide +kernel
theorem dL_law_242 : decode code 242 = .ok (.aload_n 0, 1) := by decide +kernel
theorem dL_law_243 : decode code 243 = .ok (.iload_n 3, 1) := by decide +kernel
theorem dL_law_244 : decode code 244 = .ok (.iconst 2, 1) := by decide +kernel
theorem dL_law_245 : decode code 245 = .ok (.iadd, 1) := by decide +kernel
theorem dL_law_246 : decode code 246 = .ok (.iaload, 1) := by decide +kernel
theorem dL_law_247 : decode code 247 = .ok (.invokevirtual 31, 3) := by decide +kernel
theorem dL_law_250 : decode code 250 = .ok (.aload_n 2, 1) := by decide +kernel
theorem dL_law_251 : decode code 251 = .ok (.aload_n 0, 1) := by decide +kernel
theorem dL_law_252 : decode code 252 = .ok (.iload_n 3, 1) := by decide +kernel
theorem dL_law_253 : decode code 253 = .ok (.iconst 1, 1) := by decide +kernel
theorem dL_law_254 : decode code 254 = .ok (.iadd, 1) := by decide +kernel
theorem dL_law_255 : decode code 255 = .ok (.iaload, 1) := by decide +kernel
theorem dL_law_256 : decode code 256 = .ok (.aload_n 0, 1) := by decide +kernel
theorem dL_law_257 : decode code 257 = .ok (.iload_n 3, 1) := by decide +kernel
theorem dL_law_258 : decode code 258 = .ok (.iconst 2, 1) := by decide +kernel
theorem dL_law_259 : decode code 259 = .ok (.iadd, 1) := by decide +kernel
theorem dL_law_260 : decode code 260 = .ok (.iaload, 1) := by decide +kernel
theorem dL_law_261 : decode code 261 = .ok (.invokevirtual 34, 3) := by decide +kernel
theorem dL_law_264 : decode code 264 = .ok (.if_icmp .eq 407, 3) := by decide +kernel
theorem dL_law_267 : decode code 267 = .ok (.iconst 0, 1) := by decide +kernel
theorem dL_law_268 : decode code 268 = .ok (.ireturn, 1) := by decide +kernel
theorem dL_law_269 : decode code 269 = .ok (.aload_n 1, 1) := by decide +kernel
theorem dL_law_270 : decode code 270 = .ok (.aload_n 0, 1) := by decide +kernel
theorem dL_law_271 : decode code 271 = .ok (.iload_n 3, 1) := by decide +kernel
theorem dL_law_272 : decode code 272 = .ok (.iconst 1, 1) := by decide +kernel
theorem dL_law_273 : decode code 273 = .ok (.iadd, 1) := by decide +kernel
theorem dL_law_274 : decode code 274 = .ok (.iaload, 1) := by decide +kernel
theorem dL_law_275 : decode code 275 = .ok (.invokevirtual 35, 3) := by decide +kernel
theorem dL_law_278 : decode code 278 = .ok (.aload_n 2, 1) := by decide +kernel
theorem dL_law_279 : decode code 279 = .ok (.aload_n 0, 1) := by decide +kernel
theorem dL_law_280 : decode code 280 = .ok (.iload_n 3, 1) := by decide +kernel
theorem dL_law_281 : decode code 281 = .ok (.iconst 1, 1) := by decide +kernel
theorem dL_law_282 : decode code 282 = .ok (.iadd, 1) := by decide +kernel
theorem dL_law_283 : decode code 283 = .ok (.iaload, 1) := by decide +kernel
theorem dL_law_284 : decode code 284 = .ok (.invokevirtual 38, 3) := by decide +kernel
theorem dL_law_287 : decode code 287 = .ok (.if_icmp .eq 384, 3) := by decide +kernel
theorem dL_law_290 : decode code 290 = .ok (.iconst 0, 1) := by decide +kernel
theorem dL_law_291 : decode code 291 = .ok (.ireturn, 1) := by decide +kernel
theorem dL_law_292 : decode code 292 = .ok (.aload_n 1, 1) := by decide +kernel
theorem dL_law_293 : decode code 293 = .ok (.aload_n 0, 1) := by decide +kernel
theorem dL_law_294 : decode code 294 = .ok (.iload_n 3, 1) := by decide +kernel
theorem dL_law_295 : decode code 295 = .ok (.iconst 1, 1) := by decide +kernel
theorem dL_law_296 : decode code 296 = .ok (.iadd, 1) := by decide +kernel
theorem dL_law_297 : decode code 297 = .ok (.iaload, 1) := by decide +kernel
theorem dL_law_298 : decode code 298 = .ok (.aload_n 0, 1) := by decide +kernel
theorem dL_law_299 : decode code 299 = .ok (.iload_n 3, 1) := by decide +kernel
theorem dL_law_300 : decode code 300 = .ok (.iconst 2, 1) := by decide +kernel
theorem dL_law_301 : decode code 301 = .ok (.iadd, 1) := by decide +kernel
theorem dL_law_302 : decode code 302 = .ok (.iaload, 1) := by decide +kernel
theorem dL_law_303 : decode code 303 = .ok (.invokevirtual 39, 3) := by decide +kernel
theorem dL_law_306 : decode code 306 = .ok (.aload_n 2, 1) := by decide +kernel
theorem dL_law_307 : decode code 307 = .ok (.aload_n 0, 1) := by decide +kernel
theorem dL_law_308 : decode code 308 = .ok (.iload_n 3, 1) := by decide +kernel
theorem dL_law_309 : decode code 309 = .ok (.iconst 1, 1) := by decide +kernel
theorem dL_law_310 : decode code 310 = .ok (.iadd, 1) := by decide +kernel
theorem dL_law_311 : decode code 311 = .ok (.iaload, 1) := by decide +kernel
theorem dL_law_312 : decode code 312 = .ok (.aload_n 0, 1) := by decide +kernel
theorem dL_law_313 : decode code 313 = .ok (.iload_n 3, 1) := by decide +kernel
theorem dL_law_314 : decode code 314 = .ok (.iconst 2, 1) := by decide +kernel
theorem dL_law_315 : decode code 315 = .ok (.iadd, 1) := by decide +kernel
theorem dL_law_316 : decode code 316 = .ok (.iaload, 1) := by decide +kernel
theorem dL_law_317 : decode code 317 = .ok (.invokevirtual 42, 3) := by decide +kernel
theorem dL_law_320 : decode code 320 = .ok (.if_icmp .eq 351, 3) := by decide +kernel
theorem dL_law_323 : decode code 323 = .ok (.iconst 0, 1) := by decide +kernel
theorem dL_law_324 : decode code 324 = .ok (.ireturn, 1) := by decide +kernel
theorem dL_law_325 : decode code 325 = .ok (.aload_n 1, 1) := by decide +kernel
theorem dL_law_326 : decode code 326 = .ok (.aload_n 0, 1) := by decide +kernel
theorem dL_law_327 : decode code 327 = .ok (.iload_n 3, 1) := by decide +kernel
theorem dL_law_328 : decode code 328 = .ok (.iconst 1, 1) := by decide +kernel
theorem dL_law_329 : decode code 329 = .ok (.iadd, 1) := by decide +kernel
theorem dL_law_330 : decode code 330 = .ok (.iaload, 1) := by decide +kernel
theorem dL_law_331 : decode code 331 = .ok (.aload_n 0, 1) := by decide +kernel
theorem dL_law_332 : decode code 332 = .ok (.iload_n 3, 1) := by decide +kernel
theorem dL_law_333 : decode code 333 = .ok (.iconst 2, 1) := by decide +kernel
theorem dL_law_334 : decode code 334 = .ok (.iadd, 1) := by decide +kernel
theorem dL_law_335 : decode code 335 = .ok (.iaload, 1) := by decide +kernel
theorem dL_law_336 : decode code 336 = .ok (.invokevirtual 43, 3) := by decide +kernel
theorem dL_law_339 : decode code 339 = .ok (.aload_n 2, 1) := by decide +kernel
theorem dL_law_340 : decode code 340 = .ok (.aload_n 0, 1) := by decide +kernel
theorem dL_law_341 : decode code 341 = .ok (.iload_n 3, 1) := by decide +kernel
theorem dL_law_342 : decode code 342 = .ok (.iconst 1, 1) := by decide +kernel
theorem dL_law_343 : decode code 343 = .ok (.iadd, 1) := by decide +kernel
theorem dL_law_344 : decode code 344 = .ok (.iaload, 1) := by decide +kernel
theorem dL_law_345 : decode code 345 = .ok (.aload_n 0, 1) := by decide +kernel
theorem dL_law_346 : decode code 346 = .ok (.iload_n 3, 1) := by decide +kernel
theorem dL_law_347 : decode code 347 = .ok (.iconst 2, 1) := by decide +kernel
theorem dL_law_348 : decode code 348 = .ok (.iadd, 1) := by decide +kernel
theorem dL_law_349 : decode code 349 = .ok (.iaload, 1) := by decide +kernel
theorem dL_law_350 : decode code 350 = .ok (.invokevirtual 46, 3) := by decide +kernel
theorem dL_law_353 : decode code 353 = .ok (.if_icmp .eq 318, 3) := by decide +kernel
theorem dL_law_356 : decode code 356 = .ok (.iconst 0, 1) := by decide +kernel
theorem dL_law_357 : decode code 357 = .ok (.ireturn, 1) := by decide +kernel
theorem dL_law_358 : decode code 358 = .ok (.aload_n 1, 1) := by decide +kernel
theorem dL_law_359 : decode code 359 = .ok (.aload_n 0, 1) := by decide +kernel
theorem dL_law_360 : decode code 360 = .ok (.iload_n 3, 1) := by decide +kernel
theorem dL_law_361 : decode code 361 = .ok (.iconst 1, 1) := by decide +kernel
theorem dL_law_362 : decode code 362 = .ok (.iadd, 1) := by decide +kernel
theorem dL_law_363 : decode code 363 = .ok (.iaload, 1) := by decide +kernel
theorem dL_law_364 : decode code 364 = .ok (.aload_n 0, 1) := by decide +kernel
theorem dL_law_365 : decode code 365 = .ok (.iload_n 3, 1) := by decide +kernel
theorem dL_law_366 : decode code 366 = .ok (.iconst 2, 1) := by decide +kernel
theorem dL_law_367 : decode code 367 = .ok (.iadd, 1) := by decide +kernel
theorem dL_law_368 : decode code 368 = .ok (.iaload, 1) := by decide +kernel
theorem dL_law_369 : decode code 369 = .ok (.invokevirtual 47, 3) := by decide +kernel
theorem dL_law_372 : decode code 372 = .ok (.aload_n 2, 1) := by decide +kernel
theorem dL_law_373 : decode code 373 = .ok (.aload_n 0, 1) := by decide +kernel
theorem dL_law_374 : decode code 374 = .ok (.iload_n 3, 1) := by decide +kernel
theorem dL_law_375 : decode code 375 = .ok (.iconst 1, 1) := by decide +kernel
theorem dL_law_376 : decode code 376 = .ok (.iadd, 1) := by decide +kernel
theorem dL_law_377 : decode code 377 = .ok (.iaload, 1) := by decide +kernel
theorem dL_law_378 : decode code 378 = .ok (.aload_n 0, 1) := by decide +kernel
theorem dL_law_379 : decode code 379 = .ok (.iload_n 3, 1) := by decide +kernel
theorem dL_law_380 : decode code 380 = .ok (.iconst 2, 1) := by decide +kernel
theorem dL_law_381 : decode code 381 = .ok (.iadd, 1) := by decide +kernel
theorem dL_law_382 : decode code 382 = .ok (.iaload, 1) := by decide +kernel
theorem dL_law_383 : decode code 383 = .ok (.invokevirtual 50, 3) := by decide +kernel
theorem dL_law_386 : decode code 386 = .ok (.if_icmp .eq 285, 3) := by decide +kernel
theorem dL_law_389 : decode code 389 = .ok (.iconst 0, 1) := by decide +kernel
theorem dL_law_390 : decode code 390 = .ok (.ireturn, 1) := by decide +kernel
theorem dL_law_391 : decode code 391 = .ok (.aload_n 1, 1) := by decide +kernel
theorem dL_law_392 : decode code 392 = .ok (.aload_n 0, 1) := by decide +kernel
theorem dL_law_393 : decode code 393 = .ok (.iload_n 3, 1) := by decide +kernel
theorem dL_law_394 : decode code 394 = .ok (.iconst 1, 1) := by decide +kernel
theorem dL_law_395 : decode code 395 = .ok (.iadd, 1) := by decide +kernel
theorem dL_law_396 : decode code 396 = .ok (.iaload, 1) := by decide +kernel
theorem dL_law_397 : decode code 397 = .ok (.invokevirtual 51, 3) := by decide +kernel
theorem dL_law_400 : decode code 400 = .ok (.aload_n 2, 1) := by decide +kernel
theorem dL_law_401 : decode code 401 = .ok (.aload_n 0, 1) := by decide +kernel
theorem dL_law_402 : decode code 402 = .ok (.iload_n 3, 1) := by decide +kernel
theorem dL_law_403 : decode code 403 = .ok (.iconst 1, 1) := by decide +kernel
theorem dL_law_404 : decode code 404 = .ok (.iadd, 1) := by decide +kernel
theorem dL_law_405 : decode code 405 = .ok (.iaload, 1) := by decide +kernel
theorem dL_law_406 : decode code 406 = .ok (.invokevirtual 54, 3) := by decide +kernel
theorem dL_law_409 : decode code 409 = .ok (.if_icmp .eq 262, 3) := by decide +kernel
theorem dL_law_412 : decode code 412 = .ok (.iconst 0, 1) := by decide +kernel
theorem dL_law_413 : decode code 413 = .ok (.ireturn, 1) := by decide +kernel
theorem dL_law_414 : decode code 414 = .ok (.aload_n 1, 1) := by decide +kernel
theorem dL_law_415 : decode code 415 = .ok (.aload_n 0, 1) := by decide +kernel
theorem dL_law_416 : decode code 416 = .ok (.iload_n 3, 1) := by decide +kernel
theorem dL_law_417 : decode code 417 = .ok (.iconst 1, 1) := by decide +kernel
theorem dL_law_418 : decode code 418 = .ok (.iadd, 1) := by decide +kernel
theorem dL_law_419 : decode code 419 = .ok (.iaload, 1) := by decide +kernel
theorem dL_law_420 : decode code 420 = .ok (.aload_n 0, 1) := by decide +kernel
theorem dL_law_421 : decode code 421 = .ok (.iload_n 3, 1) := by decide +kernel
theorem dL_law_422 : decode code 422 = .ok (.iconst 2, 1) := by decide +kernel
theorem dL_law_423 : decode code 423 = .ok (.iadd, 1) := by decide +kernel
theorem dL_law_424 : decode code 424 = .ok (.iaload, 1) := by decide +kernel
theorem dL_law_425 : decode code 425 = .ok (.invokevirtual 55, 3) := by decide +kernel
theorem dL_law_428 : decode code 428 = .ok (.aload_n 2, 1) := by decide +kernel
theorem dL_law_429 : decode code 429 = .ok (.aload_n 0, 1) := by decide +kernel
theorem dL_law_430 : decode code 430 = .ok (.iload_n 3, 1) := by decide +kernel
theorem dL_law_431 : decode code 431 = .ok (.iconst 1, 1) := by decide +kernel
theorem dL_law_432 : decode code 432 = .ok (.iadd, 1) := by decide +kernel
theorem dL_law_433 : decode code 433 = .ok (.iaload, 1) := by decide +kernel
theorem dL_law_434 : decode code 434 = .ok (.aload_n 0, 1) := by decide +kernel
theorem dL_law_435 : decode code 435 = .ok (.iload_n 3, 1) := by decide +kernel
theorem dL_law_436 : decode code 436 = .ok (.iconst 2, 1) := by decide +kernel
theorem dL_law_437 : decode code 437 = .ok (.iadd, 1) := by decide +kernel
theorem dL_law_438 : decode code 438 = .ok (.iaload, 1) := by decide +kernel
theorem dL_law_439 : decode code 439 = .ok (.invokevirtual 58, 3) := by decide +kernel
theorem dL_law_442 : decode code 442 = .ok (.if_icmp .eq 229, 3) := by decide +kernel
theorem dL_law_445 : decode code 445 = .ok (.iconst 0, 1) := by decide +kernel
theorem dL_law_446 : decode code 446 = .ok (.ireturn, 1) := by decide +kernel
theorem dL_law_447 : decode code 447 = .ok (.aload_n 1, 1) := by decide +kernel
theorem dL_law_448 : decode code 448 = .ok (.aload_n 0, 1) := by decide +kernel
theorem dL_law_449 : decode code 449 = .ok (.iload_n 3, 1) := by decide +kernel
theorem dL_law_450 : decode code 450 = .ok (.iconst 1, 1) := by decide +kernel
theorem dL_law_451 : decode code 451 = .ok (.iadd, 1) := by decide +kernel
theorem dL_law_452 : decode code 452 = .ok (.iaload, 1) := by decide +kernel
theorem dL_law_453 : decode code 453 = .ok (.aload_n 0, 1) := by decide +kernel
theorem dL_law_454 : decode code 454 = .ok (.iload_n 3, 1) := by decide +kernel
theorem dL_law_455 : decode code 455 = .ok (.iconst 2, 1) := by decide +kernel
theorem dL_law_456 : decode code 456 = .ok (.iadd, 1) := by decide +kernel
theorem dL_law_457 : decode code 457 = .ok (.iaload, 1) := by decide +kernel
theorem dL_law_458 : decode code 458 = .ok (.aload_n 0, 1) := by decide +kernel
theorem dL_law_459 : decode code 459 = .ok (.iload_n 3, 1) := by decide +kernel
theorem dL_law_460 : decode code 460 = .ok (.iconst 3, 1) := by decide +kernel
theorem dL_law_461 : decode code 461 = .ok (.iadd, 1) := by decide +kernel
theorem dL_law_462 : decode code 462 = .ok (.iaload, 1) := by decide +kernel
theorem dL_law_463 : decode code 463 = .ok (.invokevirtual 59, 3) := by decide +kernel
theorem dL_law_466 : decode code 466 = .ok (.aload_n 2, 1) := by decide +kernel
theorem dL_law_467 : decode code 467 = .ok (.aload_n 0, 1) := by decide +kernel
theorem dL_law_468 : decode code 468 = .ok (.iload_n 3, 1) := by decide +kernel
theorem dL_law_469 : decode code 469 = .ok (.iconst 1, 1) := by decide +kernel
theorem dL_law_470 : decode code 470 = .ok (.iadd, 1) := by decide +kernel
theorem dL_law_471 : decode code 471 = .ok (.iaload, 1) := by decide +kernel
theorem dL_law_472 : decode code 472 = .ok (.aload_n 0, 1) := by decide +kernel
theorem dL_law_473 : decode code 473 = .ok (.iload_n 3, 1) := by decide +kernel
theorem dL_law_474 : decode code 474 = .ok (.iconst 2, 1) := by decide +kernel
theorem dL_law_475 : decode code 475 = .ok (.iadd, 1) := by decide +kernel
theorem dL_law_476 : decode code 476 = .ok (.iaload, 1) := by decide +kernel
theorem dL_law_477 : decode code 477 = .ok (.aload_n 0, 1) := by decide +kernel
theorem dL_law_478 : decode code 478 = .ok (.iload_n 3, 1) := by decide +kernel
theorem dL_law_479 : decode code 479 = .ok (.iconst 3, 1) := by decide +kernel
theorem dL_law_480 : decode code 480 = .ok (.iadd, 1) := by decide +kernel
theorem dL_law_481 : decode code 481 = .ok (.iaload, 1) := by decide +kernel
theorem dL_law_482 : decode code 482 = .ok (.invokevirtual 63, 3) := by decide +kernel
theorem dL_law_485 : decode code 485 = .ok (.if_icmp .eq 186, 3) := by decide +kernel
theorem dL_law_488 : decode code 488 = .ok (.iconst 0, 1) := by decide +kernel
theorem dL_law_489 : decode code 489 = .ok (.ireturn, 1) := by decide +kernel
theorem dL_law_490 : decode code 490 = .ok (.aload_n 1, 1) := by decide +kernel
theorem dL_law_491 : decode code 491 = .ok (.aload_n 0, 1) := by decide +kernel
theorem dL_law_492 : decode code 492 = .ok (.iload_n 3, 1) := by decide +kernel
theorem dL_law_493 : decode code 493 = .ok (.iconst 1, 1) := by decide +kernel
theorem dL_law_494 : decode code 494 = .ok (.iadd, 1) := by decide +kernel
theorem dL_law_495 : decode code 495 = .ok (.iaload, 1) := by decide +kernel
theorem dL_law_496 : decode code 496 = .ok (.aload_n 0, 1) := by decide +kernel
theorem dL_law_497 : decode code 497 = .ok (.iload_n 3, 1) := by decide +kernel
theorem dL_law_498 : decode code 498 = .ok (.iconst 2, 1) := by decide +kernel
theorem dL_law_499 : decode code 499 = .ok (.iadd, 1) := by decide +kernel
theorem dL_law_500 : decode code 500 = .ok (.iaload, 1) := by decide +kernel
theorem dL_law_501 : decode code 501 = .ok (.aload_n 0, 1) := by decide +kernel
theorem dL_law_502 : decode code 502 = .ok (.iload_n 3, 1) := by decide +kernel
theorem dL_law_503 : decode code 503 = .ok (.iconst 3, 1) := by decide +kernel
theorem dL_law_504 : decode code 504 = .ok (.iadd, 1) := by decide +kernel
theorem dL_law_505 : decode code 505 = .ok (.iaload, 1) := by decide +kernel
theorem dL_law_506 : decode code 506 = .ok (.invokevirtual 64, 3) := by decide +kernel
theorem dL_law_509 : decode code 509 = .ok (.aload_n 2, 1) := by decide +kernel
theorem dL_law_510 : decode code 510 = .ok (.aload_n 0, 1) := by decide +kernel
theorem dL_law_511 : decode code 511 = .ok (.iload_n 3, 1) := by decide +kernel
theorem dL_law_512 : decode code 512 = .ok (.iconst 1, 1) := by decide +kernel
theorem dL_law_513 : decode code 513 = .ok (.iadd, 1) := by decide +kernel
theorem dL_law_514 : decode code 514 = .ok (.iaload, 1) := by decide +kernel
theorem dL_law_515 : decode code 515 = .ok (.aload_n 0, 1) := by decide +kernel
theorem dL_law_516 : decode code 516 = .ok (.iload_n 3, 1) := by decide +kernel
theorem dL_law_517 : decode code 517 = .ok (.iconst 2, 1) := by decide +kernel
theorem dL_law_518 : decode code 518 = .ok (.iadd, 1) := by decide +kernel
theorem dL_law_519 : decode code 519 = .ok (.iaload, 1) := by decide +kernel
theorem dL_law_520 : decode code 520 = .ok (.aload_n 0, 1) := by decide +kernel
theorem dL_law_521 : decode code 521 = .ok (.iload_n 3, 1) := by decide +kernel
theorem dL_law_522 : decode code 522 = .ok (.iconst 3, 1) := by decide +kernel
theorem dL_law_523 : decode code 523 = .ok (.iadd, 1) := by decide +kernel
theorem dL_law_524 : decode code 524 = .ok (.iaload, 1) := by decide +kernel
theorem dL_law_525 : decode code 525 = .ok (.invokevirtual 67, 3) := by decide +kernel
theorem dL_law_528 : decode code 528 = .ok (.if_icmp .eq 143, 3) := by decide +kernel
theorem dL_law_531 : decode code 531 = .ok (.iconst 0, 1) := by decide +kernel
theorem dL_law_532 : decode code 532 = .ok (.ireturn, 1) := by decide +kernel
theorem dL_law_533 : decode code 533 = .ok (.aload_n 1, 1) := by decide +kernel
theorem dL_law_534 : decode code 534 = .ok (.aload_n 0, 1) := by decide +kernel
theorem dL_law_535 : decode code 535 = .ok (.iload_n 3, 1) := by decide +kernel
theorem dL_law_536 : decode code 536 = .ok (.iconst 1, 1) := by decide +kernel
theorem dL_law_537 : decode code 537 = .ok (.iadd, 1) := by decide +kernel
theorem dL_law_538 : decode code 538 = .ok (.iaload, 1) := by decide +kernel
theorem dL_law_539 : decode code 539 = .ok (.i2l, 1) := by decide +kernel
theorem dL_law_540 : decode code 540 = .ok (.bipush 32, 2) := by decide +kernel
theorem dL_law_542 : decode code 542 = .ok (.lshl, 1) := by decide +kernel
theorem dL_law_543 : decode code 543 = .ok (.aload_n 0, 1) := by decide +kernel
theorem dL_law_544 : decode code 544 = .ok (.iload_n 3, 1) := by decide +kernel
theorem dL_law_545 : decode code 545 = .ok (.iconst 2, 1) := by decide +kernel
theorem dL_law_546 : decode code 546 = .ok (.iadd, 1) := by decide +kernel
theorem dL_law_547 : decode code 547 = .ok (.iaload, 1) := by decide +kernel
theorem dL_law_548 : decode code 548 = .ok (.i2l, 1) := by decide +kernel
theorem dL_law_549 : decode code 549 = .ok (.ldc2_w 68, 3) := by decide +kernel
theorem dL_law_552 : decode code 552 = .ok (.land, 1) := by decide +kernel
theorem dL_law_553 : decode code 553 = .ok (.lor, 1) := by decide +kernel
theorem dL_law_554 : decode code 554 = .ok (.invokevirtual 70, 3) := by decide +kernel
theorem dL_law_557 : decode code 557 = .ok (.aload_n 2, 1) := by decide +kernel
theorem dL_law_558 : decode code 558 = .ok (.aload_n 0, 1) := by decide +kernel
theorem dL_law_559 : decode code 559 = .ok (.iload_n 3, 1) := by decide +kernel
theorem dL_law_560 : decode code 560 = .ok (.iconst 1, 1) := by decide +kernel
theorem dL_law_561 : decode code 561 = .ok (.iadd, 1) := by decide +kernel
theorem dL_law_562 : decode code 562 = .ok (.iaload, 1) := by decide +kernel
theorem dL_law_563 : decode code 563 = .ok (.i2l, 1) := by decide +kernel
theorem dL_law_564 : decode code 564 = .ok (.bipush 32, 2) := by decide +kernel
theorem dL_law_566 : decode code 566 = .ok (.lshl, 1) := by decide +kernel
theorem dL_law_567 : decode code 567 = .ok (.aload_n 0, 1) := by decide +kernel
theorem dL_law_568 : decode code 568 = .ok (.iload_n 3, 1) := by decide +kernel
theorem dL_law_569 : decode code 569 = .ok (.iconst 2, 1) := by decide +kernel
theorem dL_law_570 : decode code 570 = .ok (.iadd, 1) := by decide +kernel
theorem dL_law_571 : decode code 571 = .ok (.iaload, 1) := by decide +kernel
theorem dL_law_572 : decode code 572 = .ok (.i2l, 1) := by decide +kernel
theorem dL_law_573 : decode code 573 = .ok (.ldc2_w 68, 3) := by decide +kernel
theorem dL_law_576 : decode code 576 = .ok (.land, 1) := by decide +kernel
theorem dL_law_577 : decode code 577 = .ok (.lor, 1) := by decide +kernel
theorem dL_law_578 : decode code 578 = .ok (.invokevirtual 74, 3) := by decide +kernel
theorem dL_law_581 : decode code 581 = .ok (.if_icmp .eq 90, 3) := by decide +kernel
theorem dL_law_584 : decode code 584 = .ok (.iconst 0, 1) := by decide +kernel
theorem dL_law_585 : decode code 585 = .ok (.ireturn, 1) := by decide +kernel
theorem dL_law_586 : decode code 586 = .ok (.aload_n 1, 1) := by decide +kernel
theorem dL_law_587 : decode code 587 = .ok (.invokevirtual 75, 3) := by decide +kernel
theorem dL_law_590 : decode code 590 = .ok (.aload_n 2, 1) := by decide +kernel
theorem dL_law_591 : decode code 591 = .ok (.invokevirtual 79, 3) := by decide +kernel
theorem dL_law_594 : decode code 594 = .ok (.if_icmp .eq 77, 3) := by decide +kernel
theorem dL_law_597 : decode code 597 = .ok (.iconst 0, 1) := by decide +kernel
theorem dL_law_598 : decode code 598 = .ok (.ireturn, 1) := by decide +kernel
theorem dL_law_599 : decode code 599 = .ok (.aload_n 1, 1) := by decide +kernel
theorem dL_law_600 : decode code 600 = .ok (.invokevirtual 80, 3) := by decide +kernel
theorem dL_law_603 : decode code 603 = .ok (.aload_n 2, 1) := by decide +kernel
theorem dL_law_604 : decode code 604 = .ok (.invokevirtual 83, 3) := by decide +kernel
theorem dL_law_607 : decode code 607 = .ok (.if_icmp .eq 64, 3) := by decide +kernel
theorem dL_law_610 : decode code 610 = .ok (.iconst 0, 1) := by decide +kernel
theorem dL_law_611 : decode code 611 = .ok (.ireturn, 1) := by decide +kernel
theorem dL_law_612 : decode code 612 = .ok (.aload_n 1, 1) := by decide +kernel
theorem dL_law_613 : decode code 613 = .ok (.invokevirtual 84, 3) := by decide +kernel
theorem dL_law_616 : decode code 616 = .ok (.aload_n 2, 1) := by decide +kernel
theorem dL_law_617 : decode code 617 = .ok (.invokevirtual 87, 3) := by decide +kernel
theorem dL_law_620 : decode code 620 = .ok (.if_icmp .eq 51, 3) := by decide +kernel
theorem dL_law_623 : decode code 623 = .ok (.iconst 0, 1) := by decide +kernel
theorem dL_law_624 : decode code 624 = .ok (.ireturn, 1) := by decide +kernel
theorem dL_law_625 : decode code 625 = .ok (.aload_n 1, 1) := by decide +kernel
theorem dL_law_626 : decode code 626 = .ok (.aload_n 0, 1) := by decide +kernel
theorem dL_law_627 : decode code 627 = .ok (.iload_n 3, 1) := by decide +kernel
theorem dL_law_628 : decode code 628 = .ok (.iconst 1, 1) := by decide +kernel
theorem dL_law_629 : decode code 629 = .ok (.iadd, 1) := by decide +kernel
theorem dL_law_630 : decode code 630 = .ok (.iaload, 1) := by decide +kernel
theorem dL_law_631 : decode code 631 = .ok (.invokevirtual 88, 3) := by decide +kernel
theorem dL_law_634 : decode code 634 = .ok (.aload_n 2, 1) := by decide +kernel
theorem dL_law_635 : decode code 635 = .ok (.aload_n 0, 1) := by decide +kernel
theorem dL_law_636 : decode code 636 = .ok (.iload_n 3, 1) := by decide +kernel
theorem dL_law_637 : decode code 637 = .ok (.iconst 1, 1) := by decide +kernel
theorem dL_law_638 : decode code 638 = .ok (.iadd, 1) := by decide +kernel
theorem dL_law_639 : decode code 639 = .ok (.iaload, 1) := by decide +kernel
theorem dL_law_640 : decode code 640 = .ok (.invokevirtual 91, 3) := by decide +kernel
theorem dL_law_643 : decode code 643 = .ok (.if_icmp .eq 28, 3) := by decide +kernel
theorem dL_law_646 : decode code 646 = .ok (.iconst 0, 1) := by decide +kernel
theorem dL_law_647 : decode code 647 = .ok (.ireturn, 1) := by decide +kernel
theorem dL_law_648 : decode code 648 = .ok (.aload_n 1, 1) := by decide +kernel
theorem dL_law_649 : decode code 649 = .ok (.aload_n 0, 1) := by decide +kernel
theorem dL_law_650 : decode code 650 = .ok (.iload_n 3, 1) := by decide +kernel
theorem dL_law_651 : decode code 651 = .ok (.iconst 1, 1) := by decide +kernel
theorem dL_law_652 : decode code 652 = .ok (.iadd, 1) := by decide +kernel
theorem dL_law_653 : decode code 653 = .ok (.iaload, 1) := by decide +kernel
theorem dL_law_654 : decode code 654 = .ok (.invokevirtual 92, 3) := by decide +kernel
theorem dL_law_657 : decode code 657 = .ok (.aload_n 2, 1) := by decide +kernel
theorem dL_law_658 : decode code 658 = .ok (.aload_n 0, 1) := by decide +kernel
theorem dL_law_659 : decode code 659 = .ok (.iload_n 3, 1) := by decide +kernel
theorem dL_law_660 : decode code 660 = .ok (.iconst 1, 1) := by decide +kernel
theorem dL_law_661 : decode code 661 = .ok (.iadd, 1) := by decide +kernel
theorem dL_law_662 : decode code 662 = .ok (.iaload, 1) := by decide +kernel
theorem dL_law_663 : decode code 663 = .ok (.invokevirtual 95, 3) := by decide +kernel
theorem dL_law_666 : decode code 666 = .ok (.if_icmp .eq 5, 3) := by decide +kernel
theorem dL_law_669 : decode code 669 = .ok (.iconst 0, 1) := by decide +kernel
theorem dL_law_670 : decode code 670 = .ok (.ireturn, 1) := by decide +kernel
theorem dL_law_671 : decode code 671 = .ok (.iinc 3 4, 3) := by decide +kernel
theorem dL_law_674 : decode code 674 = .ok (.goto (-656), 3) := by decide +kernel
theorem dL_law_677 : decode code 677 = .ok (.iconst 1, 1) := by decide +kernel
theorem dL_law_678 : decode code 678 = .ok (.ireturn, 1) := by decide +kernel
