theorem dX10_init_0 : decode cX10_init 0 = .ok (.aload_n 0, 1) := by decide +kernel
theorem dX10_init_1 : decode cX10_init 1 = .ok (.invokespecial 1, 3) := by decide +kernel
theorem dX10_init_4 : decode cX10_init 4 = .ok (.aload_n 0, 1) := by decide +kernel
theorem dX10_init_5 : decode cX10_init 5 = .ok (.new 7, 3) := by decide +kernel
theorem dX10_init_8 : decode cX10_init 8 = .ok (.dup, 1) := by decide +kernel
theorem dX10_init_9 : decode cX10_init 9 = .ok (.invokespecial 9, 3) := by decide +kernel
theorem dX10_init_12 : decode cX10_init 12 = .ok (.putfield 10, 3) := by decide +kernel
theorem dX10_init_15 : decode cX10_init 15 = .ok (.aload_n 0, 1) := by decide +kernel
theorem dX10_init_16 : decode cX10_init 16 = .ok (.new 16, 3) := by decide +kernel
theorem dX10_init_19 : decode cX10_init 19 = .ok (.dup, 1) := by decide +kernel
theorem dX10_init_20 : decode cX10_init 20 = .ok (.invokespecial 18, 3) := by decide +kernel
theorem dX10_init_23 : decode cX10_init 23 = .ok (.putfield 19, 3) := by decide +kernel
theorem dX10_init_26 : decode cX10_init 26 = .ok (.aload_n 0, 1) := by decide +kernel
theorem dX10_init_27 : decode cX10_init 27 = .ok (.new 23, 3) := by decide +kernel
theorem dX10_init_30 : decode cX10_init 30 = .ok (.dup, 1) := by decide +kernel
theorem dX10_init_31 : decode cX10_init 31 = .ok (.invokespecial 25, 3) := by decide +kernel
theorem dX10_init_34 : decode cX10_init 34 = .ok (.putfield 26, 3) := by decide +kernel
theorem dX10_init_37 : decode cX10_init 37 = .ok (.aload_n 0, 1) := by decide +kernel
theorem dX10_init_38 : decode cX10_init 38 = .ok (.new 23, 3) := by decide +kernel
theorem dX10_init_41 : decode cX10_init 41 = .ok (.dup, 1) := by decide +kernel
theorem dX10_init_42 : decode cX10_init 42 = .ok (.invokespecial 25, 3) := by decide +kernel
theorem dX10_init_45 : decode cX10_init 45 = .ok (.putfield 30, 3) := by decide +kernel
theorem dX10_init_48 : decode cX10_init 48 = .ok (.aload_n 0, 1) := by decide +kernel
theorem dX10_init_49 : decode cX10_init 49 = .ok (.new 33, 3) := by decide +kernel
theorem dX10_init_52 : decode cX10_init 52 = .ok (.dup, 1) := by decide +kernel
theorem dX10_init_53 : decode cX10_init 53 = .ok (.invokespecial 35, 3) := by decide +kernel
theorem dX10_init_56 : decode cX10_init 56 = .ok (.putfield 36, 3) := by decide +kernel
theorem dX10_init_59 : decode cX10_init 59 = .ok (.aload_n 0, 1) := by decide +kernel
theorem dX10_init_60 : decode cX10_init 60 = .ok (.new 33, 3) := by decide +kernel
theorem dX10_init_63 : decode cX10_init 63 = .ok (.dup, 1) := by decide +kernel
theorem dX10_init_64 : decode cX10_init 64 = .ok (.invokespecial 35, 3) := by decide +kernel
theorem dX10_init_67 : decode cX10_init 67 = .ok (.putfield 40, 3) := by decide +kernel
theorem dX10_init_70 : decode cX10_init 70 = .ok (.aload_n 0, 1) := by decide +kernel
theorem dX10_init_71 : decode cX10_init 71 = .ok (.new 43, 3) := by decide +kernel
theorem dX10_init_74 : decode cX10_init 74 = .ok (.dup, 1) := by decide +kernel
theorem dX10_init_75 : decode cX10_init 75 = .ok (.invokespecial 45, 3) := by decide +kernel
theorem dX10_init_78 : decode cX10_init 78 = .ok (.putfield 46, 3) := by decide +kernel
theorem dX10_init_81 : decode cX10_init 81 = .ok (.aload_n 0, 1) := by decide +kernel
theorem dX10_init_82 : decode cX10_init 82 = .ok (.new 50, 3) := by decide +kernel
theorem dX10_init_85 : decode cX10_init 85 = .ok (.dup, 1) := by decide +kernel
theorem dX10_init_86 : decode cX10_init 86 = .ok (.invokespecial 52, 3) := by decide +kernel
theorem dX10_init_89 : decode cX10_init 89 = .ok (.putfield 53, 3) := by decide +kernel
theorem dX10_init_92 : decode cX10_init 92 = .ok (.aload_n 0, 1) := by decide +kernel
theorem dX10_init_93 : decode cX10_init 93 = .ok (.bipush 12, 2) := by decide +kernel
theorem dX10_init_95 : decode cX10_init 95 = .ok (.anewarray 57, 3) := by decide +kernel
theorem dX10_init_98 : decode cX10_init 98 = .ok (.putfield 59, 3) := by decide +kernel
theorem dX10_init_101 : decode cX10_init 101 = .ok (.aload_n 0, 1) := by decide +kernel
theorem dX10_init_102 : decode cX10_init 102 = .ok (.iconst 0, 1) := by decide +kernel
theorem dX10_init_103 : decode cX10_init 103 = .ok (.putfield 63, 3) := by decide +kernel
theorem dX10_init_106 : decode cX10_init 106 = .ok (.aload_n 0, 1) := by decide +kernel
theorem dX10_init_107 : decode cX10_init 107 = .ok (.iconst 0, 1) := by decide +kernel
theorem dX10_init_108 : decode cX10_init 108 = .ok (.putfield 67, 3) := by decide +kernel
theorem dX10_init_111 : decode cX10_init 111 = .ok (.aload_n 0, 1) := by decide +kernel
theorem dX10_init_112 : decode cX10_init 112 = .ok (.new 57, 3) := by decide +kernel
theorem dX10_init_115 : decode cX10_init 115 = .ok (.dup, 1) := by decide +kernel
theorem dX10_init_116 : decode cX10_init 116 = .ok (.invokespecial 70, 3) := by decide +kernel
theorem dX10_init_119 : decode cX10_init 119 = .ok (.putfield 71, 3) := by decide +kernel
theorem dX10_init_122 : decode cX10_init 122 = .ok (.aload_n 0, 1) := by decide +kernel
theorem dX10_init_123 : decode cX10_init 123 = .ok (.new 33, 3) := by decide +kernel
theorem dX10_init_126 : decode cX10_init 126 = .ok (.dup, 1) := by decide +kernel
theorem dX10_init_127 : decode cX10_init 127 = .ok (.invokespecial 35, 3) := by decide +kernel
theorem dX10_init_130 : decode cX10_init 130 = .ok (.putfield 75, 3) := by decide +kernel
theorem dX10_init_133 : decode cX10_init 133 = .ok (.aload_n 0, 1) := by decide +kernel
theorem dX10_init_134 : decode cX10_init 134 = .ok (.iconst 0, 1) := by decide +kernel
theorem dX10_init_135 : decode cX10_init 135 = .ok (.putfield 78, 3) := by decide +kernel
theorem dX10_init_138 : decode cX10_init 138 = .ok (.aload_n 0, 1) := by decide +kernel
theorem dX10_init_139 : decode cX10_init 139 = .ok (.iconst (-1), 1) := by decide +kernel
theorem dX10_init_140 : decode cX10_init 140 = .ok (.putfield 82, 3) := by decide +kernel
theorem dX10_init_143 : decode cX10_init 143 = .ok (.aload_n 0, 1) := by decide +kernel
theorem dX10_init_144 : decode cX10_init 144 = .ok (.bipush 12, 2) := by decide +kernel
theorem dX10_init_146 : decode cX10_init 146 = .ok (.newarray .int, 2) := by decide +kernel
theorem dX10_init_148 : decode cX10_init 148 = .ok (.putfield 85, 3) := by decide +kernel
theorem dX10_init_151 : decode cX10_init 151 = .ok (.aload_n 0, 1) := by decide +kernel
theorem dX10_init_152 : decode cX10_init 152 = .ok (.iconst 0, 1) := by decide +kernel
theorem dX10_init_153 : decode cX10_init 153 = .ok (.putfield 89, 3) := by decide +kernel
theorem dX10_init_156 : decode cX10_init 156 = .ok (.aload_n 0, 1) := by decide +kernel
theorem dX10_init_157 : decode cX10_init 157 = .ok (.sipush 185, 3) := by decide +kernel
theorem dX10_init_160 : decode cX10_init 160 = .ok (.newarray .int, 2) := by decide +kernel
theorem dX10_init_162 : decode cX10_init 162 = .ok (.putfield 92, 3) := by decide +kernel
theorem dX10_init_165 : decode cX10_init 165 = .ok (.aload_n 0, 1) := by decide +kernel
theorem dX10_init_166 : decode cX10_init 166 = .ok (.sipush 201, 3) := by decide +kernel
theorem dX10_init_169 : decode cX10_init 169 = .ok (.newarray .int, 2) := by decide +kernel
theorem dX10_init_171 : decode cX10_init 171 = .ok (.putfield 95, 3) := by decide +kernel
theorem dX10_init_174 : decode cX10_init 174 = .ok (.iconst 0, 1) := by decide +kernel
theorem dX10_init_175 : decode cX10_init 175 = .ok (.istore_n 1, 1) := by decide +kernel
theorem dX10_init_176 : decode cX10_init 176 = .ok (.iload_n 1, 1) := by decide +kernel
theorem dX10_init_177 : decode cX10_init 177 = .ok (.bipush 12, 2) := by decide +kernel
theorem dX10_init_179 : decode cX10_init 179 = .ok (.if_icmp .ge 22, 3) := by decide +kernel
theorem dX10_init_182 : decode cX10_init 182 = .ok (.aload_n 0, 1) := by decide +kernel
theorem dX10_init_183 : decode cX10_init 183 = .ok (.getfield 59, 3) := by decide +kernel
theorem dX10_init_186 : decode cX10_init 186 = .ok (.iload_n 1, 1) := by decide +kernel
theorem dX10_init_187 : decode cX10_init 187 = .ok (.new 57, 3) := by decide +kernel
theorem dX10_init_190 : decode cX10_init 190 = .ok (.dup, 1) := by decide +kernel
theorem dX10_init_191 : decode cX10_init 191 = .ok (.invokespecial 70, 3) := by decide +kernel
theorem dX10_init_194 : decode cX10_init 194 = .ok (.aastore, 1) := by decide +kernel
theorem dX10_init_195 : decode cX10_init 195 = .ok (.iinc 1 1, 3) := by decide +kernel
theorem dX10_init_198 : decode cX10_init 198 = .ok (.goto (-22), 3) := by decide +kernel
theorem dX10_init_201 : decode cX10_init 201 = .ok (.return_, 1) := by decide +kernel
theorem dX10_feed_0 : decode cX10_feed 0 = .ok (.aload_n 0, 1) := by decide +kernel
theorem dX10_feed_1 : decode cX10_feed 1 = .ok (.getfield 10, 3) := by decide +kernel
theorem dX10_feed_4 : decode cX10_feed 4 = .ok (.getfield 98, 3) := by decide +kernel
theorem dX10_feed_7 : decode cX10_feed 7 = .ok (.bipush 20, 2) := by decide +kernel
theorem dX10_feed_9 : decode cX10_feed 9 = .ok (.iadd, 1) := by decide +kernel
theorem dX10_feed_10 : decode cX10_feed 10 = .ok (.sipush 400, 3) := by decide +kernel
theorem dX10_feed_13 : decode cX10_feed 13 = .ok (.if_icmp .le 5, 3) := by decide +kernel
theorem dX10_feed_16 : decode cX10_feed 16 = .ok (.iconst (-1), 1) := by decide +kernel
theorem dX10_feed_17 : decode cX10_feed 17 = .ok (.ireturn, 1) := by decide +kernel
theorem dX10_feed_18 : decode cX10_feed 18 = .ok (.aload_n 0, 1) := by decide +kernel
theorem dX10_feed_19 : decode cX10_feed 19 = .ok (.getfield 10, 3) := by decide +kernel
theorem dX10_feed_22 : decode cX10_feed 22 = .ok (.iload_n 1, 1) := by decide +kernel
theorem dX10_feed_23 : decode cX10_feed 23 = .ok (.invokevirtual 101, 3) := by decide +kernel
theorem dX10_feed_26 : decode cX10_feed 26 = .ok (.aload_n 0, 1) := by decide +kernel
theorem dX10_feed_27 : decode cX10_feed 27 = .ok (.getfield 10, 3) := by decide +kernel
theorem dX10_feed_30 : decode cX10_feed 30 = .ok (.iload_n 2, 1) := by decide +kernel
theorem dX10_feed_31 : decode cX10_feed 31 = .ok (.invokevirtual 101, 3) := by decide +kernel
theorem dX10_feed_34 : decode cX10_feed 34 = .ok (.aload_n 0, 1) := by decide +kernel
theorem dX10_feed_35 : decode cX10_feed 35 = .ok (.getfield 10, 3) := by decide +kernel
theorem dX10_feed_38 : decode cX10_feed 38 = .ok (.iload_n 3, 1) := by decide +kernel
theorem dX10_feed_39 : decode cX10_feed 39 = .ok (.invokevirtual 101, 3) := by decide +kernel
theorem dX10_feed_42 : decode cX10_feed 42 = .ok (.aload_n 0, 1) := by decide +kernel
theorem dX10_feed_43 : decode cX10_feed 43 = .ok (.getfield 10, 3) := by decide +kernel
theorem dX10_feed_46 : decode cX10_feed 46 = .ok (.iload 4, 2) := by decide +kernel
theorem dX10_feed_48 : decode cX10_feed 48 = .ok (.invokevirtual 101, 3) := by decide +kernel
theorem dX10_feed_51 : decode cX10_feed 51 = .ok (.aload_n 0, 1) := by decide +kernel
theorem dX10_feed_52 : decode cX10_feed 52 = .ok (.getfield 10, 3) := by decide +kernel
theorem dX10_feed_55 : decode cX10_feed 55 = .ok (.iload 5, 2) := by decide +kernel
theorem dX10_feed_57 : decode cX10_feed 57 = .ok (.invokevirtual 101, 3) := by decide +kernel
theorem dX10_feed_60 : decode cX10_feed 60 = .ok (.aload_n 0, 1) := by decide +kernel
theorem dX10_feed_61 : decode cX10_feed 61 = .ok (.getfield 10, 3) := by decide +kernel
theorem dX10_feed_64 : decode cX10_feed 64 = .ok (.getfield 98, 3) := by decide +kernel
theorem dX10_feed_67 : decode cX10_feed 67 = .ok (.ireturn, 1) := by decide +kernel
theorem dX10_end_0 : decode cX10_end 0 = .ok (.iload_n 1, 1) := by decide +kernel
theorem dX10_end_1 : decode cX10_end 1 = .ok (.ifCond .lt 14, 3) := by decide +kernel
theorem dX10_end_4 : decode cX10_end 4 = .ok (.iload_n 1, 1) := by decide +kernel
theorem dX10_end_5 : decode cX10_end 5 = .ok (.aload_n 0, 1) := by decide +kernel
theorem dX10_end_6 : decode cX10_end 6 = .ok (.getfield 10, 3) := by decide +kernel
theorem dX10_end_9 : decode cX10_end 9 = .ok (.getfield 98, 3) := by decide +kernel
theorem dX10_end_12 : decode cX10_end 12 = .ok (.if_icmp .le 5, 3) := by decide +kernel
theorem dX10_end_15 : decode cX10_end 15 = .ok (.iconst 0, 1) := by decide +kernel
theorem dX10_end_16 : decode cX10_end 16 = .ok (.ireturn, 1) := by decide +kernel
theorem dX10_end_17 : decode cX10_end 17 = .ok (.aload_n 0, 1) := by decide +kernel
theorem dX10_end_18 : decode cX10_end 18 = .ok (.getfield 10, 3) := by decide +kernel
theorem dX10_end_21 : decode cX10_end 21 = .ok (.iload_n 1, 1) := by decide +kernel
theorem dX10_end_22 : decode cX10_end 22 = .ok (.putfield 98, 3) := by decide +kernel
theorem dX10_end_25 : decode cX10_end 25 = .ok (.iconst 1, 1) := by decide +kernel
theorem dX10_end_26 : decode cX10_end 26 = .ok (.ireturn, 1) := by decide +kernel
theorem dX10_table_0 : decode cX10_table 0 = .ok (.aload_n 0, 1) := by decide +kernel
theorem dX10_table_1 : decode cX10_table 1 = .ok (.getfield 30, 3) := by decide +kernel
theorem dX10_table_4 : decode cX10_table 4 = .ok (.aload_n 0, 1) := by decide +kernel
theorem dX10_table_5 : decode cX10_table 5 = .ok (.getfield 26, 3) := by decide +kernel
theorem dX10_table_8 : decode cX10_table 8 = .ok (.invokevirtual 105, 3) := by decide +kernel
theorem dX10_table_11 : decode cX10_table 11 = .ok (.aload_n 0, 1) := by decide +kernel
theorem dX10_table_12 : decode cX10_table 12 = .ok (.getfield 19, 3) := by decide +kernel
theorem dX10_table_15 : decode cX10_table 15 = .ok (.aload_n 0, 1) := by decide +kernel
theorem dX10_table_16 : decode cX10_table 16 = .ok (.getfield 10, 3) := by decide +kernel
theorem dX10_table_19 : decode cX10_table 19 = .ok (.invokevirtual 109, 3) := by decide +kernel
theorem dX10_table_22 : decode cX10_table 22 = .ok (.aload_n 0, 1) := by decide +kernel
theorem dX10_table_23 : decode cX10_table 23 = .ok (.getfield 10, 3) := by decide +kernel
theorem dX10_table_26 : decode cX10_table 26 = .ok (.iconst 0, 1) := by decide +kernel
theorem dX10_table_27 : decode cX10_table 27 = .ok (.putfield 98, 3) := by decide +kernel
theorem dX10_table_30 : decode cX10_table 30 = .ok (.aload_n 0, 1) := by decide +kernel
theorem dX10_table_31 : decode cX10_table 31 = .ok (.getfield 19, 3) := by decide +kernel
theorem dX10_table_34 : decode cX10_table 34 = .ok (.aload_n 0, 1) := by decide +kernel
theorem dX10_table_35 : decode cX10_table 35 = .ok (.getfield 30, 3) := by decide +kernel
theorem dX10_table_38 : decode cX10_table 38 = .ok (.invokestatic 113, 3) := by decide +kernel
theorem dX10_table_41 : decode cX10_table 41 = .ok (.istore_n 1, 1) := by decide +kernel
theorem dX10_table_42 : decode cX10_table 42 = .ok (.aload_n 0, 1) := by decide +kernel
theorem dX10_table_43 : decode cX10_table 43 = .ok (.iload_n 1, 1) := by decide +kernel
theorem dX10_table_44 : decode cX10_table 44 = .ok (.ifCond .eq 7, 3) := by decide +kernel
theorem dX10_table_47 : decode cX10_table 47 = .ok (.iconst (-1), 1) := by decide +kernel
theorem dX10_table_48 : decode cX10_table 48 = .ok (.goto 10, 3) := by decide +kernel
theorem dX10_table_51 : decode cX10_table 51 = .ok (.aload_n 0, 1) := by decide +kernel
theorem dX10_table_52 : decode cX10_table 52 = .ok (.getfield 19, 3) := by decide +kernel
theorem dX10_table_55 : decode cX10_table 55 = .ok (.invokevirtual 119, 3) := by decide +kernel
theorem dX10_table_58 : decode cX10_table 58 = .ok (.putfield 82, 3) := by decide +kernel
theorem dX10_table_61 : decode cX10_table 61 = .ok (.iload_n 1, 1) := by decide +kernel
theorem dX10_table_62 : decode cX10_table 62 = .ok (.ifCond .ne 13, 3) := by decide +kernel
theorem dX10_table_65 : decode cX10_table 65 = .ok (.new 123, 3) := by decide +kernel
theorem dX10_table_68 : decode cX10_table 68 = .ok (.dup, 1) := by decide +kernel
theorem dX10_table_69 : decode cX10_table 69 = .ok (.ldc 125, 2) := by decide +kernel
theorem dX10_table_71 : decode cX10_table 71 = .ok (.invokespecial 127, 3) := by decide +kernel
theorem dX10_table_74 : decode cX10_table 74 = .ok (.athrow, 1) := by decide +kernel
theorem dX10_table_75 : decode cX10_table 75 = .ok (.aload_n 0, 1) := by decide +kernel
theorem dX10_table_76 : decode cX10_table 76 = .ok (.getfield 26, 3) := by decide +kernel
theorem dX10_table_79 : decode cX10_table 79 = .ok (.getfield 130, 3) := by decide +kernel
theorem dX10_table_82 : decode cX10_table 82 = .ok (.bipush 12, 2) := by decide +kernel
theorem dX10_table_84 : decode cX10_table 84 = .ok (.if_icmp .lt 13, 3) := by decide +kernel
theorem dX10_table_87 : decode cX10_table 87 = .ok (.new 133, 3) := by decide +kernel
theorem dX10_table_90 : decode cX10_table 90 = .ok (.dup, 1) := by decide +kernel
theorem dX10_table_91 : decode cX10_table 91 = .ok (.ldc 135, 2) := by decide +kernel
theorem dX10_table_93 : decode cX10_table 93 = .ok (.invokespecial 137, 3) := by decide +kernel
theorem dX10_table_96 : decode cX10_table 96 = .ok (.athrow, 1) := by decide +kernel
theorem dX10_table_97 : decode cX10_table 97 = .ok (.aload_n 0, 1) := by decide +kernel
theorem dX10_table_98 : decode cX10_table 98 = .ok (.getfield 30, 3) := by decide +kernel
theorem dX10_table_101 : decode cX10_table 101 = .ok (.dup, 1) := by decide +kernel
theorem dX10_table_102 : decode cX10_table 102 = .ok (.getfield 130, 3) := by decide +kernel
theorem dX10_table_105 : decode cX10_table 105 = .ok (.iconst 1, 1) := by decide +kernel
theorem dX10_table_106 : decode cX10_table 106 = .ok (.iadd, 1) := by decide +kernel
theorem dX10_table_107 : decode cX10_table 107 = .ok (.putfield 130, 3) := by decide +kernel
theorem dX10_table_110 : decode cX10_table 110 = .ok (.aload_n 0, 1) := by decide +kernel
theorem dX10_table_111 : decode cX10_table 111 = .ok (.getfield 26, 3) := by decide +kernel
theorem dX10_table_114 : decode cX10_table 114 = .ok (.aload_n 0, 1) := by decide +kernel
theorem dX10_table_115 : decode cX10_table 115 = .ok (.getfield 30, 3) := by decide +kernel
theorem dX10_table_118 : decode cX10_table 118 = .ok (.invokevirtual 105, 3) := by decide +kernel
theorem dX10_table_121 : decode cX10_table 121 = .ok (.aload_n 0, 1) := by decide +kernel
theorem dX10_table_122 : decode cX10_table 122 = .ok (.iconst 0, 1) := by decide +kernel
theorem dX10_table_123 : decode cX10_table 123 = .ok (.putfield 67, 3) := by decide +kernel
theorem dX10_table_126 : decode cX10_table 126 = .ok (.aload_n 0, 1) := by decide +kernel
theorem dX10_table_127 : decode cX10_table 127 = .ok (.getfield 26, 3) := by decide +kernel
theorem dX10_table_130 : decode cX10_table 130 = .ok (.getfield 130, 3) := by decide +kernel
theorem dX10_table_133 : decode cX10_table 133 = .ok (.ireturn, 1) := by decide +kernel
theorem dX10_law_0 : decode cX10_law 0 = .ok (.aload_n 0, 1) := by decide +kernel
theorem dX10_law_1 : decode cX10_law 1 = .ok (.getfield 19, 3) := by decide +kernel
theorem dX10_law_4 : decode cX10_law 4 = .ok (.aload_n 0, 1) := by decide +kernel
theorem dX10_law_5 : decode cX10_law 5 = .ok (.getfield 10, 3) := by decide +kernel
theorem dX10_law_8 : decode cX10_law 8 = .ok (.invokevirtual 109, 3) := by decide +kernel
theorem dX10_law_11 : decode cX10_law 11 = .ok (.aload_n 0, 1) := by decide +kernel
theorem dX10_law_12 : decode cX10_law 12 = .ok (.getfield 10, 3) := by decide +kernel
theorem dX10_law_15 : decode cX10_law 15 = .ok (.iconst 0, 1) := by decide +kernel
theorem dX10_law_16 : decode cX10_law 16 = .ok (.putfield 98, 3) := by decide +kernel
theorem dX10_law_19 : decode cX10_law 19 = .ok (.aload_n 0, 1) := by decide +kernel
theorem dX10_law_20 : decode cX10_law 20 = .ok (.getfield 19, 3) := by decide +kernel
theorem dX10_law_23 : decode cX10_law 23 = .ok (.aload_n 0, 1) := by decide +kernel
theorem dX10_law_24 : decode cX10_law 24 = .ok (.getfield 40, 3) := by decide +kernel
theorem dX10_law_27 : decode cX10_law 27 = .ok (.invokestatic 138, 3) := by decide +kernel
theorem dX10_law_30 : decode cX10_law 30 = .ok (.istore_n 1, 1) := by decide +kernel
theorem dX10_law_31 : decode cX10_law 31 = .ok (.aload_n 0, 1) := by decide +kernel
theorem dX10_law_32 : decode cX10_law 32 = .ok (.iload_n 1, 1) := by decide +kernel
theorem dX10_law_33 : decode cX10_law 33 = .ok (.ifCond .eq 7, 3) := by decide +kernel
theorem dX10_law_36 : decode cX10_law 36 = .ok (.iconst (-1), 1) := by decide +kernel
theorem dX10_law_37 : decode cX10_law 37 = .ok (.goto 10, 3) := by decide +kernel
theorem dX10_law_40 : decode cX10_law 40 = .ok (.aload_n 0, 1) := by decide +kernel
theorem dX10_law_41 : decode cX10_law 41 = .ok (.getfield 19, 3) := by decide +kernel
theorem dX10_law_44 : decode cX10_law 44 = .ok (.invokevirtual 119, 3) := by decide +kernel
theorem dX10_law_47 : decode cX10_law 47 = .ok (.putfield 82, 3) := by decide +kernel
theorem dX10_law_50 : decode cX10_law 50 = .ok (.iload_n 1, 1) := by decide +kernel
theorem dX10_law_51 : decode cX10_law 51 = .ok (.ifCond .ne 13, 3) := by decide +kernel
theorem dX10_law_54 : decode cX10_law 54 = .ok (.new 123, 3) := by decide +kernel
theorem dX10_law_57 : decode cX10_law 57 = .ok (.dup, 1) := by decide +kernel
theorem dX10_law_58 : decode cX10_law 58 = .ok (.ldc 125, 2) := by decide +kernel
theorem dX10_law_60 : decode cX10_law 60 = .ok (.invokespecial 127, 3) := by decide +kernel
theorem dX10_law_63 : decode cX10_law 63 = .ok (.athrow, 1) := by decide +kernel
theorem dX10_law_64 : decode cX10_law 64 = .ok (.aload_n 0, 1) := by decide +kernel
theorem dX10_law_65 : decode cX10_law 65 = .ok (.getfield 36, 3) := by decide +kernel
theorem dX10_law_68 : decode cX10_law 68 = .ok (.aload_n 0, 1) := by decide +kernel
theorem dX10_law_69 : decode cX10_law 69 = .ok (.getfield 40, 3) := by decide +kernel
theorem dX10_law_72 : decode cX10_law 72 = .ok (.invokevirtual 143, 3) := by decide +kernel
theorem dX10_law_75 : decode cX10_law 75 = .ok (.aload_n 0, 1) := by decide +kernel
theorem dX10_law_76 : decode cX10_law 76 = .ok (.iconst 0, 1) := by decide +kernel
theorem dX10_law_77 : decode cX10_law 77 = .ok (.putfield 67, 3) := by decide +kernel
theorem dX10_law_80 : decode cX10_law 80 = .ok (.aload_n 0, 1) := by decide +kernel
theorem dX10_law_81 : decode cX10_law 81 = .ok (.getfield 36, 3) := by decide +kernel
theorem dX10_law_84 : decode cX10_law 84 = .ok (.getfield 146, 3) := by decide +kernel
theorem dX10_law_87 : decode cX10_law 87 = .ok (.ireturn, 1) := by decide +kernel
theorem dX10_fault_0 : decode cX10_fault 0 = .ok (.aload_n 0, 1) := by decide +kernel
theorem dX10_fault_1 : decode cX10_fault 1 = .ok (.getfield 82, 3) := by decide +kernel
theorem dX10_fault_4 : decode cX10_fault 4 = .ok (.ireturn, 1) := by decide +kernel
theorem dX10_diner_0 : decode cX10_diner 0 = .ok (.aload_n 0, 1) := by decide +kernel
theorem dX10_diner_1 : decode cX10_diner 1 = .ok (.iload_n 1, 1) := by decide +kernel
theorem dX10_diner_2 : decode cX10_diner 2 = .ok (.invokevirtual 149, 3) := by decide +kernel
theorem dX10_diner_5 : decode cX10_diner 5 = .ok (.aload_n 0, 1) := by decide +kernel
theorem dX10_diner_6 : decode cX10_diner 6 = .ok (.iload_n 2, 1) := by decide +kernel
theorem dX10_diner_7 : decode cX10_diner 7 = .ok (.iconst 4, 1) := by decide +kernel
theorem dX10_diner_8 : decode cX10_diner 8 = .ok (.invokevirtual 152, 3) := by decide +kernel
theorem dX10_diner_11 : decode cX10_diner 11 = .ok (.iload_n 2, 1) := by decide +kernel
theorem dX10_diner_12 : decode cX10_diner 12 = .ok (.tableswitch 77 0 3 #[32, 41, 51, 68], 32) := by decide +kernel
theorem dX10_diner_44 : decode cX10_diner 44 = .ok (.aload_n 0, 1) := by decide +kernel
theorem dX10_diner_45 : decode cX10_diner 45 = .ok (.getfield 26, 3) := by decide +kernel
theorem dX10_diner_48 : decode cX10_diner 48 = .ok (.iload_n 1, 1) := by decide +kernel
theorem dX10_diner_49 : decode cX10_diner 49 = .ok (.invokevirtual 156, 3) := by decide +kernel
theorem dX10_diner_52 : decode cX10_diner 52 = .ok (.ireturn, 1) := by decide +kernel
theorem dX10_diner_53 : decode cX10_diner 53 = .ok (.aload_n 0, 1) := by decide +kernel
theorem dX10_diner_54 : decode cX10_diner 54 = .ok (.getfield 26, 3) := by decide +kernel
theorem dX10_diner_57 : decode cX10_diner 57 = .ok (.getfield 160, 3) := by decide +kernel
theorem dX10_diner_60 : decode cX10_diner 60 = .ok (.iload_n 1, 1) := by decide +kernel
theorem dX10_diner_61 : decode cX10_diner 61 = .ok (.iaload, 1) := by decide +kernel
theorem dX10_diner_62 : decode cX10_diner 62 = .ok (.ireturn, 1) := by decide +kernel
theorem dX10_diner_63 : decode cX10_diner 63 = .ok (.aload_n 0, 1) := by decide +kernel
theorem dX10_diner_64 : decode cX10_diner 64 = .ok (.getfield 26, 3) := by decide +kernel
theorem dX10_diner_67 : decode cX10_diner 67 = .ok (.iload_n 1, 1) := by decide +kernel
theorem dX10_diner_68 : decode cX10_diner 68 = .ok (.invokevirtual 163, 3) := by decide +kernel
theorem dX10_diner_71 : decode cX10_diner 71 = .ok (.ifCond .eq 7, 3) := by decide +kernel
theorem dX10_diner_74 : decode cX10_diner 74 = .ok (.iconst 1, 1) := by decide +kernel
theorem dX10_diner_75 : decode cX10_diner 75 = .ok (.goto 4, 3) := by decide +kernel
theorem dX10_diner_78 : decode cX10_diner 78 = .ok (.iconst 0, 1) := by decide +kernel
theorem dX10_diner_79 : decode cX10_diner 79 = .ok (.ireturn, 1) := by decide +kernel
theorem dX10_diner_80 : decode cX10_diner 80 = .ok (.aload_n 0, 1) := by decide +kernel
theorem dX10_diner_81 : decode cX10_diner 81 = .ok (.getfield 26, 3) := by decide +kernel
theorem dX10_diner_84 : decode cX10_diner 84 = .ok (.iload_n 1, 1) := by decide +kernel
theorem dX10_diner_85 : decode cX10_diner 85 = .ok (.invokevirtual 167, 3) := by decide +kernel
theorem dX10_diner_88 : decode cX10_diner 88 = .ok (.ireturn, 1) := by decide +kernel
theorem dX10_diner_89 : decode cX10_diner 89 = .ok (.aload_n 0, 1) := by decide +kernel
theorem dX10_diner_90 : decode cX10_diner 90 = .ok (.getfield 26, 3) := by decide +kernel
theorem dX10_diner_93 : decode cX10_diner 93 = .ok (.iload_n 1, 1) := by decide +kernel
theorem dX10_diner_94 : decode cX10_diner 94 = .ok (.invokevirtual 170, 3) := by decide +kernel
theorem dX10_diner_97 : decode cX10_diner 97 = .ok (.ireturn, 1) := by decide +kernel
theorem dX10_has_0 : decode cX10_has 0 = .ok (.aload_n 0, 1) := by decide +kernel
theorem dX10_has_1 : decode cX10_has 1 = .ok (.iload_n 1, 1) := by decide +kernel
theorem dX10_has_2 : decode cX10_has 2 = .ok (.invokevirtual 149, 3) := by decide +kernel
theorem dX10_has_5 : decode cX10_has 5 = .ok (.aload_n 0, 1) := by decide +kernel
theorem dX10_has_6 : decode cX10_has 6 = .ok (.iload_n 2, 1) := by decide +kernel
theorem dX10_has_7 : decode cX10_has 7 = .ok (.invokevirtual 173, 3) := by decide +kernel
theorem dX10_has_10 : decode cX10_has 10 = .ok (.aload_n 0, 1) := by decide +kernel
theorem dX10_has_11 : decode cX10_has 11 = .ok (.getfield 26, 3) := by decide +kernel
theorem dX10_has_14 : decode cX10_has 14 = .ok (.iload_n 1, 1) := by decide +kernel
theorem dX10_has_15 : decode cX10_has 15 = .ok (.iload_n 2, 1) := by decide +kernel
theorem dX10_has_16 : decode cX10_has 16 = .ok (.invokevirtual 176, 3) := by decide +kernel
theorem dX10_has_19 : decode cX10_has 19 = .ok (.ireturn, 1) := by decide +kernel
theorem dX10_cellar_0 : decode cX10_cellar 0 = .ok (.aload_n 0, 1) := by decide +kernel
theorem dX10_cellar_1 : decode cX10_cellar 1 = .ok (.iload_n 1, 1) := by decide +kernel
theorem dX10_cellar_2 : decode cX10_cellar 2 = .ok (.invokevirtual 180, 3) := by decide +kernel
theorem dX10_cellar_5 : decode cX10_cellar 5 = .ok (.aload_n 0, 1) := by decide +kernel
theorem dX10_cellar_6 : decode cX10_cellar 6 = .ok (.iload_n 2, 1) := by decide +kernel
theorem dX10_cellar_7 : decode cX10_cellar 7 = .ok (.bipush 7, 2) := by decide +kernel
theorem dX10_cellar_9 : decode cX10_cellar 9 = .ok (.invokevirtual 152, 3) := by decide +kernel
theorem dX10_cellar_12 : decode cX10_cellar 12 = .ok (.iload_n 2, 1) := by decide +kernel
theorem dX10_cellar_13 : decode cX10_cellar 13 = .ok (.tableswitch 116 0 6 #[43, 53, 63, 73, 83, 93, 110], 43) := by decide +kernel
theorem dX10_cellar_56 : decode cX10_cellar 56 = .ok (.aload_n 0, 1) := by decide +kernel
theorem dX10_cellar_57 : decode cX10_cellar 57 = .ok (.getfield 26, 3) := by decide +kernel
theorem dX10_cellar_60 : decode cX10_cellar 60 = .ok (.getfield 183, 3) := by decide +kernel
theorem dX10_cellar_63 : decode cX10_cellar 63 = .ok (.iload_n 1, 1) := by decide +kernel
theorem dX10_cellar_64 : decode cX10_cellar 64 = .ok (.iaload, 1) := by decide +kernel
theorem dX10_cellar_65 : decode cX10_cellar 65 = .ok (.ireturn, 1) := by decide +kernel
theorem dX10_cellar_66 : decode cX10_cellar 66 = .ok (.aload_n 0, 1) := by decide +kernel
theorem dX10_cellar_67 : decode cX10_cellar 67 = .ok (.getfield 26, 3) := by decide +kernel
theorem dX10_cellar_70 : decode cX10_cellar 70 = .ok (.getfield 186, 3) := by decide +kernel
theorem dX10_cellar_73 : decode cX10_cellar 73 = .ok (.iload_n 1, 1) := by decide +kernel
theorem dX10_cellar_74 : decode cX10_cellar 74 = .ok (.iaload, 1) := by decide +kernel
theorem dX10_cellar_75 : decode cX10_cellar 75 = .ok (.ireturn, 1) := by decide +kernel
theorem dX10_cellar_76 : decode cX10_cellar 76 = .ok (.aload_n 0, 1) := by decide +kernel
theorem dX10_cellar_77 : decode cX10_cellar 77 = .ok (.getfield 26, 3) := by decide +kernel
theorem dX10_cellar_80 : decode cX10_cellar 80 = .ok (.getfield 189, 3) := by decide +kernel
theorem dX10_cellar_83 : decode cX10_cellar 83 = .ok (.iload_n 1, 1) := by decide +kernel
theorem dX10_cellar_84 : decode cX10_cellar 84 = .ok (.iaload, 1) := by decide +kernel
theorem dX10_cellar_85 : decode cX10_cellar 85 = .ok (.ireturn, 1) := by decide +kernel
theorem dX10_cellar_86 : decode cX10_cellar 86 = .ok (.aload_n 0, 1) := by decide +kernel
theorem dX10_cellar_87 : decode cX10_cellar 87 = .ok (.getfield 26, 3) := by decide +kernel
theorem dX10_cellar_90 : decode cX10_cellar 90 = .ok (.getfield 192, 3) := by decide +kernel
theorem dX10_cellar_93 : decode cX10_cellar 93 = .ok (.iload_n 1, 1) := by decide +kernel
theorem dX10_cellar_94 : decode cX10_cellar 94 = .ok (.iaload, 1) := by decide +kernel
theorem dX10_cellar_95 : decode cX10_cellar 95 = .ok (.ireturn, 1) := by decide +kernel
theorem dX10_cellar_96 : decode cX10_cellar 96 = .ok (.aload_n 0, 1) := by decide +kernel
theorem dX10_cellar_97 : decode cX10_cellar 97 = .ok (.getfield 26, 3) := by decide +kernel
theorem dX10_cellar_100 : decode cX10_cellar 100 = .ok (.getfield 195, 3) := by decide +kernel
theorem dX10_cellar_103 : decode cX10_cellar 103 = .ok (.iload_n 1, 1) := by decide +kernel
theorem dX10_cellar_104 : decode cX10_cellar 104 = .ok (.iaload, 1) := by decide +kernel
theorem dX10_cellar_105 : decode cX10_cellar 105 = .ok (.ireturn, 1) := by decide +kernel
theorem dX10_cellar_106 : decode cX10_cellar 106 = .ok (.aload_n 0, 1) := by decide +kernel
theorem dX10_cellar_107 : decode cX10_cellar 107 = .ok (.getfield 26, 3) := by decide +kernel
theorem dX10_cellar_110 : decode cX10_cellar 110 = .ok (.aload_n 0, 1) := by decide +kernel
theorem dX10_cellar_111 : decode cX10_cellar 111 = .ok (.getfield 26, 3) := by decide +kernel
theorem dX10_cellar_114 : decode cX10_cellar 114 = .ok (.getfield 183, 3) := by decide +kernel
theorem dX10_cellar_117 : decode cX10_cellar 117 = .ok (.iload_n 1, 1) := by decide +kernel
theorem dX10_cellar_118 : decode cX10_cellar 118 = .ok (.iaload, 1) := by decide +kernel
theorem dX10_cellar_119 : decode cX10_cellar 119 = .ok (.invokevirtual 198, 3) := by decide +kernel
theorem dX10_cellar_122 : decode cX10_cellar 122 = .ok (.ireturn, 1) := by decide +kernel
theorem dX10_cellar_123 : decode cX10_cellar 123 = .ok (.aload_n 0, 1) := by decide +kernel
theorem dX10_cellar_124 : decode cX10_cellar 124 = .ok (.iload_n 1, 1) := by decide +kernel
theorem dX10_cellar_125 : decode cX10_cellar 125 = .ok (.invokevirtual 201, 3) := by decide +kernel
theorem dX10_cellar_128 : decode cX10_cellar 128 = .ok (.ireturn, 1) := by decide +kernel
theorem dX10_cellar_129 : decode cX10_cellar 129 = .ok (.aload_n 0, 1) := by decide +kernel
theorem dX10_cellar_130 : decode cX10_cellar 130 = .ok (.iload_n 1, 1) := by decide +kernel
theorem dX10_cellar_131 : decode cX10_cellar 131 = .ok (.invokevirtual 204, 3) := by decide +kernel
theorem dX10_cellar_134 : decode cX10_cellar 134 = .ok (.ireturn, 1) := by decide +kernel
theorem dX10_pinchNow_0 : decode cX10_pinchNow 0 = .ok (.aload_n 0, 1) := by decide +kernel
theorem dX10_pinchNow_1 : decode cX10_pinchNow 1 = .ok (.getfield 26, 3) := by decide +kernel
theorem dX10_pinchNow_4 : decode cX10_pinchNow 4 = .ok (.aload_n 0, 1) := by decide +kernel
theorem dX10_pinchNow_5 : decode cX10_pinchNow 5 = .ok (.getfield 26, 3) := by decide +kernel
theorem dX10_pinchNow_8 : decode cX10_pinchNow 8 = .ok (.getfield 183, 3) := by decide +kernel
theorem dX10_pinchNow_11 : decode cX10_pinchNow 11 = .ok (.iload_n 1, 1) := by decide +kernel
theorem dX10_pinchNow_12 : decode cX10_pinchNow 12 = .ok (.iaload, 1) := by decide +kernel
theorem dX10_pinchNow_13 : decode cX10_pinchNow 13 = .ok (.invokevirtual 198, 3) := by decide +kernel
theorem dX10_pinchNow_16 : decode cX10_pinchNow 16 = .ok (.istore_n 2, 1) := by decide +kernel
theorem dX10_pinchNow_17 : decode cX10_pinchNow 17 = .ok (.iload_n 2, 1) := by decide +kernel
theorem dX10_pinchNow_18 : decode cX10_pinchNow 18 = .ok (.iconst (-1), 1) := by decide +kernel
theorem dX10_pinchNow_19 : decode cX10_pinchNow 19 = .ok (.if_icmp .ne 5, 3) := by decide +kernel
theorem dX10_pinchNow_22 : decode cX10_pinchNow 22 = .ok (.iconst 0, 1) := by decide +kernel
theorem dX10_pinchNow_23 : decode cX10_pinchNow 23 = .ok (.ireturn, 1) := by decide +kernel
theorem dX10_pinchNow_24 : decode cX10_pinchNow 24 = .ok (.aload_n 0, 1) := by decide +kernel
theorem dX10_pinchNow_25 : decode cX10_pinchNow 25 = .ok (.getfield 53, 3) := by decide +kernel
theorem dX10_pinchNow_28 : decode cX10_pinchNow 28 = .ok (.getfield 207, 3) := by decide +kernel
theorem dX10_pinchNow_31 : decode cX10_pinchNow 31 = .ok (.aload_n 0, 1) := by decide +kernel
theorem dX10_pinchNow_32 : decode cX10_pinchNow 32 = .ok (.getfield 26, 3) := by decide +kernel
theorem dX10_pinchNow_35 : decode cX10_pinchNow 35 = .ok (.iload_n 1, 1) := by decide +kernel
theorem dX10_pinchNow_36 : decode cX10_pinchNow 36 = .ok (.iload_n 2, 1) := by decide +kernel
theorem dX10_pinchNow_37 : decode cX10_pinchNow 37 = .ok (.invokevirtual 211, 3) := by decide +kernel
theorem dX10_pinchNow_40 : decode cX10_pinchNow 40 = .ok (.aload_n 0, 1) := by decide +kernel
theorem dX10_pinchNow_41 : decode cX10_pinchNow 41 = .ok (.getfield 36, 3) := by decide +kernel
theorem dX10_pinchNow_44 : decode cX10_pinchNow 44 = .ok (.aload_n 0, 1) := by decide +kernel
theorem dX10_pinchNow_45 : decode cX10_pinchNow 45 = .ok (.getfield 53, 3) := by decide +kernel
theorem dX10_pinchNow_48 : decode cX10_pinchNow 48 = .ok (.getfield 207, 3) := by decide +kernel
theorem dX10_pinchNow_51 : decode cX10_pinchNow 51 = .ok (.invokevirtual 217, 3) := by decide +kernel
theorem dX10_pinchNow_54 : decode cX10_pinchNow 54 = .ok (.ireturn, 1) := by decide +kernel
theorem dX10_setsByNow_0 : decode cX10_setsByNow 0 = .ok (.aload_n 0, 1) := by decide +kernel
theorem dX10_setsByNow_1 : decode cX10_setsByNow 1 = .ok (.getfield 26, 3) := by decide +kernel
theorem dX10_setsByNow_4 : decode cX10_setsByNow 4 = .ok (.aload_n 0, 1) := by decide +kernel
theorem dX10_setsByNow_5 : decode cX10_setsByNow 5 = .ok (.getfield 26, 3) := by decide +kernel
theorem dX10_setsByNow_8 : decode cX10_setsByNow 8 = .ok (.getfield 183, 3) := by decide +kernel
theorem dX10_setsByNow_11 : decode cX10_setsByNow 11 = .ok (.iload_n 1, 1) := by decide +kernel
theorem dX10_setsByNow_12 : decode cX10_setsByNow 12 = .ok (.iaload, 1) := by decide +kernel
theorem dX10_setsByNow_13 : decode cX10_setsByNow 13 = .ok (.invokevirtual 198, 3) := by decide +kernel
theorem dX10_setsByNow_16 : decode cX10_setsByNow 16 = .ok (.istore_n 2, 1) := by decide +kernel
theorem dX10_setsByNow_17 : decode cX10_setsByNow 17 = .ok (.iload_n 2, 1) := by decide +kernel
theorem dX10_setsByNow_18 : decode cX10_setsByNow 18 = .ok (.iconst (-1), 1) := by decide +kernel
theorem dX10_setsByNow_19 : decode cX10_setsByNow 19 = .ok (.if_icmp .ne 5, 3) := by decide +kernel
theorem dX10_setsByNow_22 : decode cX10_setsByNow 22 = .ok (.iconst 0, 1) := by decide +kernel
theorem dX10_setsByNow_23 : decode cX10_setsByNow 23 = .ok (.ireturn, 1) := by decide +kernel
theorem dX10_setsByNow_24 : decode cX10_setsByNow 24 = .ok (.aload_n 0, 1) := by decide +kernel
theorem dX10_setsByNow_25 : decode cX10_setsByNow 25 = .ok (.getfield 53, 3) := by decide +kernel
theorem dX10_setsByNow_28 : decode cX10_setsByNow 28 = .ok (.getfield 207, 3) := by decide +kernel
theorem dX10_setsByNow_31 : decode cX10_setsByNow 31 = .ok (.aload_n 0, 1) := by decide +kernel
theorem dX10_setsByNow_32 : decode cX10_setsByNow 32 = .ok (.getfield 26, 3) := by decide +kernel
theorem dX10_setsByNow_35 : decode cX10_setsByNow 35 = .ok (.iload_n 1, 1) := by decide +kernel
theorem dX10_setsByNow_36 : decode cX10_setsByNow 36 = .ok (.iload_n 2, 1) := by decide +kernel
theorem dX10_setsByNow_37 : decode cX10_setsByNow 37 = .ok (.invokevirtual 211, 3) := by decide +kernel
theorem dX10_setsByNow_40 : decode cX10_setsByNow 40 = .ok (.aload_n 0, 1) := by decide +kernel
theorem dX10_setsByNow_41 : decode cX10_setsByNow 41 = .ok (.getfield 36, 3) := by decide +kernel
theorem dX10_setsByNow_44 : decode cX10_setsByNow 44 = .ok (.aload_n 0, 1) := by decide +kernel
theorem dX10_setsByNow_45 : decode cX10_setsByNow 45 = .ok (.getfield 53, 3) := by decide +kernel
theorem dX10_setsByNow_48 : decode cX10_setsByNow 48 = .ok (.getfield 207, 3) := by decide +kernel
theorem dX10_setsByNow_51 : decode cX10_setsByNow 51 = .ok (.invokevirtual 221, 3) := by decide +kernel
theorem dX10_setsByNow_54 : decode cX10_setsByNow 54 = .ok (.ireturn, 1) := by decide +kernel
theorem dX10_seat_0 : decode cX10_seat 0 = .ok (.aload_n 0, 1) := by decide +kernel
theorem dX10_seat_1 : decode cX10_seat 1 = .ok (.iload_n 1, 1) := by decide +kernel
theorem dX10_seat_2 : decode cX10_seat 2 = .ok (.invokevirtual 224, 3) := by decide +kernel
theorem dX10_seat_5 : decode cX10_seat 5 = .ok (.aload_n 0, 1) := by decide +kernel
theorem dX10_seat_6 : decode cX10_seat 6 = .ok (.getfield 26, 3) := by decide +kernel
theorem dX10_seat_9 : decode cX10_seat 9 = .ok (.iload_n 1, 1) := by decide +kernel
theorem dX10_seat_10 : decode cX10_seat 10 = .ok (.invokevirtual 198, 3) := by decide +kernel
theorem dX10_seat_13 : decode cX10_seat 13 = .ok (.ireturn, 1) := by decide +kernel
theorem dX10_pass_0 : decode cX10_pass 0 = .ok (.aload_n 0, 1) := by decide +kernel
theorem dX10_pass_1 : decode cX10_pass 1 = .ok (.iload_n 1, 1) := by decide +kernel
theorem dX10_pass_2 : decode cX10_pass 2 = .ok (.invokevirtual 180, 3) := by decide +kernel
theorem dX10_pass_5 : decode cX10_pass 5 = .ok (.aload_n 0, 1) := by decide +kernel
theorem dX10_pass_6 : decode cX10_pass 6 = .ok (.iload_n 2, 1) := by decide +kernel
theorem dX10_pass_7 : decode cX10_pass 7 = .ok (.invokevirtual 224, 3) := by decide +kernel
theorem dX10_pass_10 : decode cX10_pass 10 = .ok (.aload_n 0, 1) := by decide +kernel
theorem dX10_pass_11 : decode cX10_pass 11 = .ok (.invokevirtual 227, 3) := by decide +kernel
theorem dX10_pass_14 : decode cX10_pass 14 = .ok (.aload_n 0, 1) := by decide +kernel
theorem dX10_pass_15 : decode cX10_pass 15 = .ok (.getfield 26, 3) := by decide +kernel
theorem dX10_pass_18 : decode cX10_pass 18 = .ok (.getfield 183, 3) := by decide +kernel
theorem dX10_pass_21 : decode cX10_pass 21 = .ok (.iload_n 1, 1) := by decide +kernel
theorem dX10_pass_22 : decode cX10_pass 22 = .ok (.iaload, 1) := by decide +kernel
theorem dX10_pass_23 : decode cX10_pass 23 = .ok (.istore_n 3, 1) := by decide +kernel
theorem dX10_pass_24 : decode cX10_pass 24 = .ok (.aload_n 0, 1) := by decide +kernel
theorem dX10_pass_25 : decode cX10_pass 25 = .ok (.getfield 26, 3) := by decide +kernel
theorem dX10_pass_28 : decode cX10_pass 28 = .ok (.getfield 183, 3) := by decide +kernel
theorem dX10_pass_31 : decode cX10_pass 31 = .ok (.iload_n 1, 1) := by decide +kernel
theorem dX10_pass_32 : decode cX10_pass 32 = .ok (.iload_n 2, 1) := by decide +kernel
theorem dX10_pass_33 : decode cX10_pass 33 = .ok (.iastore, 1) := by decide +kernel
theorem dX10_pass_34 : decode cX10_pass 34 = .ok (.iload_n 3, 1) := by decide +kernel
theorem dX10_pass_35 : decode cX10_pass 35 = .ok (.ireturn, 1) := by decide +kernel
theorem dX10_knock_0 : decode cX10_knock 0 = .ok (.aload_n 0, 1) := by decide +kernel
theorem dX10_knock_1 : decode cX10_knock 1 = .ok (.iload_n 1, 1) := by decide +kernel
theorem dX10_knock_2 : decode cX10_knock 2 = .ok (.invokevirtual 180, 3) := by decide +kernel
theorem dX10_knock_5 : decode cX10_knock 5 = .ok (.aload_n 0, 1) := by decide +kernel
theorem dX10_knock_6 : decode cX10_knock 6 = .ok (.invokevirtual 227, 3) := by decide +kernel
theorem dX10_knock_9 : decode cX10_knock 9 = .ok (.aload_n 0, 1) := by decide +kernel
theorem dX10_knock_10 : decode cX10_knock 10 = .ok (.getfield 26, 3) := by decide +kernel
theorem dX10_knock_13 : decode cX10_knock 13 = .ok (.getfield 192, 3) := by decide +kernel
theorem dX10_knock_16 : decode cX10_knock 16 = .ok (.iload_n 1, 1) := by decide +kernel
theorem dX10_knock_17 : decode cX10_knock 17 = .ok (.iaload, 1) := by decide +kernel
theorem dX10_knock_18 : decode cX10_knock 18 = .ok (.istore_n 2, 1) := by decide +kernel
theorem dX10_knock_19 : decode cX10_knock 19 = .ok (.aload_n 0, 1) := by decide +kernel
theorem dX10_knock_20 : decode cX10_knock 20 = .ok (.getfield 26, 3) := by decide +kernel
theorem dX10_knock_23 : decode cX10_knock 23 = .ok (.getfield 192, 3) := by decide +kernel
theorem dX10_knock_26 : decode cX10_knock 26 = .ok (.iload_n 1, 1) := by decide +kernel
theorem dX10_knock_27 : decode cX10_knock 27 = .ok (.iconst 0, 1) := by decide +kernel
theorem dX10_knock_28 : decode cX10_knock 28 = .ok (.iastore, 1) := by decide +kernel
theorem dX10_knock_29 : decode cX10_knock 29 = .ok (.iload_n 2, 1) := by decide +kernel
theorem dX10_knock_30 : decode cX10_knock 30 = .ok (.ireturn, 1) := by decide +kernel
theorem dX10_fill_0 : decode cX10_fill 0 = .ok (.aload_n 0, 1) := by decide +kernel
theorem dX10_fill_1 : decode cX10_fill 1 = .ok (.iload_n 1, 1) := by decide +kernel
theorem dX10_fill_2 : decode cX10_fill 2 = .ok (.invokevirtual 180, 3) := by decide +kernel
theorem dX10_fill_5 : decode cX10_fill 5 = .ok (.aload_n 0, 1) := by decide +kernel
theorem dX10_fill_6 : decode cX10_fill 6 = .ok (.iload_n 2, 1) := by decide +kernel
theorem dX10_fill_7 : decode cX10_fill 7 = .ok (.iconst 1, 1) := by decide +kernel
theorem dX10_fill_8 : decode cX10_fill 8 = .ok (.sipush 200, 3) := by decide +kernel
theorem dX10_fill_11 : decode cX10_fill 11 = .ok (.invokevirtual 230, 3) := by decide +kernel
theorem dX10_fill_14 : decode cX10_fill 14 = .ok (.aload_n 0, 1) := by decide +kernel
theorem dX10_fill_15 : decode cX10_fill 15 = .ok (.invokevirtual 227, 3) := by decide +kernel
theorem dX10_fill_18 : decode cX10_fill 18 = .ok (.aload_n 0, 1) := by decide +kernel
theorem dX10_fill_19 : decode cX10_fill 19 = .ok (.getfield 26, 3) := by decide +kernel
theorem dX10_fill_22 : decode cX10_fill 22 = .ok (.getfield 189, 3) := by decide +kernel
theorem dX10_fill_25 : decode cX10_fill 25 = .ok (.iload_n 1, 1) := by decide +kernel
theorem dX10_fill_26 : decode cX10_fill 26 = .ok (.sipush 200, 3) := by decide +kernel
theorem dX10_fill_29 : decode cX10_fill 29 = .ok (.aload_n 0, 1) := by decide +kernel
theorem dX10_fill_30 : decode cX10_fill 30 = .ok (.getfield 26, 3) := by decide +kernel
theorem dX10_fill_33 : decode cX10_fill 33 = .ok (.getfield 189, 3) := by decide +kernel
theorem dX10_fill_36 : decode cX10_fill 36 = .ok (.iload_n 1, 1) := by decide +kernel
theorem dX10_fill_37 : decode cX10_fill 37 = .ok (.iaload, 1) := by decide +kernel
theorem dX10_fill_38 : decode cX10_fill 38 = .ok (.iload_n 2, 1) := by decide +kernel
theorem dX10_fill_39 : decode cX10_fill 39 = .ok (.iadd, 1) := by decide +kernel
theorem dX10_fill_40 : decode cX10_fill 40 = .ok (.invokestatic 234, 3) := by decide +kernel
theorem dX10_fill_43 : decode cX10_fill 43 = .ok (.iastore, 1) := by decide +kernel
theorem dX10_fill_44 : decode cX10_fill 44 = .ok (.aload_n 0, 1) := by decide +kernel
theorem dX10_fill_45 : decode cX10_fill 45 = .ok (.getfield 26, 3) := by decide +kernel
theorem dX10_fill_48 : decode cX10_fill 48 = .ok (.getfield 189, 3) := by decide +kernel
theorem dX10_fill_51 : decode cX10_fill 51 = .ok (.iload_n 1, 1) := by decide +kernel
theorem dX10_fill_52 : decode cX10_fill 52 = .ok (.iaload, 1) := by decide +kernel
theorem dX10_fill_53 : decode cX10_fill 53 = .ok (.ireturn, 1) := by decide +kernel
theorem dX10_change_0 : decode cX10_change 0 = .ok (.aload_n 0, 1) := by decide +kernel
theorem dX10_change_1 : decode cX10_change 1 = .ok (.iload_n 1, 1) := by decide +kernel
theorem dX10_change_2 : decode cX10_change 2 = .ok (.invokevirtual 224, 3) := by decide +kernel
theorem dX10_change_5 : decode cX10_change 5 = .ok (.aload_n 0, 1) := by decide +kernel
theorem dX10_change_6 : decode cX10_change 6 = .ok (.iload_n 2, 1) := by decide +kernel
theorem dX10_change_7 : decode cX10_change 7 = .ok (.invokevirtual 224, 3) := by decide +kernel
theorem dX10_change_10 : decode cX10_change 10 = .ok (.iload_n 1, 1) := by decide +kernel
theorem dX10_change_11 : decode cX10_change 11 = .ok (.iload_n 2, 1) := by decide +kernel
theorem dX10_change_12 : decode cX10_change 12 = .ok (.if_icmp .ne 13, 3) := by decide +kernel
theorem dX10_change_15 : decode cX10_change 15 = .ok (.new 123, 3) := by decide +kernel
theorem dX10_change_18 : decode cX10_change 18 = .ok (.dup, 1) := by decide +kernel
theorem dX10_change_19 : decode cX10_change 19 = .ok (.ldc 239, 2) := by decide +kernel
theorem dX10_change_21 : decode cX10_change 21 = .ok (.invokespecial 127, 3) := by decide +kernel
theorem dX10_change_24 : decode cX10_change 24 = .ok (.athrow, 1) := by decide +kernel
theorem dX10_change_25 : decode cX10_change 25 = .ok (.aload_n 0, 1) := by decide +kernel
theorem dX10_change_26 : decode cX10_change 26 = .ok (.invokevirtual 227, 3) := by decide +kernel
theorem dX10_change_29 : decode cX10_change 29 = .ok (.aload_n 0, 1) := by decide +kernel
theorem dX10_change_30 : decode cX10_change 30 = .ok (.getfield 26, 3) := by decide +kernel
theorem dX10_change_33 : decode cX10_change 33 = .ok (.iload_n 1, 1) := by decide +kernel
theorem dX10_change_34 : decode cX10_change 34 = .ok (.iload_n 2, 1) := by decide +kernel
theorem dX10_change_35 : decode cX10_change 35 = .ok (.invokevirtual 241, 3) := by decide +kernel
theorem dX10_change_38 : decode cX10_change 38 = .ok (.aload_n 0, 1) := by decide +kernel
theorem dX10_change_39 : decode cX10_change 39 = .ok (.getfield 26, 3) := by decide +kernel
theorem dX10_change_42 : decode cX10_change 42 = .ok (.iload_n 1, 1) := by decide +kernel
theorem dX10_change_43 : decode cX10_change 43 = .ok (.invokevirtual 198, 3) := by decide +kernel
theorem dX10_change_46 : decode cX10_change 46 = .ok (.ireturn, 1) := by decide +kernel
theorem dX10_diet_0 : decode cX10_diet 0 = .ok (.aload_n 0, 1) := by decide +kernel
theorem dX10_diet_1 : decode cX10_diet 1 = .ok (.iload_n 1, 1) := by decide +kernel
theorem dX10_diet_2 : decode cX10_diet 2 = .ok (.invokevirtual 149, 3) := by decide +kernel
theorem dX10_diet_5 : decode cX10_diet 5 = .ok (.aload_n 0, 1) := by decide +kernel
theorem dX10_diet_6 : decode cX10_diet 6 = .ok (.invokevirtual 227, 3) := by decide +kernel
theorem dX10_diet_9 : decode cX10_diet 9 = .ok (.aload_n 0, 1) := by decide +kernel
theorem dX10_diet_10 : decode cX10_diet 10 = .ok (.getfield 26, 3) := by decide +kernel
theorem dX10_diet_13 : decode cX10_diet 13 = .ok (.iload_n 1, 1) := by decide +kernel
theorem dX10_diet_14 : decode cX10_diet 14 = .ok (.invokevirtual 163, 3) := by decide +kernel
theorem dX10_diet_17 : decode cX10_diet 17 = .ok (.istore_n 3, 1) := by decide +kernel
theorem dX10_diet_18 : decode cX10_diet 18 = .ok (.aload_n 0, 1) := by decide +kernel
theorem dX10_diet_19 : decode cX10_diet 19 = .ok (.getfield 26, 3) := by decide +kernel
theorem dX10_diet_22 : decode cX10_diet 22 = .ok (.iload_n 2, 1) := by decide +kernel
theorem dX10_diet_23 : decode cX10_diet 23 = .ok (.ifCond .eq 17, 3) := by decide +kernel
theorem dX10_diet_26 : decode cX10_diet 26 = .ok (.aload_n 0, 1) := by decide +kernel
theorem dX10_diet_27 : decode cX10_diet 27 = .ok (.getfield 26, 3) := by decide +kernel
theorem dX10_diet_30 : decode cX10_diet 30 = .ok (.getfield 244, 3) := by decide +kernel
theorem dX10_diet_33 : decode cX10_diet 33 = .ok (.iconst 1, 1) := by decide +kernel
theorem dX10_diet_34 : decode cX10_diet 34 = .ok (.iload_n 1, 1) := by decide +kernel
theorem dX10_diet_35 : decode cX10_diet 35 = .ok (.ishl, 1) := by decide +kernel
theorem dX10_diet_36 : decode cX10_diet 36 = .ok (.ior, 1) := by decide +kernel
theorem dX10_diet_37 : decode cX10_diet 37 = .ok (.goto 16, 3) := by decide +kernel
theorem dX10_diet_40 : decode cX10_diet 40 = .ok (.aload_n 0, 1) := by decide +kernel
theorem dX10_diet_41 : decode cX10_diet 41 = .ok (.getfield 26, 3) := by decide +kernel
theorem dX10_diet_44 : decode cX10_diet 44 = .ok (.getfield 244, 3) := by decide +kernel
theorem dX10_diet_47 : decode cX10_diet 47 = .ok (.iconst 1, 1) := by decide +kernel
theorem dX10_diet_48 : decode cX10_diet 48 = .ok (.iload_n 1, 1) := by decide +kernel
theorem dX10_diet_49 : decode cX10_diet 49 = .ok (.ishl, 1) := by decide +kernel
theorem dX10_diet_50 : decode cX10_diet 50 = .ok (.iconst (-1), 1) := by decide +kernel
theorem dX10_diet_51 : decode cX10_diet 51 = .ok (.ixor, 1) := by decide +kernel
theorem dX10_diet_52 : decode cX10_diet 52 = .ok (.iand, 1) := by decide +kernel
theorem dX10_diet_53 : decode cX10_diet 53 = .ok (.putfield 244, 3) := by decide +kernel
theorem dX10_diet_56 : decode cX10_diet 56 = .ok (.iload_n 3, 1) := by decide +kernel
theorem dX10_diet_57 : decode cX10_diet 57 = .ok (.iload_n 2, 1) := by decide +kernel
theorem dX10_diet_58 : decode cX10_diet 58 = .ok (.if_icmp .eq 7, 3) := by decide +kernel
theorem dX10_diet_61 : decode cX10_diet 61 = .ok (.iconst 1, 1) := by decide +kernel
theorem dX10_diet_62 : decode cX10_diet 62 = .ok (.goto 4, 3) := by decide +kernel
theorem dX10_diet_65 : decode cX10_diet 65 = .ok (.iconst 0, 1) := by decide +kernel
theorem dX10_diet_66 : decode cX10_diet 66 = .ok (.ireturn, 1) := by decide +kernel
theorem dX10_sweet_0 : decode cX10_sweet 0 = .ok (.iload_n 1, 1) := by decide +kernel
theorem dX10_sweet_1 : decode cX10_sweet 1 = .ok (.ifCond .lt 9, 3) := by decide +kernel
theorem dX10_sweet_4 : decode cX10_sweet 4 = .ok (.iload_n 1, 1) := by decide +kernel
theorem dX10_sweet_5 : decode cX10_sweet 5 = .ok (.bipush 12, 2) := by decide +kernel
theorem dX10_sweet_7 : decode cX10_sweet 7 = .ok (.if_icmp .lt 13, 3) := by decide +kernel
theorem dX10_sweet_10 : decode cX10_sweet 10 = .ok (.new 247, 3) := by decide +kernel
theorem dX10_sweet_13 : decode cX10_sweet 13 = .ok (.dup, 1) := by decide +kernel
theorem dX10_sweet_14 : decode cX10_sweet 14 = .ok (.ldc 249, 2) := by decide +kernel
theorem dX10_sweet_16 : decode cX10_sweet 16 = .ok (.invokespecial 251, 3) := by decide +kernel
theorem dX10_sweet_19 : decode cX10_sweet 19 = .ok (.athrow, 1) := by decide +kernel
theorem dX10_sweet_20 : decode cX10_sweet 20 = .ok (.aload_n 0, 1) := by decide +kernel
theorem dX10_sweet_21 : decode cX10_sweet 21 = .ok (.invokevirtual 227, 3) := by decide +kernel
theorem dX10_sweet_24 : decode cX10_sweet 24 = .ok (.aload_n 0, 1) := by decide +kernel
theorem dX10_sweet_25 : decode cX10_sweet 25 = .ok (.getfield 26, 3) := by decide +kernel
theorem dX10_sweet_28 : decode cX10_sweet 28 = .ok (.getfield 252, 3) := by decide +kernel
theorem dX10_sweet_31 : decode cX10_sweet 31 = .ok (.istore_n 3, 1) := by decide +kernel
theorem dX10_sweet_32 : decode cX10_sweet 32 = .ok (.aload_n 0, 1) := by decide +kernel
theorem dX10_sweet_33 : decode cX10_sweet 33 = .ok (.getfield 26, 3) := by decide +kernel
theorem dX10_sweet_36 : decode cX10_sweet 36 = .ok (.iload_n 1, 1) := by decide +kernel
theorem dX10_sweet_37 : decode cX10_sweet 37 = .ok (.iload_n 2, 1) := by decide +kernel
theorem dX10_sweet_38 : decode cX10_sweet 38 = .ok (.invokevirtual 255, 3) := by decide +kernel
theorem dX10_sweet_41 : decode cX10_sweet 41 = .ok (.aload_n 0, 1) := by decide +kernel
theorem dX10_sweet_42 : decode cX10_sweet 42 = .ok (.getfield 26, 3) := by decide +kernel
theorem dX10_sweet_45 : decode cX10_sweet 45 = .ok (.getfield 252, 3) := by decide +kernel
theorem dX10_sweet_48 : decode cX10_sweet 48 = .ok (.iload_n 3, 1) := by decide +kernel
theorem dX10_sweet_49 : decode cX10_sweet 49 = .ok (.if_icmp .eq 7, 3) := by decide +kernel
theorem dX10_sweet_52 : decode cX10_sweet 52 = .ok (.iconst 1, 1) := by decide +kernel
theorem dX10_sweet_53 : decode cX10_sweet 53 = .ok (.goto 4, 3) := by decide +kernel
theorem dX10_sweet_56 : decode cX10_sweet 56 = .ok (.iconst 0, 1) := by decide +kernel
theorem dX10_sweet_57 : decode cX10_sweet 57 = .ok (.ireturn, 1) := by decide +kernel
theorem dX10_courses_0 : decode cX10_courses 0 = .ok (.aload_n 0, 1) := by decide +kernel
theorem dX10_courses_1 : decode cX10_courses 1 = .ok (.iload_n 1, 1) := by decide +kernel
theorem dX10_courses_2 : decode cX10_courses 2 = .ok (.iconst 1, 1) := by decide +kernel
theorem dX10_courses_3 : decode cX10_courses 3 = .ok (.bipush 100, 2) := by decide +kernel
theorem dX10_courses_5 : decode cX10_courses 5 = .ok (.invokevirtual 230, 3) := by decide +kernel
theorem dX10_courses_8 : decode cX10_courses 8 = .ok (.aload_n 0, 1) := by decide +kernel
theorem dX10_courses_9 : decode cX10_courses 9 = .ok (.invokevirtual 227, 3) := by decide +kernel
theorem dX10_courses_12 : decode cX10_courses 12 = .ok (.aload_n 0, 1) := by decide +kernel
theorem dX10_courses_13 : decode cX10_courses 13 = .ok (.getfield 53, 3) := by decide +kernel
theorem dX10_courses_16 : decode cX10_courses 16 = .ok (.iconst 0, 1) := by decide +kernel
theorem dX10_courses_17 : decode cX10_courses 17 = .ok (.invokevirtual 259, 3) := by decide +kernel
theorem dX10_courses_20 : decode cX10_courses 20 = .ok (.iconst 0, 1) := by decide +kernel
theorem dX10_courses_21 : decode cX10_courses 21 = .ok (.istore_n 2, 1) := by decide +kernel
theorem dX10_courses_22 : decode cX10_courses 22 = .ok (.iconst 0, 1) := by decide +kernel
theorem dX10_courses_23 : decode cX10_courses 23 = .ok (.istore_n 3, 1) := by decide +kernel
theorem dX10_courses_24 : decode cX10_courses 24 = .ok (.iload_n 3, 1) := by decide +kernel
theorem dX10_courses_25 : decode cX10_courses 25 = .ok (.iload_n 1, 1) := by decide +kernel
theorem dX10_courses_26 : decode cX10_courses 26 = .ok (.if_icmp .ge 31, 3) := by decide +kernel
theorem dX10_courses_29 : decode cX10_courses 29 = .ok (.iload_n 2, 1) := by decide +kernel
theorem dX10_courses_30 : decode cX10_courses 30 = .ok (.aload_n 0, 1) := by decide +kernel
theorem dX10_courses_31 : decode cX10_courses 31 = .ok (.getfield 53, 3) := by decide +kernel
theorem dX10_courses_34 : decode cX10_courses 34 = .ok (.aload_n 0, 1) := by decide +kernel
theorem dX10_courses_35 : decode cX10_courses 35 = .ok (.getfield 26, 3) := by decide +kernel
theorem dX10_courses_38 : decode cX10_courses 38 = .ok (.aload_n 0, 1) := by decide +kernel
theorem dX10_courses_39 : decode cX10_courses 39 = .ok (.getfield 36, 3) := by decide +kernel
theorem dX10_courses_42 : decode cX10_courses 42 = .ok (.aload_n 0, 1) := by decide +kernel
theorem dX10_courses_43 : decode cX10_courses 43 = .ok (.getfield 46, 3) := by decide +kernel
theorem dX10_courses_46 : decode cX10_courses 46 = .ok (.invokevirtual 262, 3) := by decide +kernel
theorem dX10_courses_49 : decode cX10_courses 49 = .ok (.iadd, 1) := by decide +kernel
theorem dX10_courses_50 : decode cX10_courses 50 = .ok (.istore_n 2, 1) := by decide +kernel
theorem dX10_courses_51 : decode cX10_courses 51 = .ok (.iinc 3 1, 3) := by decide +kernel
theorem dX10_courses_54 : decode cX10_courses 54 = .ok (.goto (-30), 3) := by decide +kernel
theorem dX10_courses_57 : decode cX10_courses 57 = .ok (.iload_n 2, 1) := by decide +kernel
theorem dX10_courses_58 : decode cX10_courses 58 = .ok (.ireturn, 1) := by decide +kernel
theorem dX10_frees_0 : decode cX10_frees 0 = .ok (.aload_n 0, 1) := by decide +kernel
theorem dX10_frees_1 : decode cX10_frees 1 = .ok (.iload_n 1, 1) := by decide +kernel
theorem dX10_frees_2 : decode cX10_frees 2 = .ok (.invokevirtual 180, 3) := by decide +kernel
theorem dX10_frees_5 : decode cX10_frees 5 = .ok (.aload_n 0, 1) := by decide +kernel
theorem dX10_frees_6 : decode cX10_frees 6 = .ok (.invokevirtual 266, 3) := by decide +kernel
theorem dX10_frees_9 : decode cX10_frees 9 = .ok (.aload_n 0, 1) := by decide +kernel
theorem dX10_frees_10 : decode cX10_frees 10 = .ok (.iconst 1, 1) := by decide +kernel
theorem dX10_frees_11 : decode cX10_frees 11 = .ok (.iload_n 1, 1) := by decide +kernel
theorem dX10_frees_12 : decode cX10_frees 12 = .ok (.ishl, 1) := by decide +kernel
theorem dX10_frees_13 : decode cX10_frees 13 = .ok (.sipush 200, 3) := by decide +kernel
theorem dX10_frees_16 : decode cX10_frees 16 = .ok (.invokevirtual 269, 3) := by decide +kernel
theorem dX10_frees_19 : decode cX10_frees 19 = .ok (.ireturn, 1) := by decide +kernel
theorem dX10_all_0 : decode cX10_all 0 = .ok (.aload_n 0, 1) := by decide +kernel
theorem dX10_all_1 : decode cX10_all 1 = .ok (.invokevirtual 266, 3) := by decide +kernel
theorem dX10_all_4 : decode cX10_all 4 = .ok (.aload_n 0, 1) := by decide +kernel
theorem dX10_all_5 : decode cX10_all 5 = .ok (.aload_n 0, 1) := by decide +kernel
theorem dX10_all_6 : decode cX10_all 6 = .ok (.getfield 30, 3) := by decide +kernel
theorem dX10_all_9 : decode cX10_all 9 = .ok (.invokevirtual 272, 3) := by decide +kernel
theorem dX10_all_12 : decode cX10_all 12 = .ok (.sipush 200, 3) := by decide +kernel
theorem dX10_all_15 : decode cX10_all 15 = .ok (.invokevirtual 269, 3) := by decide +kernel
theorem dX10_all_18 : decode cX10_all 18 = .ok (.ireturn, 1) := by decide +kernel
theorem dX10_held_0 : decode cX10_held 0 = .ok (.aload_n 0, 1) := by decide +kernel
theorem dX10_held_1 : decode cX10_held 1 = .ok (.getfield 26, 3) := by decide +kernel
theorem dX10_held_4 : decode cX10_held 4 = .ok (.invokevirtual 272, 3) := by decide +kernel
theorem dX10_held_7 : decode cX10_held 7 = .ok (.ireturn, 1) := by decide +kernel
theorem dX10_takes_0 : decode cX10_takes 0 = .ok (.aload_n 0, 1) := by decide +kernel
theorem dX10_takes_1 : decode cX10_takes 1 = .ok (.iload_n 1, 1) := by decide +kernel
theorem dX10_takes_2 : decode cX10_takes 2 = .ok (.invokevirtual 149, 3) := by decide +kernel
theorem dX10_takes_5 : decode cX10_takes 5 = .ok (.aload_n 0, 1) := by decide +kernel
theorem dX10_takes_6 : decode cX10_takes 6 = .ok (.iload_n 2, 1) := by decide +kernel
theorem dX10_takes_7 : decode cX10_takes 7 = .ok (.iconst 0, 1) := by decide +kernel
theorem dX10_takes_8 : decode cX10_takes 8 = .ok (.sipush 200, 3) := by decide +kernel
theorem dX10_takes_11 : decode cX10_takes 11 = .ok (.invokevirtual 230, 3) := by decide +kernel
theorem dX10_takes_14 : decode cX10_takes 14 = .ok (.aload_n 0, 1) := by decide +kernel
theorem dX10_takes_15 : decode cX10_takes 15 = .ok (.iload_n 2, 1) := by decide +kernel
theorem dX10_takes_16 : decode cX10_takes 16 = .ok (.invokevirtual 275, 3) := by decide +kernel
theorem dX10_takes_19 : decode cX10_takes 19 = .ok (.aload_n 0, 1) := by decide +kernel
theorem dX10_takes_20 : decode cX10_takes 20 = .ok (.getfield 53, 3) := by decide +kernel
theorem dX10_takes_23 : decode cX10_takes 23 = .ok (.getfield 278, 3) := by decide +kernel
theorem dX10_takes_26 : decode cX10_takes 26 = .ok (.iload_n 1, 1) := by decide +kernel
theorem dX10_takes_27 : decode cX10_takes 27 = .ok (.iaload, 1) := by decide +kernel
theorem dX10_takes_28 : decode cX10_takes 28 = .ok (.ireturn, 1) := by decide +kernel
theorem dX10_keenest_0 : decode cX10_keenest 0 = .ok (.aload_n 0, 1) := by decide +kernel
theorem dX10_keenest_1 : decode cX10_keenest 1 = .ok (.iload_n 1, 1) := by decide +kernel
theorem dX10_keenest_2 : decode cX10_keenest 2 = .ok (.iconst 0, 1) := by decide +kernel
theorem dX10_keenest_3 : decode cX10_keenest 3 = .ok (.sipush 200, 3) := by decide +kernel
theorem dX10_keenest_6 : decode cX10_keenest 6 = .ok (.invokevirtual 230, 3) := by decide +kernel
theorem dX10_keenest_9 : decode cX10_keenest 9 = .ok (.aload_n 0, 1) := by decide +kernel
theorem dX10_keenest_10 : decode cX10_keenest 10 = .ok (.iload_n 1, 1) := by decide +kernel
theorem dX10_keenest_11 : decode cX10_keenest 11 = .ok (.invokevirtual 275, 3) := by decide +kernel
theorem dX10_keenest_14 : decode cX10_keenest 14 = .ok (.iconst (-1), 1) := by decide +kernel
theorem dX10_keenest_15 : decode cX10_keenest 15 = .ok (.istore_n 2, 1) := by decide +kernel
theorem dX10_keenest_16 : decode cX10_keenest 16 = .ok (.iconst (-1), 1) := by decide +kernel
theorem dX10_keenest_17 : decode cX10_keenest 17 = .ok (.istore_n 3, 1) := by decide +kernel
theorem dX10_keenest_18 : decode cX10_keenest 18 = .ok (.iconst 0, 1) := by decide +kernel
theorem dX10_keenest_19 : decode cX10_keenest 19 = .ok (.istore 4, 2) := by decide +kernel
theorem dX10_keenest_21 : decode cX10_keenest 21 = .ok (.iload 4, 2) := by decide +kernel
theorem dX10_keenest_23 : decode cX10_keenest 23 = .ok (.aload_n 0, 1) := by decide +kernel
theorem dX10_keenest_24 : decode cX10_keenest 24 = .ok (.getfield 26, 3) := by decide +kernel
theorem dX10_keenest_27 : decode cX10_keenest 27 = .ok (.getfield 281, 3) := by decide +kernel
theorem dX10_keenest_30 : decode cX10_keenest 30 = .ok (.if_icmp .ge 37, 3) := by decide +kernel
theorem dX10_keenest_33 : decode cX10_keenest 33 = .ok (.aload_n 0, 1) := by decide +kernel
theorem dX10_keenest_34 : decode cX10_keenest 34 = .ok (.getfield 53, 3) := by decide +kernel
theorem dX10_keenest_37 : decode cX10_keenest 37 = .ok (.getfield 278, 3) := by decide +kernel
theorem dX10_keenest_40 : decode cX10_keenest 40 = .ok (.iload 4, 2) := by decide +kernel
theorem dX10_keenest_42 : decode cX10_keenest 42 = .ok (.iaload, 1) := by decide +kernel
theorem dX10_keenest_43 : decode cX10_keenest 43 = .ok (.iload_n 3, 1) := by decide +kernel
theorem dX10_keenest_44 : decode cX10_keenest 44 = .ok (.if_icmp .le 17, 3) := by decide +kernel
theorem dX10_keenest_47 : decode cX10_keenest 47 = .ok (.aload_n 0, 1) := by decide +kernel
theorem dX10_keenest_48 : decode cX10_keenest 48 = .ok (.getfield 53, 3) := by decide +kernel
theorem dX10_keenest_51 : decode cX10_keenest 51 = .ok (.getfield 278, 3) := by decide +kernel
theorem dX10_keenest_54 : decode cX10_keenest 54 = .ok (.iload 4, 2) := by decide +kernel
theorem dX10_keenest_56 : decode cX10_keenest 56 = .ok (.iaload, 1) := by decide +kernel
theorem dX10_keenest_57 : decode cX10_keenest 57 = .ok (.istore_n 3, 1) := by decide +kernel
theorem dX10_keenest_58 : decode cX10_keenest 58 = .ok (.iload 4, 2) := by decide +kernel
theorem dX10_keenest_60 : decode cX10_keenest 60 = .ok (.istore_n 2, 1) := by decide +kernel
theorem dX10_keenest_61 : decode cX10_keenest 61 = .ok (.iinc 4 1, 3) := by decide +kernel
theorem dX10_keenest_64 : decode cX10_keenest 64 = .ok (.goto (-43), 3) := by decide +kernel
theorem dX10_keenest_67 : decode cX10_keenest 67 = .ok (.iload_n 2, 1) := by decide +kernel
theorem dX10_keenest_68 : decode cX10_keenest 68 = .ok (.ireturn, 1) := by decide +kernel
theorem dX10_goes_0 : decode cX10_goes 0 = .ok (.aload_n 0, 1) := by decide +kernel
theorem dX10_goes_1 : decode cX10_goes 1 = .ok (.iload_n 1, 1) := by decide +kernel
theorem dX10_goes_2 : decode cX10_goes 2 = .ok (.invokevirtual 180, 3) := by decide +kernel
theorem dX10_goes_5 : decode cX10_goes 5 = .ok (.aload_n 0, 1) := by decide +kernel
theorem dX10_goes_6 : decode cX10_goes 6 = .ok (.iload_n 2, 1) := by decide +kernel
theorem dX10_goes_7 : decode cX10_goes 7 = .ok (.iconst 0, 1) := by decide +kernel
theorem dX10_goes_8 : decode cX10_goes 8 = .ok (.sipush 200, 3) := by decide +kernel
theorem dX10_goes_11 : decode cX10_goes 11 = .ok (.invokevirtual 230, 3) := by decide +kernel
theorem dX10_goes_14 : decode cX10_goes 14 = .ok (.aload_n 0, 1) := by decide +kernel
theorem dX10_goes_15 : decode cX10_goes 15 = .ok (.getfield 26, 3) := by decide +kernel
theorem dX10_goes_18 : decode cX10_goes 18 = .ok (.getfield 183, 3) := by decide +kernel
theorem dX10_goes_21 : decode cX10_goes 21 = .ok (.iload_n 1, 1) := by decide +kernel
theorem dX10_goes_22 : decode cX10_goes 22 = .ok (.iaload, 1) := by decide +kernel
theorem dX10_goes_23 : decode cX10_goes 23 = .ok (.iload_n 2, 1) := by decide +kernel
theorem dX10_goes_24 : decode cX10_goes 24 = .ok (.aload_n 0, 1) := by decide +kernel
theorem dX10_goes_25 : decode cX10_goes 25 = .ok (.getfield 26, 3) := by decide +kernel
theorem dX10_goes_28 : decode cX10_goes 28 = .ok (.getfield 195, 3) := by decide +kernel
theorem dX10_goes_31 : decode cX10_goes 31 = .ok (.iload_n 1, 1) := by decide +kernel
theorem dX10_goes_32 : decode cX10_goes 32 = .ok (.iaload, 1) := by decide +kernel
theorem dX10_goes_33 : decode cX10_goes 33 = .ok (.imul, 1) := by decide +kernel
theorem dX10_goes_34 : decode cX10_goes 34 = .ok (.iadd, 1) := by decide +kernel
theorem dX10_goes_35 : decode cX10_goes 35 = .ok (.bipush 10, 2) := by decide +kernel
theorem dX10_goes_37 : decode cX10_goes 37 = .ok (.irem, 1) := by decide +kernel
theorem dX10_goes_38 : decode cX10_goes 38 = .ok (.ireturn, 1) := by decide +kernel
theorem dX10_ahead_0 : decode cX10_ahead 0 = .ok (.aload_n 0, 1) := by decide +kernel
theorem dX10_ahead_1 : decode cX10_ahead 1 = .ok (.iload_n 1, 1) := by decide +kernel
theorem dX10_ahead_2 : decode cX10_ahead 2 = .ok (.invokevirtual 180, 3) := by decide +kernel
theorem dX10_ahead_5 : decode cX10_ahead 5 = .ok (.aload_n 0, 1) := by decide +kernel
theorem dX10_ahead_6 : decode cX10_ahead 6 = .ok (.iload_n 2, 1) := by decide +kernel
theorem dX10_ahead_7 : decode cX10_ahead 7 = .ok (.iconst 0, 1) := by decide +kernel
theorem dX10_ahead_8 : decode cX10_ahead 8 = .ok (.sipush 200, 3) := by decide +kernel
theorem dX10_ahead_11 : decode cX10_ahead 11 = .ok (.invokevirtual 230, 3) := by decide +kernel
theorem dX10_ahead_14 : decode cX10_ahead 14 = .ok (.aload_n 0, 1) := by decide +kernel
theorem dX10_ahead_15 : decode cX10_ahead 15 = .ok (.iload_n 2, 1) := by decide +kernel
theorem dX10_ahead_16 : decode cX10_ahead 16 = .ok (.invokevirtual 275, 3) := by decide +kernel
theorem dX10_ahead_19 : decode cX10_ahead 19 = .ok (.aload_n 0, 1) := by decide +kernel
theorem dX10_ahead_20 : decode cX10_ahead 20 = .ok (.getfield 30, 3) := by decide +kernel
theorem dX10_ahead_23 : decode cX10_ahead 23 = .ok (.getfield 189, 3) := by decide +kernel
theorem dX10_ahead_26 : decode cX10_ahead 26 = .ok (.iload_n 1, 1) := by decide +kernel
theorem dX10_ahead_27 : decode cX10_ahead 27 = .ok (.iaload, 1) := by decide +kernel
theorem dX10_ahead_28 : decode cX10_ahead 28 = .ok (.ireturn, 1) := by decide +kernel
theorem dX10_swap_0 : decode cX10_swap 0 = .ok (.aload_n 0, 1) := by decide +kernel
theorem dX10_swap_1 : decode cX10_swap 1 = .ok (.invokevirtual 266, 3) := by decide +kernel
theorem dX10_swap_4 : decode cX10_swap 4 = .ok (.aload_n 0, 1) := by decide +kernel
theorem dX10_swap_5 : decode cX10_swap 5 = .ok (.aload_n 0, 1) := by decide +kernel
theorem dX10_swap_6 : decode cX10_swap 6 = .ok (.getfield 30, 3) := by decide +kernel
theorem dX10_swap_9 : decode cX10_swap 9 = .ok (.invokevirtual 272, 3) := by decide +kernel
theorem dX10_swap_12 : decode cX10_swap 12 = .ok (.sipush 200, 3) := by decide +kernel
theorem dX10_swap_15 : decode cX10_swap 15 = .ok (.invokevirtual 269, 3) := by decide +kernel
theorem dX10_swap_18 : decode cX10_swap 18 = .ok (.istore_n 1, 1) := by decide +kernel
theorem dX10_swap_19 : decode cX10_swap 19 = .ok (.iload_n 1, 1) := by decide +kernel
theorem dX10_swap_20 : decode cX10_swap 20 = .ok (.iconst (-1), 1) := by decide +kernel
theorem dX10_swap_21 : decode cX10_swap 21 = .ok (.if_icmp .ne 9, 3) := by decide +kernel
theorem dX10_swap_24 : decode cX10_swap 24 = .ok (.sipush 201, 3) := by decide +kernel
theorem dX10_swap_27 : decode cX10_swap 27 = .ok (.goto 4, 3) := by decide +kernel
theorem dX10_swap_30 : decode cX10_swap 30 = .ok (.iload_n 1, 1) := by decide +kernel
theorem dX10_swap_31 : decode cX10_swap 31 = .ok (.istore_n 2, 1) := by decide +kernel
theorem dX10_swap_32 : decode cX10_swap 32 = .ok (.iconst (-1), 1) := by decide +kernel
theorem dX10_swap_33 : decode cX10_swap 33 = .ok (.istore_n 3, 1) := by decide +kernel
theorem dX10_swap_34 : decode cX10_swap 34 = .ok (.iconst 0, 1) := by decide +kernel
theorem dX10_swap_35 : decode cX10_swap 35 = .ok (.istore 4, 2) := by decide +kernel
theorem dX10_swap_37 : decode cX10_swap 37 = .ok (.iload 4, 2) := by decide +kernel
theorem dX10_swap_39 : decode cX10_swap 39 = .ok (.bipush 10, 2) := by decide +kernel
theorem dX10_swap_41 : decode cX10_swap 41 = .ok (.if_icmp .ge 106, 3) := by decide +kernel
theorem dX10_swap_44 : decode cX10_swap 44 = .ok (.iload 4, 2) := by decide +kernel
theorem dX10_swap_46 : decode cX10_swap 46 = .ok (.iconst 1, 1) := by decide +kernel
theorem dX10_swap_47 : decode cX10_swap 47 = .ok (.iadd, 1) := by decide +kernel
theorem dX10_swap_48 : decode cX10_swap 48 = .ok (.istore 5, 2) := by decide +kernel
theorem dX10_swap_50 : decode cX10_swap 50 = .ok (.iload 5, 2) := by decide +kernel
theorem dX10_swap_52 : decode cX10_swap 52 = .ok (.bipush 10, 2) := by decide +kernel
theorem dX10_swap_54 : decode cX10_swap 54 = .ok (.if_icmp .ge 87, 3) := by decide +kernel
theorem dX10_swap_57 : decode cX10_swap 57 = .ok (.aload_n 0, 1) := by decide +kernel
theorem dX10_swap_58 : decode cX10_swap 58 = .ok (.getfield 26, 3) := by decide +kernel
theorem dX10_swap_61 : decode cX10_swap 61 = .ok (.iload 4, 2) := by decide +kernel
theorem dX10_swap_63 : decode cX10_swap 63 = .ok (.invokevirtual 198, 3) := by decide +kernel
theorem dX10_swap_66 : decode cX10_swap 66 = .ok (.iconst (-1), 1) := by decide +kernel
theorem dX10_swap_67 : decode cX10_swap 67 = .ok (.if_icmp .ne 19, 3) := by decide +kernel
theorem dX10_swap_70 : decode cX10_swap 70 = .ok (.aload_n 0, 1) := by decide +kernel
theorem dX10_swap_71 : decode cX10_swap 71 = .ok (.getfield 26, 3) := by decide +kernel
theorem dX10_swap_74 : decode cX10_swap 74 = .ok (.iload 5, 2) := by decide +kernel
theorem dX10_swap_76 : decode cX10_swap 76 = .ok (.invokevirtual 198, 3) := by decide +kernel
theorem dX10_swap_79 : decode cX10_swap 79 = .ok (.iconst (-1), 1) := by decide +kernel
theorem dX10_swap_80 : decode cX10_swap 80 = .ok (.if_icmp .ne 6, 3) := by decide +kernel
theorem dX10_swap_83 : decode cX10_swap 83 = .ok (.goto 52, 3) := by decide +kernel
theorem dX10_swap_86 : decode cX10_swap 86 = .ok (.aload_n 0, 1) := by decide +kernel
theorem dX10_swap_87 : decode cX10_swap 87 = .ok (.invokevirtual 266, 3) := by decide +kernel
theorem dX10_swap_90 : decode cX10_swap 90 = .ok (.aload_n 0, 1) := by decide +kernel
theorem dX10_swap_91 : decode cX10_swap 91 = .ok (.getfield 30, 3) := by decide +kernel
theorem dX10_swap_94 : decode cX10_swap 94 = .ok (.iload 4, 2) := by decide +kernel
theorem dX10_swap_96 : decode cX10_swap 96 = .ok (.iload 5, 2) := by decide +kernel
theorem dX10_swap_98 : decode cX10_swap 98 = .ok (.invokevirtual 241, 3) := by decide +kernel
theorem dX10_swap_101 : decode cX10_swap 101 = .ok (.aload_n 0, 1) := by decide +kernel
theorem dX10_swap_102 : decode cX10_swap 102 = .ok (.aload_n 0, 1) := by decide +kernel
theorem dX10_swap_103 : decode cX10_swap 103 = .ok (.getfield 30, 3) := by decide +kernel
theorem dX10_swap_106 : decode cX10_swap 106 = .ok (.invokevirtual 272, 3) := by decide +kernel
theorem dX10_swap_109 : decode cX10_swap 109 = .ok (.iload_n 2, 1) := by decide +kernel
theorem dX10_swap_110 : decode cX10_swap 110 = .ok (.iconst 1, 1) := by decide +kernel
theorem dX10_swap_111 : decode cX10_swap 111 = .ok (.isub, 1) := by decide +kernel
theorem dX10_swap_112 : decode cX10_swap 112 = .ok (.invokevirtual 269, 3) := by decide +kernel
theorem dX10_swap_115 : decode cX10_swap 115 = .ok (.istore 6, 2) := by decide +kernel
theorem dX10_swap_117 : decode cX10_swap 117 = .ok (.iload 6, 2) := by decide +kernel
theorem dX10_swap_119 : decode cX10_swap 119 = .ok (.iconst (-1), 1) := by decide +kernel
theorem dX10_swap_120 : decode cX10_swap 120 = .ok (.if_icmp .eq 15, 3) := by decide +kernel
theorem dX10_swap_123 : decode cX10_swap 123 = .ok (.iload 6, 2) := by decide +kernel
theorem dX10_swap_125 : decode cX10_swap 125 = .ok (.istore_n 2, 1) := by decide +kernel
theorem dX10_swap_126 : decode cX10_swap 126 = .ok (.bipush 10, 2) := by decide +kernel
theorem dX10_swap_128 : decode cX10_swap 128 = .ok (.iload 4, 2) := by decide +kernel
theorem dX10_swap_130 : decode cX10_swap 130 = .ok (.imul, 1) := by decide +kernel
theorem dX10_swap_131 : decode cX10_swap 131 = .ok (.iload 5, 2) := by decide +kernel
theorem dX10_swap_133 : decode cX10_swap 133 = .ok (.iadd, 1) := by decide +kernel
theorem dX10_swap_134 : decode cX10_swap 134 = .ok (.istore_n 3, 1) := by decide +kernel
theorem dX10_swap_135 : decode cX10_swap 135 = .ok (.iinc 5 1, 3) := by decide +kernel
theorem dX10_swap_138 : decode cX10_swap 138 = .ok (.goto (-88), 3) := by decide +kernel
theorem dX10_swap_141 : decode cX10_swap 141 = .ok (.iinc 4 1, 3) := by decide +kernel
theorem dX10_swap_144 : decode cX10_swap 144 = .ok (.goto (-107), 3) := by decide +kernel
theorem dX10_swap_147 : decode cX10_swap 147 = .ok (.iload_n 3, 1) := by decide +kernel
theorem dX10_swap_148 : decode cX10_swap 148 = .ok (.ireturn, 1) := by decide +kernel
theorem dX10_fewest_0 : decode cX10_fewest 0 = .ok (.aload_n 0, 1) := by decide +kernel
theorem dX10_fewest_1 : decode cX10_fewest 1 = .ok (.iload_n 1, 1) := by decide +kernel
theorem dX10_fewest_2 : decode cX10_fewest 2 = .ok (.invokevirtual 180, 3) := by decide +kernel
theorem dX10_fewest_5 : decode cX10_fewest 5 = .ok (.aload_n 0, 1) := by decide +kernel
theorem dX10_fewest_6 : decode cX10_fewest 6 = .ok (.iload_n 2, 1) := by decide +kernel
theorem dX10_fewest_7 : decode cX10_fewest 7 = .ok (.iconst 0, 1) := by decide +kernel
theorem dX10_fewest_8 : decode cX10_fewest 8 = .ok (.bipush 24, 2) := by decide +kernel
theorem dX10_fewest_10 : decode cX10_fewest 10 = .ok (.invokevirtual 230, 3) := by decide +kernel
theorem dX10_fewest_13 : decode cX10_fewest 13 = .ok (.iconst 1, 1) := by decide +kernel
theorem dX10_fewest_14 : decode cX10_fewest 14 = .ok (.aload_n 0, 1) := by decide +kernel
theorem dX10_fewest_15 : decode cX10_fewest 15 = .ok (.getfield 26, 3) := by decide +kernel
theorem dX10_fewest_18 : decode cX10_fewest 18 = .ok (.getfield 281, 3) := by decide +kernel
theorem dX10_fewest_21 : decode cX10_fewest 21 = .ok (.ishl, 1) := by decide +kernel
theorem dX10_fewest_22 : decode cX10_fewest 22 = .ok (.iconst 1, 1) := by decide +kernel
theorem dX10_fewest_23 : decode cX10_fewest 23 = .ok (.isub, 1) := by decide +kernel
theorem dX10_fewest_24 : decode cX10_fewest 24 = .ok (.istore_n 3, 1) := by decide +kernel
theorem dX10_fewest_25 : decode cX10_fewest 25 = .ok (.iconst 0, 1) := by decide +kernel
theorem dX10_fewest_26 : decode cX10_fewest 26 = .ok (.istore 4, 2) := by decide +kernel
theorem dX10_fewest_28 : decode cX10_fewest 28 = .ok (.iload 4, 2) := by decide +kernel
theorem dX10_fewest_30 : decode cX10_fewest 30 = .ok (.aload_n 0, 1) := by decide +kernel
theorem dX10_fewest_31 : decode cX10_fewest 31 = .ok (.getfield 26, 3) := by decide +kernel
theorem dX10_fewest_34 : decode cX10_fewest 34 = .ok (.getfield 281, 3) := by decide +kernel
theorem dX10_fewest_37 : decode cX10_fewest 37 = .ok (.if_icmp .gt 69, 3) := by decide +kernel
theorem dX10_fewest_40 : decode cX10_fewest 40 = .ok (.iconst 0, 1) := by decide +kernel
theorem dX10_fewest_41 : decode cX10_fewest 41 = .ok (.istore 5, 2) := by decide +kernel
theorem dX10_fewest_43 : decode cX10_fewest 43 = .ok (.iload 5, 2) := by decide +kernel
theorem dX10_fewest_45 : decode cX10_fewest 45 = .ok (.iload_n 3, 1) := by decide +kernel
theorem dX10_fewest_46 : decode cX10_fewest 46 = .ok (.if_icmp .gt 54, 3) := by decide +kernel
theorem dX10_fewest_49 : decode cX10_fewest 49 = .ok (.iload 5, 2) := by decide +kernel
theorem dX10_fewest_51 : decode cX10_fewest 51 = .ok (.invokestatic 284, 3) := by decide +kernel
theorem dX10_fewest_54 : decode cX10_fewest 54 = .ok (.iload 4, 2) := by decide +kernel
theorem dX10_fewest_56 : decode cX10_fewest 56 = .ok (.if_icmp .eq 6, 3) := by decide +kernel
theorem dX10_fewest_59 : decode cX10_fewest 59 = .ok (.goto 35, 3) := by decide +kernel
theorem dX10_fewest_62 : decode cX10_fewest 62 = .ok (.aload_n 0, 1) := by decide +kernel
theorem dX10_fewest_63 : decode cX10_fewest 63 = .ok (.invokevirtual 266, 3) := by decide +kernel
theorem dX10_fewest_66 : decode cX10_fewest 66 = .ok (.aload_n 0, 1) := by decide +kernel
theorem dX10_fewest_67 : decode cX10_fewest 67 = .ok (.getfield 30, 3) := by decide +kernel
theorem dX10_fewest_70 : decode cX10_fewest 70 = .ok (.iload_n 3, 1) := by decide +kernel
theorem dX10_fewest_71 : decode cX10_fewest 71 = .ok (.iload 5, 2) := by decide +kernel
theorem dX10_fewest_73 : decode cX10_fewest 73 = .ok (.iconst (-1), 1) := by decide +kernel
theorem dX10_fewest_74 : decode cX10_fewest 74 = .ok (.ixor, 1) := by decide +kernel
theorem dX10_fewest_75 : decode cX10_fewest 75 = .ok (.iand, 1) := by decide +kernel
theorem dX10_fewest_76 : decode cX10_fewest 76 = .ok (.putfield 244, 3) := by decide +kernel
theorem dX10_fewest_79 : decode cX10_fewest 79 = .ok (.aload_n 0, 1) := by decide +kernel
theorem dX10_fewest_80 : decode cX10_fewest 80 = .ok (.iconst 1, 1) := by decide +kernel
theorem dX10_fewest_81 : decode cX10_fewest 81 = .ok (.iload_n 1, 1) := by decide +kernel
theorem dX10_fewest_82 : decode cX10_fewest 82 = .ok (.ishl, 1) := by decide +kernel
theorem dX10_fewest_83 : decode cX10_fewest 83 = .ok (.iload_n 2, 1) := by decide +kernel
theorem dX10_fewest_84 : decode cX10_fewest 84 = .ok (.invokevirtual 269, 3) := by decide +kernel
theorem dX10_fewest_87 : decode cX10_fewest 87 = .ok (.iconst (-1), 1) := by decide +kernel
theorem dX10_fewest_88 : decode cX10_fewest 88 = .ok (.if_icmp .eq 6, 3) := by decide +kernel
theorem dX10_fewest_91 : decode cX10_fewest 91 = .ok (.iload 5, 2) := by decide +kernel
theorem dX10_fewest_93 : decode cX10_fewest 93 = .ok (.ireturn, 1) := by decide +kernel
theorem dX10_fewest_94 : decode cX10_fewest 94 = .ok (.iinc 5 1, 3) := by decide +kernel
theorem dX10_fewest_97 : decode cX10_fewest 97 = .ok (.goto (-54), 3) := by decide +kernel
theorem dX10_fewest_100 : decode cX10_fewest 100 = .ok (.iinc 4 1, 3) := by decide +kernel
theorem dX10_fewest_103 : decode cX10_fewest 103 = .ok (.goto (-75), 3) := by decide +kernel
theorem dX10_fewest_106 : decode cX10_fewest 106 = .ok (.iconst (-1), 1) := by decide +kernel
theorem dX10_fewest_107 : decode cX10_fewest 107 = .ok (.ireturn, 1) := by decide +kernel
theorem dX10_bribes_0 : decode cX10_bribes 0 = .ok (.aload_n 0, 1) := by decide +kernel
theorem dX10_bribes_1 : decode cX10_bribes 1 = .ok (.aload_n 0, 1) := by decide +kernel
theorem dX10_bribes_2 : decode cX10_bribes 2 = .ok (.invokevirtual 289, 3) := by decide +kernel
theorem dX10_bribes_5 : decode cX10_bribes 5 = .ok (.invokevirtual 293, 3) := by decide +kernel
theorem dX10_bribes_8 : decode cX10_bribes 8 = .ok (.iconst 0, 1) := by decide +kernel
theorem dX10_bribes_9 : decode cX10_bribes 9 = .ok (.istore_n 2, 1) := by decide +kernel
theorem dX10_bribes_10 : decode cX10_bribes 10 = .ok (.iconst 1, 1) := by decide +kernel
theorem dX10_bribes_11 : decode cX10_bribes 11 = .ok (.aload_n 0, 1) := by decide +kernel
theorem dX10_bribes_12 : decode cX10_bribes 12 = .ok (.getfield 26, 3) := by decide +kernel
theorem dX10_bribes_15 : decode cX10_bribes 15 = .ok (.getfield 281, 3) := by decide +kernel
theorem dX10_bribes_18 : decode cX10_bribes 18 = .ok (.ishl, 1) := by decide +kernel
theorem dX10_bribes_19 : decode cX10_bribes 19 = .ok (.iconst 1, 1) := by decide +kernel
theorem dX10_bribes_20 : decode cX10_bribes 20 = .ok (.isub, 1) := by decide +kernel
theorem dX10_bribes_21 : decode cX10_bribes 21 = .ok (.istore_n 3, 1) := by decide +kernel
theorem dX10_bribes_22 : decode cX10_bribes 22 = .ok (.iconst 0, 1) := by decide +kernel
theorem dX10_bribes_23 : decode cX10_bribes 23 = .ok (.istore 4, 2) := by decide +kernel
theorem dX10_bribes_25 : decode cX10_bribes 25 = .ok (.iload 4, 2) := by decide +kernel
theorem dX10_bribes_27 : decode cX10_bribes 27 = .ok (.iconst 1, 1) := by decide +kernel
theorem dX10_bribes_28 : decode cX10_bribes 28 = .ok (.aload_n 0, 1) := by decide +kernel
theorem dX10_bribes_29 : decode cX10_bribes 29 = .ok (.getfield 26, 3) := by decide +kernel
theorem dX10_bribes_32 : decode cX10_bribes 32 = .ok (.getfield 281, 3) := by decide +kernel
theorem dX10_bribes_35 : decode cX10_bribes 35 = .ok (.ishl, 1) := by decide +kernel
theorem dX10_bribes_36 : decode cX10_bribes 36 = .ok (.if_icmp .ge 37, 3) := by decide +kernel
theorem dX10_bribes_39 : decode cX10_bribes 39 = .ok (.iload 4, 2) := by decide +kernel
theorem dX10_bribes_41 : decode cX10_bribes 41 = .ok (.invokestatic 284, 3) := by decide +kernel
theorem dX10_bribes_44 : decode cX10_bribes 44 = .ok (.iconst 2, 1) := by decide +kernel
theorem dX10_bribes_45 : decode cX10_bribes 45 = .ok (.if_icmp .gt 22, 3) := by decide +kernel
theorem dX10_bribes_48 : decode cX10_bribes 48 = .ok (.aload_n 0, 1) := by decide +kernel
theorem dX10_bribes_49 : decode cX10_bribes 49 = .ok (.iload 4, 2) := by decide +kernel
theorem dX10_bribes_51 : decode cX10_bribes 51 = .ok (.iconst 0, 1) := by decide +kernel
theorem dX10_bribes_52 : decode cX10_bribes 52 = .ok (.iconst 0, 1) := by decide +kernel
theorem dX10_bribes_53 : decode cX10_bribes 53 = .ok (.invokevirtual 297, 3) := by decide +kernel
theorem dX10_bribes_56 : decode cX10_bribes 56 = .ok (.ifCond .eq 11, 3) := by decide +kernel
theorem dX10_bribes_59 : decode cX10_bribes 59 = .ok (.iinc 2 1, 3) := by decide +kernel
theorem dX10_bribes_62 : decode cX10_bribes 62 = .ok (.iload_n 3, 1) := by decide +kernel
theorem dX10_bribes_63 : decode cX10_bribes 63 = .ok (.iload 4, 2) := by decide +kernel
theorem dX10_bribes_65 : decode cX10_bribes 65 = .ok (.iand, 1) := by decide +kernel
theorem dX10_bribes_66 : decode cX10_bribes 66 = .ok (.istore_n 3, 1) := by decide +kernel
theorem dX10_bribes_67 : decode cX10_bribes 67 = .ok (.iinc 4 1, 3) := by decide +kernel
theorem dX10_bribes_70 : decode cX10_bribes 70 = .ok (.goto (-45), 3) := by decide +kernel
theorem dX10_bribes_73 : decode cX10_bribes 73 = .ok (.iload_n 1, 1) := by decide +kernel
theorem dX10_bribes_74 : decode cX10_bribes 74 = .ok (.ifCond .ne 5, 3) := by decide +kernel
theorem dX10_bribes_77 : decode cX10_bribes 77 = .ok (.iload_n 2, 1) := by decide +kernel
theorem dX10_bribes_78 : decode cX10_bribes 78 = .ok (.ireturn, 1) := by decide +kernel
theorem dX10_bribes_79 : decode cX10_bribes 79 = .ok (.iload_n 2, 1) := by decide +kernel
theorem dX10_bribes_80 : decode cX10_bribes 80 = .ok (.ifCond .ne 7, 3) := by decide +kernel
theorem dX10_bribes_83 : decode cX10_bribes 83 = .ok (.iconst 0, 1) := by decide +kernel
theorem dX10_bribes_84 : decode cX10_bribes 84 = .ok (.goto 4, 3) := by decide +kernel
theorem dX10_bribes_87 : decode cX10_bribes 87 = .ok (.iload_n 3, 1) := by decide +kernel
theorem dX10_bribes_88 : decode cX10_bribes 88 = .ok (.ireturn, 1) := by decide +kernel
theorem dX10_ask_0 : decode cX10_ask 0 = .ok (.aload_n 0, 1) := by decide +kernel
theorem dX10_ask_1 : decode cX10_ask 1 = .ok (.aload_n 0, 1) := by decide +kernel
theorem dX10_ask_2 : decode cX10_ask 2 = .ok (.invokevirtual 289, 3) := by decide +kernel
theorem dX10_ask_5 : decode cX10_ask 5 = .ok (.invokevirtual 293, 3) := by decide +kernel
theorem dX10_ask_8 : decode cX10_ask 8 = .ok (.aload_n 0, 1) := by decide +kernel
theorem dX10_ask_9 : decode cX10_ask 9 = .ok (.iload_n 1, 1) := by decide +kernel
theorem dX10_ask_10 : decode cX10_ask 10 = .ok (.iconst 1, 1) := by decide +kernel
theorem dX10_ask_11 : decode cX10_ask 11 = .ok (.bipush 24, 2) := by decide +kernel
theorem dX10_ask_13 : decode cX10_ask 13 = .ok (.invokevirtual 230, 3) := by decide +kernel
theorem dX10_ask_16 : decode cX10_ask 16 = .ok (.iconst 0, 1) := by decide +kernel
theorem dX10_ask_17 : decode cX10_ask 17 = .ok (.istore_n 2, 1) := by decide +kernel
theorem dX10_ask_18 : decode cX10_ask 18 = .ok (.iconst 0, 1) := by decide +kernel
theorem dX10_ask_19 : decode cX10_ask 19 = .ok (.istore_n 3, 1) := by decide +kernel
theorem dX10_ask_20 : decode cX10_ask 20 = .ok (.iload_n 3, 1) := by decide +kernel
theorem dX10_ask_21 : decode cX10_ask 21 = .ok (.iconst 1, 1) := by decide +kernel
theorem dX10_ask_22 : decode cX10_ask 22 = .ok (.aload_n 0, 1) := by decide +kernel
theorem dX10_ask_23 : decode cX10_ask 23 = .ok (.getfield 26, 3) := by decide +kernel
theorem dX10_ask_26 : decode cX10_ask 26 = .ok (.getfield 281, 3) := by decide +kernel
theorem dX10_ask_29 : decode cX10_ask 29 = .ok (.ishl, 1) := by decide +kernel
theorem dX10_ask_30 : decode cX10_ask 30 = .ok (.if_icmp .ge 30, 3) := by decide +kernel
theorem dX10_ask_33 : decode cX10_ask 33 = .ok (.iload_n 3, 1) := by decide +kernel
theorem dX10_ask_34 : decode cX10_ask 34 = .ok (.invokestatic 284, 3) := by decide +kernel
theorem dX10_ask_37 : decode cX10_ask 37 = .ok (.iconst 2, 1) := by decide +kernel
theorem dX10_ask_38 : decode cX10_ask 38 = .ok (.if_icmp .gt 16, 3) := by decide +kernel
theorem dX10_ask_41 : decode cX10_ask 41 = .ok (.aload_n 0, 1) := by decide +kernel
theorem dX10_ask_42 : decode cX10_ask 42 = .ok (.iload_n 3, 1) := by decide +kernel
theorem dX10_ask_43 : decode cX10_ask 43 = .ok (.iload_n 1, 1) := by decide +kernel
theorem dX10_ask_44 : decode cX10_ask 44 = .ok (.iload_n 2, 1) := by decide +kernel
theorem dX10_ask_45 : decode cX10_ask 45 = .ok (.invokevirtual 297, 3) := by decide +kernel
theorem dX10_ask_48 : decode cX10_ask 48 = .ok (.ifCond .eq 6, 3) := by decide +kernel
theorem dX10_ask_51 : decode cX10_ask 51 = .ok (.iinc 2 1, 3) := by decide +kernel
theorem dX10_ask_54 : decode cX10_ask 54 = .ok (.iinc 3 1, 3) := by decide +kernel
theorem dX10_ask_57 : decode cX10_ask 57 = .ok (.goto (-37), 3) := by decide +kernel
theorem dX10_ask_60 : decode cX10_ask 60 = .ok (.iload_n 2, 1) := by decide +kernel
theorem dX10_ask_61 : decode cX10_ask 61 = .ok (.iconst 2, 1) := by decide +kernel
theorem dX10_ask_62 : decode cX10_ask 62 = .ok (.if_icmp .ge 5, 3) := by decide +kernel
theorem dX10_ask_65 : decode cX10_ask 65 = .ok (.iconst (-1), 1) := by decide +kernel
theorem dX10_ask_66 : decode cX10_ask 66 = .ok (.ireturn, 1) := by decide +kernel
theorem dX10_ask_67 : decode cX10_ask 67 = .ok (.iconst (-1), 1) := by decide +kernel
theorem dX10_ask_68 : decode cX10_ask 68 = .ok (.istore_n 3, 1) := by decide +kernel
theorem dX10_ask_69 : decode cX10_ask 69 = .ok (.iload_n 2, 1) := by decide +kernel
theorem dX10_ask_70 : decode cX10_ask 70 = .ok (.iconst 1, 1) := by decide +kernel
theorem dX10_ask_71 : decode cX10_ask 71 = .ok (.iadd, 1) := by decide +kernel
theorem dX10_ask_72 : decode cX10_ask 72 = .ok (.istore 4, 2) := by decide +kernel
theorem dX10_ask_74 : decode cX10_ask 74 = .ok (.iconst 0, 1) := by decide +kernel
theorem dX10_ask_75 : decode cX10_ask 75 = .ok (.istore 5, 2) := by decide +kernel
theorem dX10_ask_77 : decode cX10_ask 77 = .ok (.iload 5, 2) := by decide +kernel
theorem dX10_ask_79 : decode cX10_ask 79 = .ok (.aload_n 0, 1) := by decide +kernel
theorem dX10_ask_80 : decode cX10_ask 80 = .ok (.getfield 26, 3) := by decide +kernel
theorem dX10_ask_83 : decode cX10_ask 83 = .ok (.getfield 301, 3) := by decide +kernel
theorem dX10_ask_86 : decode cX10_ask 86 = .ok (.if_icmp .ge 32, 3) := by decide +kernel
theorem dX10_ask_89 : decode cX10_ask 89 = .ok (.aload_n 0, 1) := by decide +kernel
theorem dX10_ask_90 : decode cX10_ask 90 = .ok (.iload 5, 2) := by decide +kernel
theorem dX10_ask_92 : decode cX10_ask 92 = .ok (.iload_n 2, 1) := by decide +kernel
theorem dX10_ask_93 : decode cX10_ask 93 = .ok (.invokevirtual 304, 3) := by decide +kernel
theorem dX10_ask_96 : decode cX10_ask 96 = .ok (.istore 6, 2) := by decide +kernel
theorem dX10_ask_98 : decode cX10_ask 98 = .ok (.iload 6, 2) := by decide +kernel
theorem dX10_ask_100 : decode cX10_ask 100 = .ok (.iload 4, 2) := by decide +kernel
theorem dX10_ask_102 : decode cX10_ask 102 = .ok (.if_icmp .ge 10, 3) := by decide +kernel
theorem dX10_ask_105 : decode cX10_ask 105 = .ok (.iload 6, 2) := by decide +kernel
theorem dX10_ask_107 : decode cX10_ask 107 = .ok (.istore 4, 2) := by decide +kernel
theorem dX10_ask_109 : decode cX10_ask 109 = .ok (.iload 5, 2) := by decide +kernel
theorem dX10_ask_111 : decode cX10_ask 111 = .ok (.istore_n 3, 1) := by decide +kernel
theorem dX10_ask_112 : decode cX10_ask 112 = .ok (.iinc 5 1, 3) := by decide +kernel
theorem dX10_ask_115 : decode cX10_ask 115 = .ok (.goto (-38), 3) := by decide +kernel
theorem dX10_ask_118 : decode cX10_ask 118 = .ok (.iload_n 3, 1) := by decide +kernel
theorem dX10_ask_119 : decode cX10_ask 119 = .ok (.ireturn, 1) := by decide +kernel
theorem dX10_takesBribeRows_0 : decode cX10_takesBribeRows 0 = .ok (.aload_n 0, 1) := by decide +kernel
theorem dX10_takesBribeRows_1 : decode cX10_takesBribeRows 1 = .ok (.getfield 10, 3) := by decide +kernel
theorem dX10_takesBribeRows_4 : decode cX10_takesBribeRows 4 = .ok (.getfield 98, 3) := by decide +kernel
theorem dX10_takesBribeRows_7 : decode cX10_takesBribeRows 7 = .ok (.istore_n 1, 1) := by decide +kernel
theorem dX10_takesBribeRows_8 : decode cX10_takesBribeRows 8 = .ok (.aload_n 0, 1) := by decide +kernel
theorem dX10_takesBribeRows_9 : decode cX10_takesBribeRows 9 = .ok (.getfield 10, 3) := by decide +kernel
theorem dX10_takesBribeRows_12 : decode cX10_takesBribeRows 12 = .ok (.iconst 0, 1) := by decide +kernel
theorem dX10_takesBribeRows_13 : decode cX10_takesBribeRows 13 = .ok (.putfield 98, 3) := by decide +kernel
theorem dX10_takesBribeRows_16 : decode cX10_takesBribeRows 16 = .ok (.aload_n 0, 1) := by decide +kernel
theorem dX10_takesBribeRows_17 : decode cX10_takesBribeRows 17 = .ok (.iconst 0, 1) := by decide +kernel
theorem dX10_takesBribeRows_18 : decode cX10_takesBribeRows 18 = .ok (.putfield 89, 3) := by decide +kernel
theorem dX10_takesBribeRows_21 : decode cX10_takesBribeRows 21 = .ok (.iload_n 1, 1) := by decide +kernel
theorem dX10_takesBribeRows_22 : decode cX10_takesBribeRows 22 = .ok (.bipush 12, 2) := by decide +kernel
theorem dX10_takesBribeRows_24 : decode cX10_takesBribeRows 24 = .ok (.if_icmp .gt 9, 3) := by decide +kernel
theorem dX10_takesBribeRows_27 : decode cX10_takesBribeRows 27 = .ok (.iload_n 1, 1) := by decide +kernel
theorem dX10_takesBribeRows_28 : decode cX10_takesBribeRows 28 = .ok (.iconst 3, 1) := by decide +kernel
theorem dX10_takesBribeRows_29 : decode cX10_takesBribeRows 29 = .ok (.irem, 1) := by decide +kernel
theorem dX10_takesBribeRows_30 : decode cX10_takesBribeRows 30 = .ok (.ifCond .eq 5, 3) := by decide +kernel
theorem dX10_takesBribeRows_33 : decode cX10_takesBribeRows 33 = .ok (.iconst 0, 1) := by decide +kernel
theorem dX10_takesBribeRows_34 : decode cX10_takesBribeRows 34 = .ok (.ireturn, 1) := by decide +kernel
theorem dX10_takesBribeRows_35 : decode cX10_takesBribeRows 35 = .ok (.iconst 0, 1) := by decide +kernel
theorem dX10_takesBribeRows_36 : decode cX10_takesBribeRows 36 = .ok (.istore_n 2, 1) := by decide +kernel
theorem dX10_takesBribeRows_37 : decode cX10_takesBribeRows 37 = .ok (.iload_n 2, 1) := by decide +kernel
theorem dX10_takesBribeRows_38 : decode cX10_takesBribeRows 38 = .ok (.iload_n 1, 1) := by decide +kernel
theorem dX10_takesBribeRows_39 : decode cX10_takesBribeRows 39 = .ok (.if_icmp .ge 24, 3) := by decide +kernel
theorem dX10_takesBribeRows_42 : decode cX10_takesBribeRows 42 = .ok (.aload_n 0, 1) := by decide +kernel
theorem dX10_takesBribeRows_43 : decode cX10_takesBribeRows 43 = .ok (.getfield 85, 3) := by decide +kernel
theorem dX10_takesBribeRows_46 : decode cX10_takesBribeRows 46 = .ok (.iload_n 2, 1) := by decide +kernel
theorem dX10_takesBribeRows_47 : decode cX10_takesBribeRows 47 = .ok (.aload_n 0, 1) := by decide +kernel
theorem dX10_takesBribeRows_48 : decode cX10_takesBribeRows 48 = .ok (.getfield 10, 3) := by decide +kernel
theorem dX10_takesBribeRows_51 : decode cX10_takesBribeRows 51 = .ok (.getfield 307, 3) := by decide +kernel
theorem dX10_takesBribeRows_54 : decode cX10_takesBribeRows 54 = .ok (.iload_n 2, 1) := by decide +kernel
theorem dX10_takesBribeRows_55 : decode cX10_takesBribeRows 55 = .ok (.iaload, 1) := by decide +kernel
theorem dX10_takesBribeRows_56 : decode cX10_takesBribeRows 56 = .ok (.iastore, 1) := by decide +kernel
theorem dX10_takesBribeRows_57 : decode cX10_takesBribeRows 57 = .ok (.iinc 2 1, 3) := by decide +kernel
theorem dX10_takesBribeRows_60 : decode cX10_takesBribeRows 60 = .ok (.goto (-23), 3) := by decide +kernel
theorem dX10_takesBribeRows_63 : decode cX10_takesBribeRows 63 = .ok (.iconst 0, 1) := by decide +kernel
theorem dX10_takesBribeRows_64 : decode cX10_takesBribeRows 64 = .ok (.istore_n 2, 1) := by decide +kernel
theorem dX10_takesBribeRows_65 : decode cX10_takesBribeRows 65 = .ok (.iload_n 2, 1) := by decide +kernel
theorem dX10_takesBribeRows_66 : decode cX10_takesBribeRows 66 = .ok (.iconst 2, 1) := by decide +kernel
theorem dX10_takesBribeRows_67 : decode cX10_takesBribeRows 67 = .ok (.iadd, 1) := by decide +kernel
theorem dX10_takesBribeRows_68 : decode cX10_takesBribeRows 68 = .ok (.iload_n 1, 1) := by decide +kernel
theorem dX10_takesBribeRows_69 : decode cX10_takesBribeRows 69 = .ok (.if_icmp .ge 40, 3) := by decide +kernel
theorem dX10_takesBribeRows_72 : decode cX10_takesBribeRows 72 = .ok (.aload_n 0, 1) := by decide +kernel
theorem dX10_takesBribeRows_73 : decode cX10_takesBribeRows 73 = .ok (.getfield 85, 3) := by decide +kernel
theorem dX10_takesBribeRows_76 : decode cX10_takesBribeRows 76 = .ok (.iload_n 2, 1) := by decide +kernel
theorem dX10_takesBribeRows_77 : decode cX10_takesBribeRows 77 = .ok (.iaload, 1) := by decide +kernel
theorem dX10_takesBribeRows_78 : decode cX10_takesBribeRows 78 = .ok (.aload_n 0, 1) := by decide +kernel
theorem dX10_takesBribeRows_79 : decode cX10_takesBribeRows 79 = .ok (.getfield 26, 3) := by decide +kernel
theorem dX10_takesBribeRows_82 : decode cX10_takesBribeRows 82 = .ok (.getfield 301, 3) := by decide +kernel
theorem dX10_takesBribeRows_85 : decode cX10_takesBribeRows 85 = .ok (.if_icmp .ge 16, 3) := by decide +kernel
theorem dX10_takesBribeRows_88 : decode cX10_takesBribeRows 88 = .ok (.aload_n 0, 1) := by decide +kernel
theorem dX10_takesBribeRows_89 : decode cX10_takesBribeRows 89 = .ok (.getfield 85, 3) := by decide +kernel
theorem dX10_takesBribeRows_92 : decode cX10_takesBribeRows 92 = .ok (.iload_n 2, 1) := by decide +kernel
theorem dX10_takesBribeRows_93 : decode cX10_takesBribeRows 93 = .ok (.iconst 1, 1) := by decide +kernel
theorem dX10_takesBribeRows_94 : decode cX10_takesBribeRows 94 = .ok (.iadd, 1) := by decide +kernel
theorem dX10_takesBribeRows_95 : decode cX10_takesBribeRows 95 = .ok (.iaload, 1) := by decide +kernel
theorem dX10_takesBribeRows_96 : decode cX10_takesBribeRows 96 = .ok (.bipush 24, 2) := by decide +kernel
theorem dX10_takesBribeRows_98 : decode cX10_takesBribeRows 98 = .ok (.if_icmp .le 5, 3) := by decide +kernel
theorem dX10_takesBribeRows_101 : decode cX10_takesBribeRows 101 = .ok (.iconst 0, 1) := by decide +kernel
theorem dX10_takesBribeRows_102 : decode cX10_takesBribeRows 102 = .ok (.ireturn, 1) := by decide +kernel
theorem dX10_takesBribeRows_103 : decode cX10_takesBribeRows 103 = .ok (.iinc 2 3, 3) := by decide +kernel
theorem dX10_takesBribeRows_106 : decode cX10_takesBribeRows 106 = .ok (.goto (-41), 3) := by decide +kernel
theorem dX10_takesBribeRows_109 : decode cX10_takesBribeRows 109 = .ok (.aload_n 0, 1) := by decide +kernel
theorem dX10_takesBribeRows_110 : decode cX10_takesBribeRows 110 = .ok (.iload_n 1, 1) := by decide +kernel
theorem dX10_takesBribeRows_111 : decode cX10_takesBribeRows 111 = .ok (.putfield 89, 3) := by decide +kernel
theorem dX10_takesBribeRows_114 : decode cX10_takesBribeRows 114 = .ok (.iconst 1, 1) := by decide +kernel
theorem dX10_takesBribeRows_115 : decode cX10_takesBribeRows 115 = .ok (.ireturn, 1) := by decide +kernel
theorem dX10_needsBribeRows_0 : decode cX10_needsBribeRows 0 = .ok (.iload_n 1, 1) := by decide +kernel
theorem dX10_needsBribeRows_1 : decode cX10_needsBribeRows 1 = .ok (.ifCond .ne 14, 3) := by decide +kernel
theorem dX10_needsBribeRows_4 : decode cX10_needsBribeRows 4 = .ok (.new 123, 3) := by decide +kernel
theorem dX10_needsBribeRows_7 : decode cX10_needsBribeRows 7 = .ok (.dup, 1) := by decide +kernel
theorem dX10_needsBribeRows_8 : decode cX10_needsBribeRows 8 = .ok (.ldc_w 310, 3) := by decide +kernel
theorem dX10_needsBribeRows_11 : decode cX10_needsBribeRows 11 = .ok (.invokespecial 127, 3) := by decide +kernel
theorem dX10_needsBribeRows_14 : decode cX10_needsBribeRows 14 = .ok (.athrow, 1) := by decide +kernel
theorem dX10_needsBribeRows_15 : decode cX10_needsBribeRows 15 = .ok (.return_, 1) := by decide +kernel
theorem dX10_fits_0 : decode cX10_fits 0 = .ok (.aload_n 0, 1) := by decide +kernel
theorem dX10_fits_1 : decode cX10_fits 1 = .ok (.invokevirtual 266, 3) := by decide +kernel
theorem dX10_fits_4 : decode cX10_fits 4 = .ok (.aload_n 0, 1) := by decide +kernel
theorem dX10_fits_5 : decode cX10_fits 5 = .ok (.getfield 53, 3) := by decide +kernel
theorem dX10_fits_8 : decode cX10_fits 8 = .ok (.iload_n 1, 1) := by decide +kernel
theorem dX10_fits_9 : decode cX10_fits 9 = .ok (.invokevirtual 259, 3) := by decide +kernel
theorem dX10_fits_12 : decode cX10_fits 12 = .ok (.iload_n 2, 1) := by decide +kernel
theorem dX10_fits_13 : decode cX10_fits 13 = .ok (.aload_n 0, 1) := by decide +kernel
theorem dX10_fits_14 : decode cX10_fits 14 = .ok (.invokevirtual 312, 3) := by decide +kernel
theorem dX10_fits_17 : decode cX10_fits 17 = .ok (.invokestatic 315, 3) := by decide +kernel
theorem dX10_fits_20 : decode cX10_fits 20 = .ok (.istore 4, 2) := by decide +kernel
theorem dX10_fits_22 : decode cX10_fits 22 = .ok (.iconst 0, 1) := by decide +kernel
theorem dX10_fits_23 : decode cX10_fits 23 = .ok (.istore 5, 2) := by decide +kernel
theorem dX10_fits_25 : decode cX10_fits 25 = .ok (.iload 5, 2) := by decide +kernel
theorem dX10_fits_27 : decode cX10_fits 27 = .ok (.iload 4, 2) := by decide +kernel
theorem dX10_fits_29 : decode cX10_fits 29 = .ok (.if_icmp .gt 54, 3) := by decide +kernel
theorem dX10_fits_32 : decode cX10_fits 32 = .ok (.aload_n 0, 1) := by decide +kernel
theorem dX10_fits_33 : decode cX10_fits 33 = .ok (.iload 5, 2) := by decide +kernel
theorem dX10_fits_35 : decode cX10_fits 35 = .ok (.invokevirtual 318, 3) := by decide +kernel
theorem dX10_fits_38 : decode cX10_fits 38 = .ok (.ifCond .ne 5, 3) := by decide +kernel
theorem dX10_fits_41 : decode cX10_fits 41 = .ok (.iconst 0, 1) := by decide +kernel
theorem dX10_fits_42 : decode cX10_fits 42 = .ok (.ireturn, 1) := by decide +kernel
theorem dX10_fits_43 : decode cX10_fits 43 = .ok (.iload 5, 2) := by decide +kernel
theorem dX10_fits_45 : decode cX10_fits 45 = .ok (.iload_n 2, 1) := by decide +kernel
theorem dX10_fits_46 : decode cX10_fits 46 = .ok (.if_icmp .ne 8, 3) := by decide +kernel
theorem dX10_fits_49 : decode cX10_fits 49 = .ok (.aload_n 0, 1) := by decide +kernel
theorem dX10_fits_50 : decode cX10_fits 50 = .ok (.iload_n 3, 1) := by decide +kernel
theorem dX10_fits_51 : decode cX10_fits 51 = .ok (.invokevirtual 321, 3) := by decide +kernel
theorem dX10_fits_54 : decode cX10_fits 54 = .ok (.iload 5, 2) := by decide +kernel
theorem dX10_fits_56 : decode cX10_fits 56 = .ok (.iload 4, 2) := by decide +kernel
theorem dX10_fits_58 : decode cX10_fits 58 = .ok (.if_icmp .ge 19, 3) := by decide +kernel
theorem dX10_fits_61 : decode cX10_fits 61 = .ok (.aload_n 0, 1) := by decide +kernel
theorem dX10_fits_62 : decode cX10_fits 62 = .ok (.getfield 53, 3) := by decide +kernel
theorem dX10_fits_65 : decode cX10_fits 65 = .ok (.aload_n 0, 1) := by decide +kernel
theorem dX10_fits_66 : decode cX10_fits 66 = .ok (.getfield 30, 3) := by decide +kernel
theorem dX10_fits_69 : decode cX10_fits 69 = .ok (.aload_n 0, 1) := by decide +kernel
theorem dX10_fits_70 : decode cX10_fits 70 = .ok (.getfield 36, 3) := by decide +kernel
theorem dX10_fits_73 : decode cX10_fits 73 = .ok (.invokevirtual 324, 3) := by decide +kernel
theorem dX10_fits_76 : decode cX10_fits 76 = .ok (.pop, 1) := by decide +kernel
theorem dX10_fits_77 : decode cX10_fits 77 = .ok (.iinc 5 1, 3) := by decide +kernel
theorem dX10_fits_80 : decode cX10_fits 80 = .ok (.goto (-55), 3) := by decide +kernel
theorem dX10_fits_83 : decode cX10_fits 83 = .ok (.iconst 1, 1) := by decide +kernel
theorem dX10_fits_84 : decode cX10_fits 84 = .ok (.ireturn, 1) := by decide +kernel
theorem dX10_latestTold_0 : decode cX10_latestTold 0 = .ok (.iconst 0, 1) := by decide +kernel
theorem dX10_latestTold_1 : decode cX10_latestTold 1 = .ok (.istore_n 1, 1) := by decide +kernel
theorem dX10_latestTold_2 : decode cX10_latestTold 2 = .ok (.iconst 0, 1) := by decide +kernel
theorem dX10_latestTold_3 : decode cX10_latestTold 3 = .ok (.istore_n 2, 1) := by decide +kernel
theorem dX10_latestTold_4 : decode cX10_latestTold 4 = .ok (.iload_n 2, 1) := by decide +kernel
theorem dX10_latestTold_5 : decode cX10_latestTold 5 = .ok (.iconst 2, 1) := by decide +kernel
theorem dX10_latestTold_6 : decode cX10_latestTold 6 = .ok (.iadd, 1) := by decide +kernel
theorem dX10_latestTold_7 : decode cX10_latestTold 7 = .ok (.aload_n 0, 1) := by decide +kernel
theorem dX10_latestTold_8 : decode cX10_latestTold 8 = .ok (.getfield 89, 3) := by decide +kernel
theorem dX10_latestTold_11 : decode cX10_latestTold 11 = .ok (.if_icmp .ge 22, 3) := by decide +kernel
theorem dX10_latestTold_14 : decode cX10_latestTold 14 = .ok (.iload_n 1, 1) := by decide +kernel
theorem dX10_latestTold_15 : decode cX10_latestTold 15 = .ok (.aload_n 0, 1) := by decide +kernel
theorem dX10_latestTold_16 : decode cX10_latestTold 16 = .ok (.getfield 85, 3) := by decide +kernel
theorem dX10_latestTold_19 : decode cX10_latestTold 19 = .ok (.iload_n 2, 1) := by decide +kernel
theorem dX10_latestTold_20 : decode cX10_latestTold 20 = .ok (.iconst 1, 1) := by decide +kernel
theorem dX10_latestTold_21 : decode cX10_latestTold 21 = .ok (.iadd, 1) := by decide +kernel
theorem dX10_latestTold_22 : decode cX10_latestTold 22 = .ok (.iaload, 1) := by decide +kernel
theorem dX10_latestTold_23 : decode cX10_latestTold 23 = .ok (.invokestatic 315, 3) := by decide +kernel
theorem dX10_latestTold_26 : decode cX10_latestTold 26 = .ok (.istore_n 1, 1) := by decide +kernel
theorem dX10_latestTold_27 : decode cX10_latestTold 27 = .ok (.iinc 2 3, 3) := by decide +kernel
theorem dX10_latestTold_30 : decode cX10_latestTold 30 = .ok (.goto (-26), 3) := by decide +kernel
theorem dX10_latestTold_33 : decode cX10_latestTold 33 = .ok (.iload_n 1, 1) := by decide +kernel
theorem dX10_latestTold_34 : decode cX10_latestTold 34 = .ok (.ireturn, 1) := by decide +kernel
theorem dX10_asTold_0 : decode cX10_asTold 0 = .ok (.iconst 0, 1) := by decide +kernel
theorem dX10_asTold_1 : decode cX10_asTold 1 = .ok (.istore_n 2, 1) := by decide +kernel
theorem dX10_asTold_2 : decode cX10_asTold 2 = .ok (.iload_n 2, 1) := by decide +kernel
theorem dX10_asTold_3 : decode cX10_asTold 3 = .ok (.iconst 2, 1) := by decide +kernel
theorem dX10_asTold_4 : decode cX10_asTold 4 = .ok (.iadd, 1) := by decide +kernel
theorem dX10_asTold_5 : decode cX10_asTold 5 = .ok (.aload_n 0, 1) := by decide +kernel
theorem dX10_asTold_6 : decode cX10_asTold 6 = .ok (.getfield 89, 3) := by decide +kernel
theorem dX10_asTold_9 : decode cX10_asTold 9 = .ok (.if_icmp .ge 59, 3) := by decide +kernel
theorem dX10_asTold_12 : decode cX10_asTold 12 = .ok (.aload_n 0, 1) := by decide +kernel
theorem dX10_asTold_13 : decode cX10_asTold 13 = .ok (.getfield 85, 3) := by decide +kernel
theorem dX10_asTold_16 : decode cX10_asTold 16 = .ok (.iload_n 2, 1) := by decide +kernel
theorem dX10_asTold_17 : decode cX10_asTold 17 = .ok (.iaload, 1) := by decide +kernel
theorem dX10_asTold_18 : decode cX10_asTold 18 = .ok (.istore_n 3, 1) := by decide +kernel
theorem dX10_asTold_19 : decode cX10_asTold 19 = .ok (.aload_n 0, 1) := by decide +kernel
theorem dX10_asTold_20 : decode cX10_asTold 20 = .ok (.getfield 85, 3) := by decide +kernel
theorem dX10_asTold_23 : decode cX10_asTold 23 = .ok (.iload_n 2, 1) := by decide +kernel
theorem dX10_asTold_24 : decode cX10_asTold 24 = .ok (.iconst 1, 1) := by decide +kernel
theorem dX10_asTold_25 : decode cX10_asTold 25 = .ok (.iadd, 1) := by decide +kernel
theorem dX10_asTold_26 : decode cX10_asTold 26 = .ok (.iaload, 1) := by decide +kernel
theorem dX10_asTold_27 : decode cX10_asTold 27 = .ok (.iload_n 1, 1) := by decide +kernel
theorem dX10_asTold_28 : decode cX10_asTold 28 = .ok (.if_icmp .ne 34, 3) := by decide +kernel
theorem dX10_asTold_31 : decode cX10_asTold 31 = .ok (.iload_n 3, 1) := by decide +kernel
theorem dX10_asTold_32 : decode cX10_asTold 32 = .ok (.ifCond .lt 30, 3) := by decide +kernel
theorem dX10_asTold_35 : decode cX10_asTold 35 = .ok (.iload_n 3, 1) := by decide +kernel
theorem dX10_asTold_36 : decode cX10_asTold 36 = .ok (.iconst 5, 1) := by decide +kernel
theorem dX10_asTold_37 : decode cX10_asTold 37 = .ok (.if_icmp .ge 25, 3) := by decide +kernel
theorem dX10_asTold_40 : decode cX10_asTold 40 = .ok (.aload_n 0, 1) := by decide +kernel
theorem dX10_asTold_41 : decode cX10_asTold 41 = .ok (.getfield 30, 3) := by decide +kernel
theorem dX10_asTold_44 : decode cX10_asTold 44 = .ok (.getfield 189, 3) := by decide +kernel
theorem dX10_asTold_47 : decode cX10_asTold 47 = .ok (.iload_n 3, 1) := by decide +kernel
theorem dX10_asTold_48 : decode cX10_asTold 48 = .ok (.iaload, 1) := by decide +kernel
theorem dX10_asTold_49 : decode cX10_asTold 49 = .ok (.aload_n 0, 1) := by decide +kernel
theorem dX10_asTold_50 : decode cX10_asTold 50 = .ok (.getfield 85, 3) := by decide +kernel
theorem dX10_asTold_53 : decode cX10_asTold 53 = .ok (.iload_n 2, 1) := by decide +kernel
theorem dX10_asTold_54 : decode cX10_asTold 54 = .ok (.iconst 2, 1) := by decide +kernel
theorem dX10_asTold_55 : decode cX10_asTold 55 = .ok (.iadd, 1) := by decide +kernel
theorem dX10_asTold_56 : decode cX10_asTold 56 = .ok (.iaload, 1) := by decide +kernel
theorem dX10_asTold_57 : decode cX10_asTold 57 = .ok (.if_icmp .eq 5, 3) := by decide +kernel
theorem dX10_asTold_60 : decode cX10_asTold 60 = .ok (.iconst 0, 1) := by decide +kernel
theorem dX10_asTold_61 : decode cX10_asTold 61 = .ok (.ireturn, 1) := by decide +kernel
theorem dX10_asTold_62 : decode cX10_asTold 62 = .ok (.iinc 2 3, 3) := by decide +kernel
theorem dX10_asTold_65 : decode cX10_asTold 65 = .ok (.goto (-63), 3) := by decide +kernel
theorem dX10_asTold_68 : decode cX10_asTold 68 = .ok (.iconst 1, 1) := by decide +kernel
theorem dX10_asTold_69 : decode cX10_asTold 69 = .ok (.ireturn, 1) := by decide +kernel
theorem dX10_keepsParted_0 : decode cX10_keepsParted 0 = .ok (.iload_n 1, 1) := by decide +kernel
theorem dX10_keepsParted_1 : decode cX10_keepsParted 1 = .ok (.ifCond .lt 9, 3) := by decide +kernel
theorem dX10_keepsParted_4 : decode cX10_keepsParted 4 = .ok (.iload_n 1, 1) := by decide +kernel
theorem dX10_keepsParted_5 : decode cX10_keepsParted 5 = .ok (.bipush 37, 2) := by decide +kernel
theorem dX10_keepsParted_7 : decode cX10_keepsParted 7 = .ok (.if_icmp .lt 4, 3) := by decide +kernel
theorem dX10_keepsParted_10 : decode cX10_keepsParted 10 = .ok (.return_, 1) := by decide +kernel
theorem dX10_keepsParted_11 : decode cX10_keepsParted 11 = .ok (.iconst 0, 1) := by decide +kernel
theorem dX10_keepsParted_12 : decode cX10_keepsParted 12 = .ok (.istore_n 2, 1) := by decide +kernel
theorem dX10_keepsParted_13 : decode cX10_keepsParted 13 = .ok (.iload_n 2, 1) := by decide +kernel
theorem dX10_keepsParted_14 : decode cX10_keepsParted 14 = .ok (.aload_n 0, 1) := by decide +kernel
theorem dX10_keepsParted_15 : decode cX10_keepsParted 15 = .ok (.getfield 30, 3) := by decide +kernel
theorem dX10_keepsParted_18 : decode cX10_keepsParted 18 = .ok (.getfield 301, 3) := by decide +kernel
theorem dX10_keepsParted_21 : decode cX10_keepsParted 21 = .ok (.if_icmp .ge 28, 3) := by decide +kernel
theorem dX10_keepsParted_24 : decode cX10_keepsParted 24 = .ok (.aload_n 0, 1) := by decide +kernel
theorem dX10_keepsParted_25 : decode cX10_keepsParted 25 = .ok (.getfield 92, 3) := by decide +kernel
theorem dX10_keepsParted_28 : decode cX10_keepsParted 28 = .ok (.iload_n 1, 1) := by decide +kernel
theorem dX10_keepsParted_29 : decode cX10_keepsParted 29 = .ok (.iconst 5, 1) := by decide +kernel
theorem dX10_keepsParted_30 : decode cX10_keepsParted 30 = .ok (.imul, 1) := by decide +kernel
theorem dX10_keepsParted_31 : decode cX10_keepsParted 31 = .ok (.iload_n 2, 1) := by decide +kernel
theorem dX10_keepsParted_32 : decode cX10_keepsParted 32 = .ok (.iadd, 1) := by decide +kernel
theorem dX10_keepsParted_33 : decode cX10_keepsParted 33 = .ok (.aload_n 0, 1) := by decide +kernel
theorem dX10_keepsParted_34 : decode cX10_keepsParted 34 = .ok (.getfield 30, 3) := by decide +kernel
theorem dX10_keepsParted_37 : decode cX10_keepsParted 37 = .ok (.getfield 189, 3) := by decide +kernel
theorem dX10_keepsParted_40 : decode cX10_keepsParted 40 = .ok (.iload_n 2, 1) := by decide +kernel
theorem dX10_keepsParted_41 : decode cX10_keepsParted 41 = .ok (.iaload, 1) := by decide +kernel
theorem dX10_keepsParted_42 : decode cX10_keepsParted 42 = .ok (.iastore, 1) := by decide +kernel
theorem dX10_keepsParted_43 : decode cX10_keepsParted 43 = .ok (.iinc 2 1, 3) := by decide +kernel
theorem dX10_keepsParted_46 : decode cX10_keepsParted 46 = .ok (.goto (-33), 3) := by decide +kernel
theorem dX10_keepsParted_49 : decode cX10_keepsParted 49 = .ok (.return_, 1) := by decide +kernel
theorem dX10_greatestPart_0 : decode cX10_greatestPart 0 = .ok (.aload_n 0, 1) := by decide +kernel
theorem dX10_greatestPart_1 : decode cX10_greatestPart 1 = .ok (.getfield 95, 3) := by decide +kernel
theorem dX10_greatestPart_4 : decode cX10_greatestPart 4 = .ok (.iconst 0, 1) := by decide +kernel
theorem dX10_greatestPart_5 : decode cX10_greatestPart 5 = .ok (.invokestatic 328, 3) := by decide +kernel
theorem dX10_greatestPart_8 : decode cX10_greatestPart 8 = .ok (.iconst 0, 1) := by decide +kernel
theorem dX10_greatestPart_9 : decode cX10_greatestPart 9 = .ok (.istore_n 3, 1) := by decide +kernel
theorem dX10_greatestPart_10 : decode cX10_greatestPart 10 = .ok (.iconst 0, 1) := by decide +kernel
theorem dX10_greatestPart_11 : decode cX10_greatestPart 11 = .ok (.istore 4, 2) := by decide +kernel
theorem dX10_greatestPart_13 : decode cX10_greatestPart 13 = .ok (.iload 4, 2) := by decide +kernel
theorem dX10_greatestPart_15 : decode cX10_greatestPart 15 = .ok (.iload_n 2, 1) := by decide +kernel
theorem dX10_greatestPart_16 : decode cX10_greatestPart 16 = .ok (.if_icmp .ge 65, 3) := by decide +kernel
theorem dX10_greatestPart_19 : decode cX10_greatestPart 19 = .ok (.iload 4, 2) := by decide +kernel
theorem dX10_greatestPart_21 : decode cX10_greatestPart 21 = .ok (.bipush 37, 2) := by decide +kernel
theorem dX10_greatestPart_23 : decode cX10_greatestPart 23 = .ok (.if_icmp .ge 58, 3) := by decide +kernel
theorem dX10_greatestPart_26 : decode cX10_greatestPart 26 = .ok (.aload_n 0, 1) := by decide +kernel
theorem dX10_greatestPart_27 : decode cX10_greatestPart 27 = .ok (.getfield 92, 3) := by decide +kernel
theorem dX10_greatestPart_30 : decode cX10_greatestPart 30 = .ok (.iload 4, 2) := by decide +kernel
theorem dX10_greatestPart_32 : decode cX10_greatestPart 32 = .ok (.iconst 5, 1) := by decide +kernel
theorem dX10_greatestPart_33 : decode cX10_greatestPart 33 = .ok (.imul, 1) := by decide +kernel
theorem dX10_greatestPart_34 : decode cX10_greatestPart 34 = .ok (.iload_n 1, 1) := by decide +kernel
theorem dX10_greatestPart_35 : decode cX10_greatestPart 35 = .ok (.iadd, 1) := by decide +kernel
theorem dX10_greatestPart_36 : decode cX10_greatestPart 36 = .ok (.iaload, 1) := by decide +kernel
theorem dX10_greatestPart_37 : decode cX10_greatestPart 37 = .ok (.istore 5, 2) := by decide +kernel
theorem dX10_greatestPart_39 : decode cX10_greatestPart 39 = .ok (.iload 5, 2) := by decide +kernel
theorem dX10_greatestPart_41 : decode cX10_greatestPart 41 = .ok (.ifCond .lt 34, 3) := by decide +kernel
theorem dX10_greatestPart_44 : decode cX10_greatestPart 44 = .ok (.iload 5, 2) := by decide +kernel
theorem dX10_greatestPart_46 : decode cX10_greatestPart 46 = .ok (.sipush 200, 3) := by decide +kernel
theorem dX10_greatestPart_49 : decode cX10_greatestPart 49 = .ok (.if_icmp .gt 26, 3) := by decide +kernel
theorem dX10_greatestPart_52 : decode cX10_greatestPart 52 = .ok (.aload_n 0, 1) := by decide +kernel
theorem dX10_greatestPart_53 : decode cX10_greatestPart 53 = .ok (.getfield 95, 3) := by decide +kernel
theorem dX10_greatestPart_56 : decode cX10_greatestPart 56 = .ok (.iload 5, 2) := by decide +kernel
theorem dX10_greatestPart_58 : decode cX10_greatestPart 58 = .ok (.dup2, 1) := by decide +kernel
theorem dX10_greatestPart_59 : decode cX10_greatestPart 59 = .ok (.iaload, 1) := by decide +kernel
theorem dX10_greatestPart_60 : decode cX10_greatestPart 60 = .ok (.iconst 1, 1) := by decide +kernel
theorem dX10_greatestPart_61 : decode cX10_greatestPart 61 = .ok (.iadd, 1) := by decide +kernel
theorem dX10_greatestPart_62 : decode cX10_greatestPart 62 = .ok (.iastore, 1) := by decide +kernel
theorem dX10_greatestPart_63 : decode cX10_greatestPart 63 = .ok (.iload_n 3, 1) := by decide +kernel
theorem dX10_greatestPart_64 : decode cX10_greatestPart 64 = .ok (.aload_n 0, 1) := by decide +kernel
theorem dX10_greatestPart_65 : decode cX10_greatestPart 65 = .ok (.getfield 95, 3) := by decide +kernel
theorem dX10_greatestPart_68 : decode cX10_greatestPart 68 = .ok (.iload 5, 2) := by decide +kernel
theorem dX10_greatestPart_70 : decode cX10_greatestPart 70 = .ok (.iaload, 1) := by decide +kernel
theorem dX10_greatestPart_71 : decode cX10_greatestPart 71 = .ok (.invokestatic 315, 3) := by decide +kernel
theorem dX10_greatestPart_74 : decode cX10_greatestPart 74 = .ok (.istore_n 3, 1) := by decide +kernel
theorem dX10_greatestPart_75 : decode cX10_greatestPart 75 = .ok (.iinc 4 1, 3) := by decide +kernel
theorem dX10_greatestPart_78 : decode cX10_greatestPart 78 = .ok (.goto (-65), 3) := by decide +kernel
theorem dX10_greatestPart_81 : decode cX10_greatestPart 81 = .ok (.iload_n 3, 1) := by decide +kernel
theorem dX10_greatestPart_82 : decode cX10_greatestPart 82 = .ok (.ireturn, 1) := by decide +kernel
theorem dX10_worst_0 : decode cX10_worst 0 = .ok (.aload_n 0, 1) := by decide +kernel
theorem dX10_worst_1 : decode cX10_worst 1 = .ok (.iload_n 1, 1) := by decide +kernel
theorem dX10_worst_2 : decode cX10_worst 2 = .ok (.invokevirtual 173, 3) := by decide +kernel
theorem dX10_worst_5 : decode cX10_worst 5 = .ok (.iconst (-1), 1) := by decide +kernel
theorem dX10_worst_6 : decode cX10_worst 6 = .ok (.istore_n 2, 1) := by decide +kernel
theorem dX10_worst_7 : decode cX10_worst 7 = .ok (.iconst 0, 1) := by decide +kernel
theorem dX10_worst_8 : decode cX10_worst 8 = .ok (.istore_n 3, 1) := by decide +kernel
theorem dX10_worst_9 : decode cX10_worst 9 = .ok (.iconst 0, 1) := by decide +kernel
theorem dX10_worst_10 : decode cX10_worst 10 = .ok (.istore 4, 2) := by decide +kernel
theorem dX10_worst_12 : decode cX10_worst 12 = .ok (.iload 4, 2) := by decide +kernel
theorem dX10_worst_14 : decode cX10_worst 14 = .ok (.aload_n 0, 1) := by decide +kernel
theorem dX10_worst_15 : decode cX10_worst 15 = .ok (.getfield 26, 3) := by decide +kernel
theorem dX10_worst_18 : decode cX10_worst 18 = .ok (.getfield 281, 3) := by decide +kernel
theorem dX10_worst_21 : decode cX10_worst 21 = .ok (.if_icmp .ge 37, 3) := by decide +kernel
theorem dX10_worst_24 : decode cX10_worst 24 = .ok (.aload_n 0, 1) := by decide +kernel
theorem dX10_worst_25 : decode cX10_worst 25 = .ok (.getfield 26, 3) := by decide +kernel
theorem dX10_worst_28 : decode cX10_worst 28 = .ok (.iload 4, 2) := by decide +kernel
theorem dX10_worst_30 : decode cX10_worst 30 = .ok (.iload_n 1, 1) := by decide +kernel
theorem dX10_worst_31 : decode cX10_worst 31 = .ok (.invokevirtual 176, 3) := by decide +kernel
theorem dX10_worst_34 : decode cX10_worst 34 = .ok (.iload_n 3, 1) := by decide +kernel
theorem dX10_worst_35 : decode cX10_worst 35 = .ok (.if_icmp .le 17, 3) := by decide +kernel
theorem dX10_worst_38 : decode cX10_worst 38 = .ok (.aload_n 0, 1) := by decide +kernel
theorem dX10_worst_39 : decode cX10_worst 39 = .ok (.getfield 26, 3) := by decide +kernel
theorem dX10_worst_42 : decode cX10_worst 42 = .ok (.iload 4, 2) := by decide +kernel
theorem dX10_worst_44 : decode cX10_worst 44 = .ok (.iload_n 1, 1) := by decide +kernel
theorem dX10_worst_45 : decode cX10_worst 45 = .ok (.invokevirtual 176, 3) := by decide +kernel
theorem dX10_worst_48 : decode cX10_worst 48 = .ok (.istore_n 3, 1) := by decide +kernel
theorem dX10_worst_49 : decode cX10_worst 49 = .ok (.iload 4, 2) := by decide +kernel
theorem dX10_worst_51 : decode cX10_worst 51 = .ok (.istore_n 2, 1) := by decide +kernel
theorem dX10_worst_52 : decode cX10_worst 52 = .ok (.iinc 4 1, 3) := by decide +kernel
theorem dX10_worst_55 : decode cX10_worst 55 = .ok (.goto (-43), 3) := by decide +kernel
theorem dX10_worst_58 : decode cX10_worst 58 = .ok (.iload_n 2, 1) := by decide +kernel
theorem dX10_worst_59 : decode cX10_worst 59 = .ok (.ireturn, 1) := by decide +kernel
theorem dX10_alike_0 : decode cX10_alike 0 = .ok (.iconst 0, 1) := by decide +kernel
theorem dX10_alike_1 : decode cX10_alike 1 = .ok (.istore_n 1, 1) := by decide +kernel
theorem dX10_alike_2 : decode cX10_alike 2 = .ok (.iconst 0, 1) := by decide +kernel
theorem dX10_alike_3 : decode cX10_alike 3 = .ok (.istore_n 2, 1) := by decide +kernel
theorem dX10_alike_4 : decode cX10_alike 4 = .ok (.iload_n 2, 1) := by decide +kernel
theorem dX10_alike_5 : decode cX10_alike 5 = .ok (.aload_n 0, 1) := by decide +kernel
theorem dX10_alike_6 : decode cX10_alike 6 = .ok (.getfield 26, 3) := by decide +kernel
theorem dX10_alike_9 : decode cX10_alike 9 = .ok (.getfield 281, 3) := by decide +kernel
theorem dX10_alike_12 : decode cX10_alike 12 = .ok (.if_icmp .ge 62, 3) := by decide +kernel
theorem dX10_alike_15 : decode cX10_alike 15 = .ok (.aload_n 0, 1) := by decide +kernel
theorem dX10_alike_16 : decode cX10_alike 16 = .ok (.getfield 26, 3) := by decide +kernel
theorem dX10_alike_19 : decode cX10_alike 19 = .ok (.iload_n 2, 1) := by decide +kernel
theorem dX10_alike_20 : decode cX10_alike 20 = .ok (.invokevirtual 334, 3) := by decide +kernel
theorem dX10_alike_23 : decode cX10_alike 23 = .ok (.istore_n 3, 1) := by decide +kernel
theorem dX10_alike_24 : decode cX10_alike 24 = .ok (.iload_n 2, 1) := by decide +kernel
theorem dX10_alike_25 : decode cX10_alike 25 = .ok (.iconst 1, 1) := by decide +kernel
theorem dX10_alike_26 : decode cX10_alike 26 = .ok (.iadd, 1) := by decide +kernel
theorem dX10_alike_27 : decode cX10_alike 27 = .ok (.istore 4, 2) := by decide +kernel
theorem dX10_alike_29 : decode cX10_alike 29 = .ok (.iload 4, 2) := by decide +kernel
theorem dX10_alike_31 : decode cX10_alike 31 = .ok (.aload_n 0, 1) := by decide +kernel
theorem dX10_alike_32 : decode cX10_alike 32 = .ok (.getfield 26, 3) := by decide +kernel
theorem dX10_alike_35 : decode cX10_alike 35 = .ok (.getfield 281, 3) := by decide +kernel
theorem dX10_alike_38 : decode cX10_alike 38 = .ok (.if_icmp .ge 30, 3) := by decide +kernel
theorem dX10_alike_41 : decode cX10_alike 41 = .ok (.iload_n 3, 1) := by decide +kernel
theorem dX10_alike_42 : decode cX10_alike 42 = .ok (.iconst (-1), 1) := by decide +kernel
theorem dX10_alike_43 : decode cX10_alike 43 = .ok (.if_icmp .eq 19, 3) := by decide +kernel
theorem dX10_alike_46 : decode cX10_alike 46 = .ok (.iload_n 3, 1) := by decide +kernel
theorem dX10_alike_47 : decode cX10_alike 47 = .ok (.aload_n 0, 1) := by decide +kernel
theorem dX10_alike_48 : decode cX10_alike 48 = .ok (.getfield 26, 3) := by decide +kernel
theorem dX10_alike_51 : decode cX10_alike 51 = .ok (.iload 4, 2) := by decide +kernel
theorem dX10_alike_53 : decode cX10_alike 53 = .ok (.invokevirtual 334, 3) := by decide +kernel
theorem dX10_alike_56 : decode cX10_alike 56 = .ok (.if_icmp .ne 6, 3) := by decide +kernel
theorem dX10_alike_59 : decode cX10_alike 59 = .ok (.iinc 1 1, 3) := by decide +kernel
theorem dX10_alike_62 : decode cX10_alike 62 = .ok (.iinc 4 1, 3) := by decide +kernel
theorem dX10_alike_65 : decode cX10_alike 65 = .ok (.goto (-36), 3) := by decide +kernel
theorem dX10_alike_68 : decode cX10_alike 68 = .ok (.iinc 2 1, 3) := by decide +kernel
theorem dX10_alike_71 : decode cX10_alike 71 = .ok (.goto (-67), 3) := by decide +kernel
theorem dX10_alike_74 : decode cX10_alike 74 = .ok (.iload_n 1, 1) := by decide +kernel
theorem dX10_alike_75 : decode cX10_alike 75 = .ok (.ireturn, 1) := by decide +kernel
theorem dX10_share_0 : decode cX10_share 0 = .ok (.aload_n 0, 1) := by decide +kernel
theorem dX10_share_1 : decode cX10_share 1 = .ok (.iload_n 1, 1) := by decide +kernel
theorem dX10_share_2 : decode cX10_share 2 = .ok (.invokevirtual 149, 3) := by decide +kernel
theorem dX10_share_5 : decode cX10_share 5 = .ok (.aload_n 0, 1) := by decide +kernel
theorem dX10_share_6 : decode cX10_share 6 = .ok (.iload_n 2, 1) := by decide +kernel
theorem dX10_share_7 : decode cX10_share 7 = .ok (.invokevirtual 173, 3) := by decide +kernel
theorem dX10_share_10 : decode cX10_share 10 = .ok (.iconst 0, 1) := by decide +kernel
theorem dX10_share_11 : decode cX10_share 11 = .ok (.istore_n 3, 1) := by decide +kernel
theorem dX10_share_12 : decode cX10_share 12 = .ok (.iconst 0, 1) := by decide +kernel
theorem dX10_share_13 : decode cX10_share 13 = .ok (.istore 4, 2) := by decide +kernel
theorem dX10_share_15 : decode cX10_share 15 = .ok (.iload 4, 2) := by decide +kernel
theorem dX10_share_17 : decode cX10_share 17 = .ok (.aload_n 0, 1) := by decide +kernel
theorem dX10_share_18 : decode cX10_share 18 = .ok (.getfield 26, 3) := by decide +kernel
theorem dX10_share_21 : decode cX10_share 21 = .ok (.getfield 281, 3) := by decide +kernel
theorem dX10_share_24 : decode cX10_share 24 = .ok (.if_icmp .ge 22, 3) := by decide +kernel
theorem dX10_share_27 : decode cX10_share 27 = .ok (.iload_n 3, 1) := by decide +kernel
theorem dX10_share_28 : decode cX10_share 28 = .ok (.aload_n 0, 1) := by decide +kernel
theorem dX10_share_29 : decode cX10_share 29 = .ok (.getfield 26, 3) := by decide +kernel
theorem dX10_share_32 : decode cX10_share 32 = .ok (.iload 4, 2) := by decide +kernel
theorem dX10_share_34 : decode cX10_share 34 = .ok (.iload_n 2, 1) := by decide +kernel
theorem dX10_share_35 : decode cX10_share 35 = .ok (.invokevirtual 176, 3) := by decide +kernel
theorem dX10_share_38 : decode cX10_share 38 = .ok (.iadd, 1) := by decide +kernel
theorem dX10_share_39 : decode cX10_share 39 = .ok (.istore_n 3, 1) := by decide +kernel
theorem dX10_share_40 : decode cX10_share 40 = .ok (.iinc 4 1, 3) := by decide +kernel
theorem dX10_share_43 : decode cX10_share 43 = .ok (.goto (-28), 3) := by decide +kernel
theorem dX10_share_46 : decode cX10_share 46 = .ok (.iload_n 3, 1) := by decide +kernel
theorem dX10_share_47 : decode cX10_share 47 = .ok (.ifCond .gt 7, 3) := by decide +kernel
theorem dX10_share_50 : decode cX10_share 50 = .ok (.iconst 0, 1) := by decide +kernel
theorem dX10_share_51 : decode cX10_share 51 = .ok (.goto 17, 3) := by decide +kernel
theorem dX10_share_54 : decode cX10_share 54 = .ok (.bipush 100, 2) := by decide +kernel
theorem dX10_share_56 : decode cX10_share 56 = .ok (.aload_n 0, 1) := by decide +kernel
theorem dX10_share_57 : decode cX10_share 57 = .ok (.getfield 26, 3) := by decide +kernel
theorem dX10_share_60 : decode cX10_share 60 = .ok (.iload_n 1, 1) := by decide +kernel
theorem dX10_share_61 : decode cX10_share 61 = .ok (.iload_n 2, 1) := by decide +kernel
theorem dX10_share_62 : decode cX10_share 62 = .ok (.invokevirtual 176, 3) := by decide +kernel
theorem dX10_share_65 : decode cX10_share 65 = .ok (.imul, 1) := by decide +kernel
theorem dX10_share_66 : decode cX10_share 66 = .ok (.iload_n 3, 1) := by decide +kernel
theorem dX10_share_67 : decode cX10_share 67 = .ok (.idiv, 1) := by decide +kernel
theorem dX10_share_68 : decode cX10_share 68 = .ok (.ireturn, 1) := by decide +kernel
theorem dX10_whole_0 : decode cX10_whole 0 = .ok (.aload_n 0, 1) := by decide +kernel
theorem dX10_whole_1 : decode cX10_whole 1 = .ok (.getfield 26, 3) := by decide +kernel
theorem dX10_whole_4 : decode cX10_whole 4 = .ok (.getfield 337, 3) := by decide +kernel
theorem dX10_whole_7 : decode cX10_whole 7 = .ok (.aload_n 0, 1) := by decide +kernel
theorem dX10_whole_8 : decode cX10_whole 8 = .ok (.getfield 26, 3) := by decide +kernel
theorem dX10_whole_11 : decode cX10_whole 11 = .ok (.invokevirtual 340, 3) := by decide +kernel
theorem dX10_whole_14 : decode cX10_whole 14 = .ok (.iadd, 1) := by decide +kernel
theorem dX10_whole_15 : decode cX10_whole 15 = .ok (.istore_n 1, 1) := by decide +kernel
theorem dX10_whole_16 : decode cX10_whole 16 = .ok (.iconst 0, 1) := by decide +kernel
theorem dX10_whole_17 : decode cX10_whole 17 = .ok (.istore_n 2, 1) := by decide +kernel
theorem dX10_whole_18 : decode cX10_whole 18 = .ok (.iload_n 2, 1) := by decide +kernel
theorem dX10_whole_19 : decode cX10_whole 19 = .ok (.aload_n 0, 1) := by decide +kernel
theorem dX10_whole_20 : decode cX10_whole 20 = .ok (.getfield 26, 3) := by decide +kernel
theorem dX10_whole_23 : decode cX10_whole 23 = .ok (.getfield 281, 3) := by decide +kernel
theorem dX10_whole_26 : decode cX10_whole 26 = .ok (.if_icmp .ge 20, 3) := by decide +kernel
theorem dX10_whole_29 : decode cX10_whole 29 = .ok (.iload_n 1, 1) := by decide +kernel
theorem dX10_whole_30 : decode cX10_whole 30 = .ok (.aload_n 0, 1) := by decide +kernel
theorem dX10_whole_31 : decode cX10_whole 31 = .ok (.getfield 26, 3) := by decide +kernel
theorem dX10_whole_34 : decode cX10_whole 34 = .ok (.iload_n 2, 1) := by decide +kernel
theorem dX10_whole_35 : decode cX10_whole 35 = .ok (.invokevirtual 170, 3) := by decide +kernel
theorem dX10_whole_38 : decode cX10_whole 38 = .ok (.iadd, 1) := by decide +kernel
theorem dX10_whole_39 : decode cX10_whole 39 = .ok (.istore_n 1, 1) := by decide +kernel
theorem dX10_whole_40 : decode cX10_whole 40 = .ok (.iinc 2 1, 3) := by decide +kernel
theorem dX10_whole_43 : decode cX10_whole 43 = .ok (.goto (-25), 3) := by decide +kernel
theorem dX10_whole_46 : decode cX10_whole 46 = .ok (.iload_n 1, 1) := by decide +kernel
theorem dX10_whole_47 : decode cX10_whole 47 = .ok (.ireturn, 1) := by decide +kernel
theorem dX10_sentence_0 : decode cX10_sentence 0 = .ok (.aload_n 0, 1) := by decide +kernel
theorem dX10_sentence_1 : decode cX10_sentence 1 = .ok (.iload_n 1, 1) := by decide +kernel
theorem dX10_sentence_2 : decode cX10_sentence 2 = .ok (.invokevirtual 180, 3) := by decide +kernel
theorem dX10_sentence_5 : decode cX10_sentence 5 = .ok (.aload_n 0, 1) := by decide +kernel
theorem dX10_sentence_6 : decode cX10_sentence 6 = .ok (.iload_n 1, 1) := by decide +kernel
theorem dX10_sentence_7 : decode cX10_sentence 7 = .ok (.invokevirtual 343, 3) := by decide +kernel
theorem dX10_sentence_10 : decode cX10_sentence 10 = .ok (.ireturn, 1) := by decide +kernel
theorem dX10_takingsTillGone_0 : decode cX10_takingsTillGone 0 = .ok (.aload_n 0, 1) := by decide +kernel
theorem dX10_takingsTillGone_1 : decode cX10_takingsTillGone 1 = .ok (.getfield 26, 3) := by decide +kernel
theorem dX10_takingsTillGone_4 : decode cX10_takingsTillGone 4 = .ok (.getfield 189, 3) := by decide +kernel
theorem dX10_takingsTillGone_7 : decode cX10_takingsTillGone 7 = .ok (.iload_n 1, 1) := by decide +kernel
theorem dX10_takingsTillGone_8 : decode cX10_takingsTillGone 8 = .ok (.iaload, 1) := by decide +kernel
theorem dX10_takingsTillGone_9 : decode cX10_takingsTillGone 9 = .ok (.istore_n 2, 1) := by decide +kernel
theorem dX10_takingsTillGone_10 : decode cX10_takingsTillGone 10 = .ok (.iconst 0, 1) := by decide +kernel
theorem dX10_takingsTillGone_11 : decode cX10_takingsTillGone 11 = .ok (.istore_n 3, 1) := by decide +kernel
theorem dX10_takingsTillGone_12 : decode cX10_takingsTillGone 12 = .ok (.iconst 0, 1) := by decide +kernel
theorem dX10_takingsTillGone_13 : decode cX10_takingsTillGone 13 = .ok (.istore 4, 2) := by decide +kernel
theorem dX10_takingsTillGone_15 : decode cX10_takingsTillGone 15 = .ok (.iload 4, 2) := by decide +kernel
theorem dX10_takingsTillGone_17 : decode cX10_takingsTillGone 17 = .ok (.sipush 200, 3) := by decide +kernel
theorem dX10_takingsTillGone_20 : decode cX10_takingsTillGone 20 = .ok (.if_icmp .ge 54, 3) := by decide +kernel
theorem dX10_takingsTillGone_23 : decode cX10_takingsTillGone 23 = .ok (.iload_n 2, 1) := by decide +kernel
theorem dX10_takingsTillGone_24 : decode cX10_takingsTillGone 24 = .ok (.ifCond .le 50, 3) := by decide +kernel
theorem dX10_takingsTillGone_27 : decode cX10_takingsTillGone 27 = .ok (.iconst 0, 1) := by decide +kernel
theorem dX10_takingsTillGone_28 : decode cX10_takingsTillGone 28 = .ok (.istore 5, 2) := by decide +kernel
theorem dX10_takingsTillGone_30 : decode cX10_takingsTillGone 30 = .ok (.iload 5, 2) := by decide +kernel
theorem dX10_takingsTillGone_32 : decode cX10_takingsTillGone 32 = .ok (.aload_n 0, 1) := by decide +kernel
theorem dX10_takingsTillGone_33 : decode cX10_takingsTillGone 33 = .ok (.getfield 26, 3) := by decide +kernel
theorem dX10_takingsTillGone_36 : decode cX10_takingsTillGone 36 = .ok (.getfield 281, 3) := by decide +kernel
theorem dX10_takingsTillGone_39 : decode cX10_takingsTillGone 39 = .ok (.if_icmp .ge 29, 3) := by decide +kernel
theorem dX10_takingsTillGone_42 : decode cX10_takingsTillGone 42 = .ok (.iload_n 2, 1) := by decide +kernel
theorem dX10_takingsTillGone_43 : decode cX10_takingsTillGone 43 = .ok (.ifCond .le 25, 3) := by decide +kernel
theorem dX10_takingsTillGone_46 : decode cX10_takingsTillGone 46 = .ok (.iload_n 2, 1) := by decide +kernel
theorem dX10_takingsTillGone_47 : decode cX10_takingsTillGone 47 = .ok (.aload_n 0, 1) := by decide +kernel
theorem dX10_takingsTillGone_48 : decode cX10_takingsTillGone 48 = .ok (.getfield 26, 3) := by decide +kernel
theorem dX10_takingsTillGone_51 : decode cX10_takingsTillGone 51 = .ok (.getfield 160, 3) := by decide +kernel
theorem dX10_takingsTillGone_54 : decode cX10_takingsTillGone 54 = .ok (.iload 5, 2) := by decide +kernel
theorem dX10_takingsTillGone_56 : decode cX10_takingsTillGone 56 = .ok (.iaload, 1) := by decide +kernel
theorem dX10_takingsTillGone_57 : decode cX10_takingsTillGone 57 = .ok (.isub, 1) := by decide +kernel
theorem dX10_takingsTillGone_58 : decode cX10_takingsTillGone 58 = .ok (.istore_n 2, 1) := by decide +kernel
theorem dX10_takingsTillGone_59 : decode cX10_takingsTillGone 59 = .ok (.iinc 3 1, 3) := by decide +kernel
theorem dX10_takingsTillGone_62 : decode cX10_takingsTillGone 62 = .ok (.iinc 5 1, 3) := by decide +kernel
theorem dX10_takingsTillGone_65 : decode cX10_takingsTillGone 65 = .ok (.goto (-35), 3) := by decide +kernel
theorem dX10_takingsTillGone_68 : decode cX10_takingsTillGone 68 = .ok (.iinc 4 1, 3) := by decide +kernel
theorem dX10_takingsTillGone_71 : decode cX10_takingsTillGone 71 = .ok (.goto (-56), 3) := by decide +kernel
theorem dX10_takingsTillGone_74 : decode cX10_takingsTillGone 74 = .ok (.iload_n 2, 1) := by decide +kernel
theorem dX10_takingsTillGone_75 : decode cX10_takingsTillGone 75 = .ok (.ifCond .le 7, 3) := by decide +kernel
theorem dX10_takingsTillGone_78 : decode cX10_takingsTillGone 78 = .ok (.iconst (-1), 1) := by decide +kernel
theorem dX10_takingsTillGone_79 : decode cX10_takingsTillGone 79 = .ok (.goto 4, 3) := by decide +kernel
theorem dX10_takingsTillGone_82 : decode cX10_takingsTillGone 82 = .ok (.iload_n 3, 1) := by decide +kernel
theorem dX10_takingsTillGone_83 : decode cX10_takingsTillGone 83 = .ok (.ireturn, 1) := by decide +kernel
theorem dX10_alone_0 : decode cX10_alone 0 = .ok (.aload_n 0, 1) := by decide +kernel
theorem dX10_alone_1 : decode cX10_alone 1 = .ok (.iload_n 1, 1) := by decide +kernel
theorem dX10_alone_2 : decode cX10_alone 2 = .ok (.invokevirtual 180, 3) := by decide +kernel
theorem dX10_alone_5 : decode cX10_alone 5 = .ok (.aload_n 0, 1) := by decide +kernel
theorem dX10_alone_6 : decode cX10_alone 6 = .ok (.iload_n 2, 1) := by decide +kernel
theorem dX10_alone_7 : decode cX10_alone 7 = .ok (.invokevirtual 149, 3) := by decide +kernel
theorem dX10_alone_10 : decode cX10_alone 10 = .ok (.aload_n 0, 1) := by decide +kernel
theorem dX10_alone_11 : decode cX10_alone 11 = .ok (.getfield 53, 3) := by decide +kernel
theorem dX10_alone_14 : decode cX10_alone 14 = .ok (.getfield 207, 3) := by decide +kernel
theorem dX10_alone_17 : decode cX10_alone 17 = .ok (.astore_n 3, 1) := by decide +kernel
theorem dX10_alone_18 : decode cX10_alone 18 = .ok (.aload_n 3, 1) := by decide +kernel
theorem dX10_alone_19 : decode cX10_alone 19 = .ok (.aload_n 0, 1) := by decide +kernel
theorem dX10_alone_20 : decode cX10_alone 20 = .ok (.getfield 26, 3) := by decide +kernel
theorem dX10_alone_23 : decode cX10_alone 23 = .ok (.iload_n 1, 1) := by decide +kernel
theorem dX10_alone_24 : decode cX10_alone 24 = .ok (.iload_n 2, 1) := by decide +kernel
theorem dX10_alone_25 : decode cX10_alone 25 = .ok (.invokevirtual 211, 3) := by decide +kernel
theorem dX10_alone_28 : decode cX10_alone 28 = .ok (.iconst 0, 1) := by decide +kernel
theorem dX10_alone_29 : decode cX10_alone 29 = .ok (.istore 4, 2) := by decide +kernel
theorem dX10_alone_31 : decode cX10_alone 31 = .ok (.iload 4, 2) := by decide +kernel
theorem dX10_alone_33 : decode cX10_alone 33 = .ok (.sipush 200, 3) := by decide +kernel
theorem dX10_alone_36 : decode cX10_alone 36 = .ok (.if_icmp .gt 64, 3) := by decide +kernel
theorem dX10_alone_39 : decode cX10_alone 39 = .ok (.aload_n 3, 1) := by decide +kernel
theorem dX10_alone_40 : decode cX10_alone 40 = .ok (.getfield 346, 3) := by decide +kernel
theorem dX10_alone_43 : decode cX10_alone 43 = .ok (.ifCond .gt 6, 3) := by decide +kernel
theorem dX10_alone_46 : decode cX10_alone 46 = .ok (.iload 4, 2) := by decide +kernel
theorem dX10_alone_48 : decode cX10_alone 48 = .ok (.ireturn, 1) := by decide +kernel
theorem dX10_alone_49 : decode cX10_alone 49 = .ok (.aload_n 0, 1) := by decide +kernel
theorem dX10_alone_50 : decode cX10_alone 50 = .ok (.getfield 36, 3) := by decide +kernel
theorem dX10_alone_53 : decode cX10_alone 53 = .ok (.aload_n 3, 1) := by decide +kernel
theorem dX10_alone_54 : decode cX10_alone 54 = .ok (.invokevirtual 217, 3) := by decide +kernel
theorem dX10_alone_57 : decode cX10_alone 57 = .ok (.istore 5, 2) := by decide +kernel
theorem dX10_alone_59 : decode cX10_alone 59 = .ok (.iload 5, 2) := by decide +kernel
theorem dX10_alone_61 : decode cX10_alone 61 = .ok (.ifCond .gt 5, 3) := by decide +kernel
theorem dX10_alone_64 : decode cX10_alone 64 = .ok (.iconst (-1), 1) := by decide +kernel
theorem dX10_alone_65 : decode cX10_alone 65 = .ok (.ireturn, 1) := by decide +kernel
theorem dX10_alone_66 : decode cX10_alone 66 = .ok (.aload_n 3, 1) := by decide +kernel
theorem dX10_alone_67 : decode cX10_alone 67 = .ok (.dup, 1) := by decide +kernel
theorem dX10_alone_68 : decode cX10_alone 68 = .ok (.getfield 346, 3) := by decide +kernel
theorem dX10_alone_71 : decode cX10_alone 71 = .ok (.iload 5, 2) := by decide +kernel
theorem dX10_alone_73 : decode cX10_alone 73 = .ok (.isub, 1) := by decide +kernel
theorem dX10_alone_74 : decode cX10_alone 74 = .ok (.putfield 346, 3) := by decide +kernel
theorem dX10_alone_77 : decode cX10_alone 77 = .ok (.aload_n 3, 1) := by decide +kernel
theorem dX10_alone_78 : decode cX10_alone 78 = .ok (.sipush 999, 3) := by decide +kernel
theorem dX10_alone_81 : decode cX10_alone 81 = .ok (.aload_n 3, 1) := by decide +kernel
theorem dX10_alone_82 : decode cX10_alone 82 = .ok (.getfield 348, 3) := by decide +kernel
theorem dX10_alone_85 : decode cX10_alone 85 = .ok (.iload 5, 2) := by decide +kernel
theorem dX10_alone_87 : decode cX10_alone 87 = .ok (.iadd, 1) := by decide +kernel
theorem dX10_alone_88 : decode cX10_alone 88 = .ok (.invokestatic 234, 3) := by decide +kernel
theorem dX10_alone_91 : decode cX10_alone 91 = .ok (.putfield 348, 3) := by decide +kernel
theorem dX10_alone_94 : decode cX10_alone 94 = .ok (.iinc 4 1, 3) := by decide +kernel
theorem dX10_alone_97 : decode cX10_alone 97 = .ok (.goto (-66), 3) := by decide +kernel
theorem dX10_alone_100 : decode cX10_alone 100 = .ok (.iconst (-1), 1) := by decide +kernel
theorem dX10_alone_101 : decode cX10_alone 101 = .ok (.ireturn, 1) := by decide +kernel
theorem dX10_fair_0 : decode cX10_fair 0 = .ok (.iconst (-1), 1) := by decide +kernel
theorem dX10_fair_1 : decode cX10_fair 1 = .ok (.istore_n 1, 1) := by decide +kernel
theorem dX10_fair_2 : decode cX10_fair 2 = .ok (.iconst 0, 1) := by decide +kernel
theorem dX10_fair_3 : decode cX10_fair 3 = .ok (.istore_n 2, 1) := by decide +kernel
theorem dX10_fair_4 : decode cX10_fair 4 = .ok (.iconst 0, 1) := by decide +kernel
theorem dX10_fair_5 : decode cX10_fair 5 = .ok (.istore_n 3, 1) := by decide +kernel
theorem dX10_fair_6 : decode cX10_fair 6 = .ok (.iload_n 3, 1) := by decide +kernel
theorem dX10_fair_7 : decode cX10_fair 7 = .ok (.aload_n 0, 1) := by decide +kernel
theorem dX10_fair_8 : decode cX10_fair 8 = .ok (.getfield 26, 3) := by decide +kernel
theorem dX10_fair_11 : decode cX10_fair 11 = .ok (.getfield 301, 3) := by decide +kernel
theorem dX10_fair_14 : decode cX10_fair 14 = .ok (.if_icmp .ge 48, 3) := by decide +kernel
theorem dX10_fair_17 : decode cX10_fair 17 = .ok (.aload_n 0, 1) := by decide +kernel
theorem dX10_fair_18 : decode cX10_fair 18 = .ok (.getfield 26, 3) := by decide +kernel
theorem dX10_fair_21 : decode cX10_fair 21 = .ok (.getfield 189, 3) := by decide +kernel
theorem dX10_fair_24 : decode cX10_fair 24 = .ok (.iload_n 3, 1) := by decide +kernel
theorem dX10_fair_25 : decode cX10_fair 25 = .ok (.iaload, 1) := by decide +kernel
theorem dX10_fair_26 : decode cX10_fair 26 = .ok (.ifCond .gt 6, 3) := by decide +kernel
theorem dX10_fair_29 : decode cX10_fair 29 = .ok (.goto 27, 3) := by decide +kernel
theorem dX10_fair_32 : decode cX10_fair 32 = .ok (.aload_n 0, 1) := by decide +kernel
theorem dX10_fair_33 : decode cX10_fair 33 = .ok (.iload_n 3, 1) := by decide +kernel
theorem dX10_fair_34 : decode cX10_fair 34 = .ok (.invokevirtual 343, 3) := by decide +kernel
theorem dX10_fair_37 : decode cX10_fair 37 = .ok (.istore 4, 2) := by decide +kernel
theorem dX10_fair_39 : decode cX10_fair 39 = .ok (.iload_n 2, 1) := by decide +kernel
theorem dX10_fair_40 : decode cX10_fair 40 = .ok (.ifCond .eq 11, 3) := by decide +kernel
theorem dX10_fair_43 : decode cX10_fair 43 = .ok (.iload 4, 2) := by decide +kernel
theorem dX10_fair_45 : decode cX10_fair 45 = .ok (.iload_n 1, 1) := by decide +kernel
theorem dX10_fair_46 : decode cX10_fair 46 = .ok (.if_icmp .eq 5, 3) := by decide +kernel
theorem dX10_fair_49 : decode cX10_fair 49 = .ok (.iconst 0, 1) := by decide +kernel
theorem dX10_fair_50 : decode cX10_fair 50 = .ok (.ireturn, 1) := by decide +kernel
theorem dX10_fair_51 : decode cX10_fair 51 = .ok (.iconst 1, 1) := by decide +kernel
theorem dX10_fair_52 : decode cX10_fair 52 = .ok (.istore_n 2, 1) := by decide +kernel
theorem dX10_fair_53 : decode cX10_fair 53 = .ok (.iload 4, 2) := by decide +kernel
theorem dX10_fair_55 : decode cX10_fair 55 = .ok (.istore_n 1, 1) := by decide +kernel
theorem dX10_fair_56 : decode cX10_fair 56 = .ok (.iinc 3 1, 3) := by decide +kernel
theorem dX10_fair_59 : decode cX10_fair 59 = .ok (.goto (-53), 3) := by decide +kernel
theorem dX10_fair_62 : decode cX10_fair 62 = .ok (.iconst 1, 1) := by decide +kernel
theorem dX10_fair_63 : decode cX10_fair 63 = .ok (.ireturn, 1) := by decide +kernel
theorem dX10_game_0 : decode cX10_game 0 = .ok (.aload_n 0, 1) := by decide +kernel
theorem dX10_game_1 : decode cX10_game 1 = .ok (.iload_n 1, 1) := by decide +kernel
theorem dX10_game_2 : decode cX10_game 2 = .ok (.invokevirtual 149, 3) := by decide +kernel
theorem dX10_game_5 : decode cX10_game 5 = .ok (.aload_n 0, 1) := by decide +kernel
theorem dX10_game_6 : decode cX10_game 6 = .ok (.getfield 26, 3) := by decide +kernel
theorem dX10_game_9 : decode cX10_game 9 = .ok (.aload_n 0, 1) := by decide +kernel
theorem dX10_game_10 : decode cX10_game 10 = .ok (.getfield 26, 3) := by decide +kernel
theorem dX10_game_13 : decode cX10_game 13 = .ok (.iload_n 1, 1) := by decide +kernel
theorem dX10_game_14 : decode cX10_game 14 = .ok (.invokevirtual 156, 3) := by decide +kernel
theorem dX10_game_17 : decode cX10_game 17 = .ok (.invokevirtual 351, 3) := by decide +kernel
theorem dX10_game_20 : decode cX10_game 20 = .ok (.istore_n 2, 1) := by decide +kernel
theorem dX10_game_21 : decode cX10_game 21 = .ok (.iload_n 2, 1) := by decide +kernel
theorem dX10_game_22 : decode cX10_game 22 = .ok (.iconst (-1), 1) := by decide +kernel
theorem dX10_game_23 : decode cX10_game 23 = .ok (.if_icmp .ne 5, 3) := by decide +kernel
theorem dX10_game_26 : decode cX10_game 26 = .ok (.iconst (-1), 1) := by decide +kernel
theorem dX10_game_27 : decode cX10_game 27 = .ok (.ireturn, 1) := by decide +kernel
theorem dX10_game_28 : decode cX10_game 28 = .ok (.iconst 0, 1) := by decide +kernel
theorem dX10_game_29 : decode cX10_game 29 = .ok (.istore_n 3, 1) := by decide +kernel
theorem dX10_game_30 : decode cX10_game 30 = .ok (.iconst 0, 1) := by decide +kernel
theorem dX10_game_31 : decode cX10_game 31 = .ok (.istore 4, 2) := by decide +kernel
theorem dX10_game_33 : decode cX10_game 33 = .ok (.iload 4, 2) := by decide +kernel
theorem dX10_game_35 : decode cX10_game 35 = .ok (.iconst 4, 1) := by decide +kernel
theorem dX10_game_36 : decode cX10_game 36 = .ok (.if_icmp .ge 82, 3) := by decide +kernel
theorem dX10_game_39 : decode cX10_game 39 = .ok (.aload_n 0, 1) := by decide +kernel
theorem dX10_game_40 : decode cX10_game 40 = .ok (.iload 4, 2) := by decide +kernel
theorem dX10_game_42 : decode cX10_game 42 = .ok (.iload_n 2, 1) := by decide +kernel
theorem dX10_game_43 : decode cX10_game 43 = .ok (.iload_n 1, 1) := by decide +kernel
theorem dX10_game_44 : decode cX10_game 44 = .ok (.invokevirtual 354, 3) := by decide +kernel
theorem dX10_game_47 : decode cX10_game 47 = .ok (.aload_n 0, 1) := by decide +kernel
theorem dX10_game_48 : decode cX10_game 48 = .ok (.iload 4, 2) := by decide +kernel
theorem dX10_game_50 : decode cX10_game 50 = .ok (.iconst 2, 1) := by decide +kernel
theorem dX10_game_51 : decode cX10_game 51 = .ok (.ixor, 1) := by decide +kernel
theorem dX10_game_52 : decode cX10_game 52 = .ok (.iload_n 2, 1) := by decide +kernel
theorem dX10_game_53 : decode cX10_game 53 = .ok (.iload_n 1, 1) := by decide +kernel
theorem dX10_game_54 : decode cX10_game 54 = .ok (.invokevirtual 354, 3) := by decide +kernel
theorem dX10_game_57 : decode cX10_game 57 = .ok (.if_icmp .lt 7, 3) := by decide +kernel
theorem dX10_game_60 : decode cX10_game 60 = .ok (.iconst 1, 1) := by decide +kernel
theorem dX10_game_61 : decode cX10_game 61 = .ok (.goto 4, 3) := by decide +kernel
theorem dX10_game_64 : decode cX10_game 64 = .ok (.iconst 0, 1) := by decide +kernel
theorem dX10_game_65 : decode cX10_game 65 = .ok (.istore 5, 2) := by decide +kernel
theorem dX10_game_67 : decode cX10_game 67 = .ok (.aload_n 0, 1) := by decide +kernel
theorem dX10_game_68 : decode cX10_game 68 = .ok (.iload 4, 2) := by decide +kernel
theorem dX10_game_70 : decode cX10_game 70 = .ok (.iload_n 2, 1) := by decide +kernel
theorem dX10_game_71 : decode cX10_game 71 = .ok (.iload_n 1, 1) := by decide +kernel
theorem dX10_game_72 : decode cX10_game 72 = .ok (.invokevirtual 358, 3) := by decide +kernel
theorem dX10_game_75 : decode cX10_game 75 = .ok (.aload_n 0, 1) := by decide +kernel
theorem dX10_game_76 : decode cX10_game 76 = .ok (.iload 4, 2) := by decide +kernel
theorem dX10_game_78 : decode cX10_game 78 = .ok (.iconst 1, 1) := by decide +kernel
theorem dX10_game_79 : decode cX10_game 79 = .ok (.ixor, 1) := by decide +kernel
theorem dX10_game_80 : decode cX10_game 80 = .ok (.iload_n 2, 1) := by decide +kernel
theorem dX10_game_81 : decode cX10_game 81 = .ok (.iload_n 1, 1) := by decide +kernel
theorem dX10_game_82 : decode cX10_game 82 = .ok (.invokevirtual 358, 3) := by decide +kernel
theorem dX10_game_85 : decode cX10_game 85 = .ok (.if_icmp .lt 7, 3) := by decide +kernel
theorem dX10_game_88 : decode cX10_game 88 = .ok (.iconst 1, 1) := by decide +kernel
theorem dX10_game_89 : decode cX10_game 89 = .ok (.goto 4, 3) := by decide +kernel
theorem dX10_game_92 : decode cX10_game 92 = .ok (.iconst 0, 1) := by decide +kernel
theorem dX10_game_93 : decode cX10_game 93 = .ok (.istore 6, 2) := by decide +kernel
theorem dX10_game_95 : decode cX10_game 95 = .ok (.iload 5, 2) := by decide +kernel
theorem dX10_game_97 : decode cX10_game 97 = .ok (.ifCond .eq 15, 3) := by decide +kernel
theorem dX10_game_100 : decode cX10_game 100 = .ok (.iload 6, 2) := by decide +kernel
theorem dX10_game_102 : decode cX10_game 102 = .ok (.ifCond .eq 10, 3) := by decide +kernel
theorem dX10_game_105 : decode cX10_game 105 = .ok (.iload_n 3, 1) := by decide +kernel
theorem dX10_game_106 : decode cX10_game 106 = .ok (.iconst 1, 1) := by decide +kernel
theorem dX10_game_107 : decode cX10_game 107 = .ok (.iload 4, 2) := by decide +kernel
theorem dX10_game_109 : decode cX10_game 109 = .ok (.ishl, 1) := by decide +kernel
theorem dX10_game_110 : decode cX10_game 110 = .ok (.ior, 1) := by decide +kernel
theorem dX10_game_111 : decode cX10_game 111 = .ok (.istore_n 3, 1) := by decide +kernel
theorem dX10_game_112 : decode cX10_game 112 = .ok (.iinc 4 1, 3) := by decide +kernel
theorem dX10_game_115 : decode cX10_game 115 = .ok (.goto (-82), 3) := by decide +kernel
theorem dX10_game_118 : decode cX10_game 118 = .ok (.iload_n 3, 1) := by decide +kernel
theorem dX10_game_119 : decode cX10_game 119 = .ok (.ireturn, 1) := by decide +kernel
theorem dX10_cookHas_0 : decode cX10_cookHas 0 = .ok (.aload_n 0, 1) := by decide +kernel
theorem dX10_cookHas_1 : decode cX10_cookHas 1 = .ok (.getfield 53, 3) := by decide +kernel
theorem dX10_cookHas_4 : decode cX10_cookHas 4 = .ok (.getfield 207, 3) := by decide +kernel
theorem dX10_cookHas_7 : decode cX10_cookHas 7 = .ok (.astore 4, 2) := by decide +kernel
theorem dX10_cookHas_9 : decode cX10_cookHas 9 = .ok (.aload 4, 2) := by decide +kernel
theorem dX10_cookHas_11 : decode cX10_cookHas 11 = .ok (.aload_n 0, 1) := by decide +kernel
theorem dX10_cookHas_12 : decode cX10_cookHas 12 = .ok (.getfield 26, 3) := by decide +kernel
theorem dX10_cookHas_15 : decode cX10_cookHas 15 = .ok (.iload_n 2, 1) := by decide +kernel
theorem dX10_cookHas_16 : decode cX10_cookHas 16 = .ok (.iload_n 3, 1) := by decide +kernel
theorem dX10_cookHas_17 : decode cX10_cookHas 17 = .ok (.invokevirtual 211, 3) := by decide +kernel
theorem dX10_cookHas_20 : decode cX10_cookHas 20 = .ok (.aload 4, 2) := by decide +kernel
theorem dX10_cookHas_22 : decode cX10_cookHas 22 = .ok (.iload_n 1, 1) := by decide +kernel
theorem dX10_cookHas_23 : decode cX10_cookHas 23 = .ok (.iconst 2, 1) := by decide +kernel
theorem dX10_cookHas_24 : decode cX10_cookHas 24 = .ok (.iand, 1) := by decide +kernel
theorem dX10_cookHas_25 : decode cX10_cookHas 25 = .ok (.ifCond .ne 7, 3) := by decide +kernel
theorem dX10_cookHas_28 : decode cX10_cookHas 28 = .ok (.iconst 1, 1) := by decide +kernel
theorem dX10_cookHas_29 : decode cX10_cookHas 29 = .ok (.goto 4, 3) := by decide +kernel
theorem dX10_cookHas_32 : decode cX10_cookHas 32 = .ok (.iconst 0, 1) := by decide +kernel
theorem dX10_cookHas_33 : decode cX10_cookHas 33 = .ok (.putfield 361, 3) := by decide +kernel
theorem dX10_cookHas_36 : decode cX10_cookHas 36 = .ok (.aload 4, 2) := by decide +kernel
theorem dX10_cookHas_38 : decode cX10_cookHas 38 = .ok (.iload_n 1, 1) := by decide +kernel
theorem dX10_cookHas_39 : decode cX10_cookHas 39 = .ok (.iconst 1, 1) := by decide +kernel
theorem dX10_cookHas_40 : decode cX10_cookHas 40 = .ok (.iand, 1) := by decide +kernel
theorem dX10_cookHas_41 : decode cX10_cookHas 41 = .ok (.ifCond .ne 7, 3) := by decide +kernel
theorem dX10_cookHas_44 : decode cX10_cookHas 44 = .ok (.iconst 1, 1) := by decide +kernel
theorem dX10_cookHas_45 : decode cX10_cookHas 45 = .ok (.goto 4, 3) := by decide +kernel
theorem dX10_cookHas_48 : decode cX10_cookHas 48 = .ok (.iconst 0, 1) := by decide +kernel
theorem dX10_cookHas_49 : decode cX10_cookHas 49 = .ok (.putfield 364, 3) := by decide +kernel
theorem dX10_cookHas_52 : decode cX10_cookHas 52 = .ok (.aload_n 0, 1) := by decide +kernel
theorem dX10_cookHas_53 : decode cX10_cookHas 53 = .ok (.getfield 36, 3) := by decide +kernel
theorem dX10_cookHas_56 : decode cX10_cookHas 56 = .ok (.aload 4, 2) := by decide +kernel
theorem dX10_cookHas_58 : decode cX10_cookHas 58 = .ok (.invokevirtual 217, 3) := by decide +kernel
theorem dX10_cookHas_61 : decode cX10_cookHas 61 = .ok (.ireturn, 1) := by decide +kernel
theorem dX10_dinerHas_0 : decode cX10_dinerHas 0 = .ok (.iload_n 1, 1) := by decide +kernel
theorem dX10_dinerHas_1 : decode cX10_dinerHas 1 = .ok (.iconst 1, 1) := by decide +kernel
theorem dX10_dinerHas_2 : decode cX10_dinerHas 2 = .ok (.iand, 1) := by decide +kernel
theorem dX10_dinerHas_3 : decode cX10_dinerHas 3 = .ok (.ifCond .ne 5, 3) := by decide +kernel
theorem dX10_dinerHas_6 : decode cX10_dinerHas 6 = .ok (.iconst 2, 1) := by decide +kernel
theorem dX10_dinerHas_7 : decode cX10_dinerHas 7 = .ok (.ireturn, 1) := by decide +kernel
theorem dX10_dinerHas_8 : decode cX10_dinerHas 8 = .ok (.aload_n 0, 1) := by decide +kernel
theorem dX10_dinerHas_9 : decode cX10_dinerHas 9 = .ok (.iload_n 1, 1) := by decide +kernel
theorem dX10_dinerHas_10 : decode cX10_dinerHas 10 = .ok (.iload_n 2, 1) := by decide +kernel
theorem dX10_dinerHas_11 : decode cX10_dinerHas 11 = .ok (.iload_n 3, 1) := by decide +kernel
theorem dX10_dinerHas_12 : decode cX10_dinerHas 12 = .ok (.invokevirtual 354, 3) := by decide +kernel
theorem dX10_dinerHas_15 : decode cX10_dinerHas 15 = .ok (.ifCond .le 15, 3) := by decide +kernel
theorem dX10_dinerHas_18 : decode cX10_dinerHas 18 = .ok (.aload_n 0, 1) := by decide +kernel
theorem dX10_dinerHas_19 : decode cX10_dinerHas 19 = .ok (.getfield 26, 3) := by decide +kernel
theorem dX10_dinerHas_22 : decode cX10_dinerHas 22 = .ok (.getfield 160, 3) := by decide +kernel
theorem dX10_dinerHas_25 : decode cX10_dinerHas 25 = .ok (.iload_n 3, 1) := by decide +kernel
theorem dX10_dinerHas_26 : decode cX10_dinerHas 26 = .ok (.iaload, 1) := by decide +kernel
theorem dX10_dinerHas_27 : decode cX10_dinerHas 27 = .ok (.goto 4, 3) := by decide +kernel
theorem dX10_dinerHas_30 : decode cX10_dinerHas 30 = .ok (.iconst 0, 1) := by decide +kernel
theorem dX10_dinerHas_31 : decode cX10_dinerHas 31 = .ok (.ireturn, 1) := by decide +kernel
theorem dX10_crowd_0 : decode cX10_crowd 0 = .ok (.iconst (-1), 1) := by decide +kernel
theorem dX10_crowd_1 : decode cX10_crowd 1 = .ok (.istore_n 1, 1) := by decide +kernel
theorem dX10_crowd_2 : decode cX10_crowd 2 = .ok (.iconst 0, 1) := by decide +kernel
theorem dX10_crowd_3 : decode cX10_crowd 3 = .ok (.istore_n 2, 1) := by decide +kernel
theorem dX10_crowd_4 : decode cX10_crowd 4 = .ok (.iconst 0, 1) := by decide +kernel
theorem dX10_crowd_5 : decode cX10_crowd 5 = .ok (.istore_n 3, 1) := by decide +kernel
theorem dX10_crowd_6 : decode cX10_crowd 6 = .ok (.iload_n 3, 1) := by decide +kernel
theorem dX10_crowd_7 : decode cX10_crowd 7 = .ok (.bipush 10, 2) := by decide +kernel
theorem dX10_crowd_9 : decode cX10_crowd 9 = .ok (.if_icmp .ge 33, 3) := by decide +kernel
theorem dX10_crowd_12 : decode cX10_crowd 12 = .ok (.aload_n 0, 1) := by decide +kernel
theorem dX10_crowd_13 : decode cX10_crowd 13 = .ok (.getfield 26, 3) := by decide +kernel
theorem dX10_crowd_16 : decode cX10_crowd 16 = .ok (.iload_n 3, 1) := by decide +kernel
theorem dX10_crowd_17 : decode cX10_crowd 17 = .ok (.invokevirtual 367, 3) := by decide +kernel
theorem dX10_crowd_20 : decode cX10_crowd 20 = .ok (.invokestatic 284, 3) := by decide +kernel
theorem dX10_crowd_23 : decode cX10_crowd 23 = .ok (.istore 4, 2) := by decide +kernel
theorem dX10_crowd_25 : decode cX10_crowd 25 = .ok (.iload 4, 2) := by decide +kernel
theorem dX10_crowd_27 : decode cX10_crowd 27 = .ok (.iload_n 2, 1) := by decide +kernel
theorem dX10_crowd_28 : decode cX10_crowd 28 = .ok (.if_icmp .le 8, 3) := by decide +kernel
theorem dX10_crowd_31 : decode cX10_crowd 31 = .ok (.iload 4, 2) := by decide +kernel
theorem dX10_crowd_33 : decode cX10_crowd 33 = .ok (.istore_n 2, 1) := by decide +kernel
theorem dX10_crowd_34 : decode cX10_crowd 34 = .ok (.iload_n 3, 1) := by decide +kernel
theorem dX10_crowd_35 : decode cX10_crowd 35 = .ok (.istore_n 1, 1) := by decide +kernel
theorem dX10_crowd_36 : decode cX10_crowd 36 = .ok (.iinc 3 1, 3) := by decide +kernel
theorem dX10_crowd_39 : decode cX10_crowd 39 = .ok (.goto (-33), 3) := by decide +kernel
theorem dX10_crowd_42 : decode cX10_crowd 42 = .ok (.iload_n 1, 1) := by decide +kernel
theorem dX10_crowd_43 : decode cX10_crowd 43 = .ok (.ireturn, 1) := by decide +kernel
theorem dX10_gaps_0 : decode cX10_gaps 0 = .ok (.iconst 0, 1) := by decide +kernel
theorem dX10_gaps_1 : decode cX10_gaps 1 = .ok (.istore_n 1, 1) := by decide +kernel
theorem dX10_gaps_2 : decode cX10_gaps 2 = .ok (.iconst 0, 1) := by decide +kernel
theorem dX10_gaps_3 : decode cX10_gaps 3 = .ok (.istore_n 2, 1) := by decide +kernel
theorem dX10_gaps_4 : decode cX10_gaps 4 = .ok (.iload_n 2, 1) := by decide +kernel
theorem dX10_gaps_5 : decode cX10_gaps 5 = .ok (.bipush 10, 2) := by decide +kernel
theorem dX10_gaps_7 : decode cX10_gaps 7 = .ok (.if_icmp .ge 27, 3) := by decide +kernel
theorem dX10_gaps_10 : decode cX10_gaps 10 = .ok (.aload_n 0, 1) := by decide +kernel
theorem dX10_gaps_11 : decode cX10_gaps 11 = .ok (.getfield 26, 3) := by decide +kernel
theorem dX10_gaps_14 : decode cX10_gaps 14 = .ok (.iload_n 2, 1) := by decide +kernel
theorem dX10_gaps_15 : decode cX10_gaps 15 = .ok (.invokevirtual 198, 3) := by decide +kernel
theorem dX10_gaps_18 : decode cX10_gaps 18 = .ok (.iconst (-1), 1) := by decide +kernel
theorem dX10_gaps_19 : decode cX10_gaps 19 = .ok (.if_icmp .ne 9, 3) := by decide +kernel
theorem dX10_gaps_22 : decode cX10_gaps 22 = .ok (.iload_n 1, 1) := by decide +kernel
theorem dX10_gaps_23 : decode cX10_gaps 23 = .ok (.iconst 1, 1) := by decide +kernel
theorem dX10_gaps_24 : decode cX10_gaps 24 = .ok (.iload_n 2, 1) := by decide +kernel
theorem dX10_gaps_25 : decode cX10_gaps 25 = .ok (.ishl, 1) := by decide +kernel
theorem dX10_gaps_26 : decode cX10_gaps 26 = .ok (.ior, 1) := by decide +kernel
theorem dX10_gaps_27 : decode cX10_gaps 27 = .ok (.istore_n 1, 1) := by decide +kernel
theorem dX10_gaps_28 : decode cX10_gaps 28 = .ok (.iinc 2 1, 3) := by decide +kernel
theorem dX10_gaps_31 : decode cX10_gaps 31 = .ok (.goto (-27), 3) := by decide +kernel
theorem dX10_gaps_34 : decode cX10_gaps 34 = .ok (.iload_n 1, 1) := by decide +kernel
theorem dX10_gaps_35 : decode cX10_gaps 35 = .ok (.ireturn, 1) := by decide +kernel
theorem dX10_meets_0 : decode cX10_meets 0 = .ok (.aload_n 0, 1) := by decide +kernel
theorem dX10_meets_1 : decode cX10_meets 1 = .ok (.iload_n 1, 1) := by decide +kernel
theorem dX10_meets_2 : decode cX10_meets 2 = .ok (.invokevirtual 149, 3) := by decide +kernel
theorem dX10_meets_5 : decode cX10_meets 5 = .ok (.aload_n 0, 1) := by decide +kernel
theorem dX10_meets_6 : decode cX10_meets 6 = .ok (.invokevirtual 266, 3) := by decide +kernel
theorem dX10_meets_9 : decode cX10_meets 9 = .ok (.aload_n 0, 1) := by decide +kernel
theorem dX10_meets_10 : decode cX10_meets 10 = .ok (.getfield 26, 3) := by decide +kernel
theorem dX10_meets_13 : decode cX10_meets 13 = .ok (.iload_n 1, 1) := by decide +kernel
theorem dX10_meets_14 : decode cX10_meets 14 = .ok (.invokevirtual 156, 3) := by decide +kernel
theorem dX10_meets_17 : decode cX10_meets 17 = .ok (.istore_n 2, 1) := by decide +kernel
theorem dX10_meets_18 : decode cX10_meets 18 = .ok (.iconst 0, 1) := by decide +kernel
theorem dX10_meets_19 : decode cX10_meets 19 = .ok (.istore_n 3, 1) := by decide +kernel
theorem dX10_meets_20 : decode cX10_meets 20 = .ok (.iconst 0, 1) := by decide +kernel
theorem dX10_meets_21 : decode cX10_meets 21 = .ok (.istore 4, 2) := by decide +kernel
theorem dX10_meets_23 : decode cX10_meets 23 = .ok (.iload 4, 2) := by decide +kernel
theorem dX10_meets_25 : decode cX10_meets 25 = .ok (.bipush 12, 2) := by decide +kernel
theorem dX10_meets_27 : decode cX10_meets 27 = .ok (.if_icmp .ge 36, 3) := by decide +kernel
theorem dX10_meets_30 : decode cX10_meets 30 = .ok (.iload_n 3, 1) := by decide +kernel
theorem dX10_meets_31 : decode cX10_meets 31 = .ok (.aload_n 0, 1) := by decide +kernel
theorem dX10_meets_32 : decode cX10_meets 32 = .ok (.getfield 30, 3) := by decide +kernel
theorem dX10_meets_35 : decode cX10_meets 35 = .ok (.iload_n 2, 1) := by decide +kernel
theorem dX10_meets_36 : decode cX10_meets 36 = .ok (.invokevirtual 367, 3) := by decide +kernel
theorem dX10_meets_39 : decode cX10_meets 39 = .ok (.ior, 1) := by decide +kernel
theorem dX10_meets_40 : decode cX10_meets 40 = .ok (.istore_n 3, 1) := by decide +kernel
theorem dX10_meets_41 : decode cX10_meets 41 = .ok (.aload_n 0, 1) := by decide +kernel
theorem dX10_meets_42 : decode cX10_meets 42 = .ok (.getfield 53, 3) := by decide +kernel
theorem dX10_meets_45 : decode cX10_meets 45 = .ok (.aload_n 0, 1) := by decide +kernel
theorem dX10_meets_46 : decode cX10_meets 46 = .ok (.getfield 30, 3) := by decide +kernel
theorem dX10_meets_49 : decode cX10_meets 49 = .ok (.aload_n 0, 1) := by decide +kernel
theorem dX10_meets_50 : decode cX10_meets 50 = .ok (.getfield 36, 3) := by decide +kernel
theorem dX10_meets_53 : decode cX10_meets 53 = .ok (.invokevirtual 324, 3) := by decide +kernel
theorem dX10_meets_56 : decode cX10_meets 56 = .ok (.pop, 1) := by decide +kernel
theorem dX10_meets_57 : decode cX10_meets 57 = .ok (.iinc 4 1, 3) := by decide +kernel
theorem dX10_meets_60 : decode cX10_meets 60 = .ok (.goto (-37), 3) := by decide +kernel
theorem dX10_meets_63 : decode cX10_meets 63 = .ok (.iload_n 3, 1) := by decide +kernel
theorem dX10_meets_64 : decode cX10_meets 64 = .ok (.ireturn, 1) := by decide +kernel
theorem dX10_least_0 : decode cX10_least 0 = .ok (.aload_n 0, 1) := by decide +kernel
theorem dX10_least_1 : decode cX10_least 1 = .ok (.iload_n 1, 1) := by decide +kernel
theorem dX10_least_2 : decode cX10_least 2 = .ok (.iconst 0, 1) := by decide +kernel
theorem dX10_least_3 : decode cX10_least 3 = .ok (.bipush 60, 2) := by decide +kernel
theorem dX10_least_5 : decode cX10_least 5 = .ok (.invokevirtual 230, 3) := by decide +kernel
theorem dX10_least_8 : decode cX10_least 8 = .ok (.aload_n 0, 1) := by decide +kernel
theorem dX10_least_9 : decode cX10_least 9 = .ok (.invokevirtual 266, 3) := by decide +kernel
theorem dX10_least_12 : decode cX10_least 12 = .ok (.iconst 0, 1) := by decide +kernel
theorem dX10_least_13 : decode cX10_least 13 = .ok (.istore_n 2, 1) := by decide +kernel
theorem dX10_least_14 : decode cX10_least 14 = .ok (.aload_n 0, 1) := by decide +kernel
theorem dX10_least_15 : decode cX10_least 15 = .ok (.getfield 53, 3) := by decide +kernel
theorem dX10_least_18 : decode cX10_least 18 = .ok (.aload_n 0, 1) := by decide +kernel
theorem dX10_least_19 : decode cX10_least 19 = .ok (.getfield 30, 3) := by decide +kernel
theorem dX10_least_22 : decode cX10_least 22 = .ok (.aload_n 0, 1) := by decide +kernel
theorem dX10_least_23 : decode cX10_least 23 = .ok (.getfield 36, 3) := by decide +kernel
theorem dX10_least_26 : decode cX10_least 26 = .ok (.invokevirtual 324, 3) := by decide +kernel
theorem dX10_least_29 : decode cX10_least 29 = .ok (.istore_n 3, 1) := by decide +kernel
theorem dX10_least_30 : decode cX10_least 30 = .ok (.iconst 1, 1) := by decide +kernel
theorem dX10_least_31 : decode cX10_least 31 = .ok (.istore 4, 2) := by decide +kernel
theorem dX10_least_33 : decode cX10_least 33 = .ok (.iload 4, 2) := by decide +kernel
theorem dX10_least_35 : decode cX10_least 35 = .ok (.iload_n 1, 1) := by decide +kernel
theorem dX10_least_36 : decode cX10_least 36 = .ok (.if_icmp .gt 38, 3) := by decide +kernel
theorem dX10_least_39 : decode cX10_least 39 = .ok (.aload_n 0, 1) := by decide +kernel
theorem dX10_least_40 : decode cX10_least 40 = .ok (.getfield 53, 3) := by decide +kernel
theorem dX10_least_43 : decode cX10_least 43 = .ok (.aload_n 0, 1) := by decide +kernel
theorem dX10_least_44 : decode cX10_least 44 = .ok (.getfield 30, 3) := by decide +kernel
theorem dX10_least_47 : decode cX10_least 47 = .ok (.aload_n 0, 1) := by decide +kernel
theorem dX10_least_48 : decode cX10_least 48 = .ok (.getfield 36, 3) := by decide +kernel
theorem dX10_least_51 : decode cX10_least 51 = .ok (.invokevirtual 324, 3) := by decide +kernel
theorem dX10_least_54 : decode cX10_least 54 = .ok (.istore 5, 2) := by decide +kernel
theorem dX10_least_56 : decode cX10_least 56 = .ok (.iload 5, 2) := by decide +kernel
theorem dX10_least_58 : decode cX10_least 58 = .ok (.iload_n 3, 1) := by decide +kernel
theorem dX10_least_59 : decode cX10_least 59 = .ok (.if_icmp .ge 9, 3) := by decide +kernel
theorem dX10_least_62 : decode cX10_least 62 = .ok (.iload 5, 2) := by decide +kernel
theorem dX10_least_64 : decode cX10_least 64 = .ok (.istore_n 3, 1) := by decide +kernel
theorem dX10_least_65 : decode cX10_least 65 = .ok (.iload 4, 2) := by decide +kernel
theorem dX10_least_67 : decode cX10_least 67 = .ok (.istore_n 2, 1) := by decide +kernel
theorem dX10_least_68 : decode cX10_least 68 = .ok (.iinc 4 1, 3) := by decide +kernel
theorem dX10_least_71 : decode cX10_least 71 = .ok (.goto (-38), 3) := by decide +kernel
theorem dX10_least_74 : decode cX10_least 74 = .ok (.iload_n 2, 1) := by decide +kernel
theorem dX10_least_75 : decode cX10_least 75 = .ok (.ireturn, 1) := by decide +kernel
theorem dX10_trial_0 : decode cX10_trial 0 = .ok (.aload_n 0, 1) := by decide +kernel
theorem dX10_trial_1 : decode cX10_trial 1 = .ok (.iload_n 1, 1) := by decide +kernel
theorem dX10_trial_2 : decode cX10_trial 2 = .ok (.iconst 0, 1) := by decide +kernel
theorem dX10_trial_3 : decode cX10_trial 3 = .ok (.sipush 200, 3) := by decide +kernel
theorem dX10_trial_6 : decode cX10_trial 6 = .ok (.invokevirtual 230, 3) := by decide +kernel
theorem dX10_trial_9 : decode cX10_trial 9 = .ok (.aload_n 0, 1) := by decide +kernel
theorem dX10_trial_10 : decode cX10_trial 10 = .ok (.iload_n 1, 1) := by decide +kernel
theorem dX10_trial_11 : decode cX10_trial 11 = .ok (.aload_n 0, 1) := by decide +kernel
theorem dX10_trial_12 : decode cX10_trial 12 = .ok (.getfield 26, 3) := by decide +kernel
theorem dX10_trial_15 : decode cX10_trial 15 = .ok (.getfield 370, 3) := by decide +kernel
theorem dX10_trial_18 : decode cX10_trial 18 = .ok (.invokevirtual 373, 3) := by decide +kernel
theorem dX10_trial_21 : decode cX10_trial 21 = .ok (.iload_n 2, 1) := by decide +kernel
theorem dX10_trial_22 : decode cX10_trial 22 = .ok (.ifCond .eq 13, 3) := by decide +kernel
theorem dX10_trial_25 : decode cX10_trial 25 = .ok (.aload_n 0, 1) := by decide +kernel
theorem dX10_trial_26 : decode cX10_trial 26 = .ok (.getfield 30, 3) := by decide +kernel
theorem dX10_trial_29 : decode cX10_trial 29 = .ok (.invokevirtual 272, 3) := by decide +kernel
theorem dX10_trial_32 : decode cX10_trial 32 = .ok (.goto 10, 3) := by decide +kernel
theorem dX10_trial_35 : decode cX10_trial 35 = .ok (.aload_n 0, 1) := by decide +kernel
theorem dX10_trial_36 : decode cX10_trial 36 = .ok (.getfield 30, 3) := by decide +kernel
theorem dX10_trial_39 : decode cX10_trial 39 = .ok (.getfield 337, 3) := by decide +kernel
theorem dX10_trial_42 : decode cX10_trial 42 = .ok (.ireturn, 1) := by decide +kernel
theorem dX10_span_0 : decode cX10_span 0 = .ok (.aload_n 0, 1) := by decide +kernel
theorem dX10_span_1 : decode cX10_span 1 = .ok (.iload_n 1, 1) := by decide +kernel
theorem dX10_span_2 : decode cX10_span 2 = .ok (.iconst 0, 1) := by decide +kernel
theorem dX10_span_3 : decode cX10_span 3 = .ok (.sipush 200, 3) := by decide +kernel
theorem dX10_span_6 : decode cX10_span 6 = .ok (.invokevirtual 230, 3) := by decide +kernel
theorem dX10_span_9 : decode cX10_span 9 = .ok (.sipush 9999, 3) := by decide +kernel
theorem dX10_span_12 : decode cX10_span 12 = .ok (.istore_n 3, 1) := by decide +kernel
theorem dX10_span_13 : decode cX10_span 13 = .ok (.iconst 0, 1) := by decide +kernel
theorem dX10_span_14 : decode cX10_span 14 = .ok (.istore 4, 2) := by decide +kernel
theorem dX10_span_16 : decode cX10_span 16 = .ok (.iconst 1, 1) := by decide +kernel
theorem dX10_span_17 : decode cX10_span 17 = .ok (.istore 5, 2) := by decide +kernel
theorem dX10_span_19 : decode cX10_span 19 = .ok (.iload 5, 2) := by decide +kernel
theorem dX10_span_21 : decode cX10_span 21 = .ok (.bipush 6, 2) := by decide +kernel
theorem dX10_span_23 : decode cX10_span 23 = .ok (.if_icmp .gt 42, 3) := by decide +kernel
theorem dX10_span_26 : decode cX10_span 26 = .ok (.aload_n 0, 1) := by decide +kernel
theorem dX10_span_27 : decode cX10_span 27 = .ok (.iload_n 1, 1) := by decide +kernel
theorem dX10_span_28 : decode cX10_span 28 = .ok (.iload 5, 2) := by decide +kernel
theorem dX10_span_30 : decode cX10_span 30 = .ok (.invokevirtual 373, 3) := by decide +kernel
theorem dX10_span_33 : decode cX10_span 33 = .ok (.iload_n 3, 1) := by decide +kernel
theorem dX10_span_34 : decode cX10_span 34 = .ok (.aload_n 0, 1) := by decide +kernel
theorem dX10_span_35 : decode cX10_span 35 = .ok (.getfield 30, 3) := by decide +kernel
theorem dX10_span_38 : decode cX10_span 38 = .ok (.getfield 337, 3) := by decide +kernel
theorem dX10_span_41 : decode cX10_span 41 = .ok (.invokestatic 234, 3) := by decide +kernel
theorem dX10_span_44 : decode cX10_span 44 = .ok (.istore_n 3, 1) := by decide +kernel
theorem dX10_span_45 : decode cX10_span 45 = .ok (.iload 4, 2) := by decide +kernel
theorem dX10_span_47 : decode cX10_span 47 = .ok (.aload_n 0, 1) := by decide +kernel
theorem dX10_span_48 : decode cX10_span 48 = .ok (.getfield 30, 3) := by decide +kernel
theorem dX10_span_51 : decode cX10_span 51 = .ok (.getfield 337, 3) := by decide +kernel
theorem dX10_span_54 : decode cX10_span 54 = .ok (.invokestatic 315, 3) := by decide +kernel
theorem dX10_span_57 : decode cX10_span 57 = .ok (.istore 4, 2) := by decide +kernel
theorem dX10_span_59 : decode cX10_span 59 = .ok (.iinc 5 1, 3) := by decide +kernel
theorem dX10_span_62 : decode cX10_span 62 = .ok (.goto (-43), 3) := by decide +kernel
theorem dX10_span_65 : decode cX10_span 65 = .ok (.iload_n 2, 1) := by decide +kernel
theorem dX10_span_66 : decode cX10_span 66 = .ok (.ifCond .eq 8, 3) := by decide +kernel
theorem dX10_span_69 : decode cX10_span 69 = .ok (.iload 4, 2) := by decide +kernel
theorem dX10_span_71 : decode cX10_span 71 = .ok (.goto 4, 3) := by decide +kernel
theorem dX10_span_74 : decode cX10_span 74 = .ok (.iload_n 3, 1) := by decide +kernel
theorem dX10_span_75 : decode cX10_span 75 = .ok (.ireturn, 1) := by decide +kernel
theorem dX10_tries_0 : decode cX10_tries 0 = .ok (.aload_n 0, 1) := by decide +kernel
theorem dX10_tries_1 : decode cX10_tries 1 = .ok (.invokevirtual 266, 3) := by decide +kernel
theorem dX10_tries_4 : decode cX10_tries 4 = .ok (.aload_n 0, 1) := by decide +kernel
theorem dX10_tries_5 : decode cX10_tries 5 = .ok (.getfield 30, 3) := by decide +kernel
theorem dX10_tries_8 : decode cX10_tries 8 = .ok (.iload_n 2, 1) := by decide +kernel
theorem dX10_tries_9 : decode cX10_tries 9 = .ok (.putfield 370, 3) := by decide +kernel
theorem dX10_tries_12 : decode cX10_tries 12 = .ok (.iconst 0, 1) := by decide +kernel
theorem dX10_tries_13 : decode cX10_tries 13 = .ok (.istore_n 3, 1) := by decide +kernel
theorem dX10_tries_14 : decode cX10_tries 14 = .ok (.iload_n 3, 1) := by decide +kernel
theorem dX10_tries_15 : decode cX10_tries 15 = .ok (.iload_n 1, 1) := by decide +kernel
theorem dX10_tries_16 : decode cX10_tries 16 = .ok (.if_icmp .ge 26, 3) := by decide +kernel
theorem dX10_tries_19 : decode cX10_tries 19 = .ok (.aload_n 0, 1) := by decide +kernel
theorem dX10_tries_20 : decode cX10_tries 20 = .ok (.getfield 53, 3) := by decide +kernel
theorem dX10_tries_23 : decode cX10_tries 23 = .ok (.aload_n 0, 1) := by decide +kernel
theorem dX10_tries_24 : decode cX10_tries 24 = .ok (.getfield 30, 3) := by decide +kernel
theorem dX10_tries_27 : decode cX10_tries 27 = .ok (.aload_n 0, 1) := by decide +kernel
theorem dX10_tries_28 : decode cX10_tries 28 = .ok (.getfield 36, 3) := by decide +kernel
theorem dX10_tries_31 : decode cX10_tries 31 = .ok (.aconst_null, 1) := by decide +kernel
theorem dX10_tries_32 : decode cX10_tries 32 = .ok (.invokevirtual 262, 3) := by decide +kernel
theorem dX10_tries_35 : decode cX10_tries 35 = .ok (.pop, 1) := by decide +kernel
theorem dX10_tries_36 : decode cX10_tries 36 = .ok (.iinc 3 1, 3) := by decide +kernel
theorem dX10_tries_39 : decode cX10_tries 39 = .ok (.goto (-25), 3) := by decide +kernel
theorem dX10_tries_42 : decode cX10_tries 42 = .ok (.return_, 1) := by decide +kernel
theorem dX10_led_0 : decode cX10_led 0 = .ok (.aload_n 0, 1) := by decide +kernel
theorem dX10_led_1 : decode cX10_led 1 = .ok (.iload_n 1, 1) := by decide +kernel
theorem dX10_led_2 : decode cX10_led 2 = .ok (.invokevirtual 180, 3) := by decide +kernel
theorem dX10_led_5 : decode cX10_led 5 = .ok (.iload_n 2, 1) := by decide +kernel
theorem dX10_led_6 : decode cX10_led 6 = .ok (.ifCond .eq 14, 3) := by decide +kernel
theorem dX10_led_9 : decode cX10_led 9 = .ok (.aload_n 0, 1) := by decide +kernel
theorem dX10_led_10 : decode cX10_led 10 = .ok (.getfield 46, 3) := by decide +kernel
theorem dX10_led_13 : decode cX10_led 13 = .ok (.iload_n 1, 1) := by decide +kernel
theorem dX10_led_14 : decode cX10_led 14 = .ok (.invokevirtual 376, 3) := by decide +kernel
theorem dX10_led_17 : decode cX10_led 17 = .ok (.goto 11, 3) := by decide +kernel
theorem dX10_led_20 : decode cX10_led 20 = .ok (.aload_n 0, 1) := by decide +kernel
theorem dX10_led_21 : decode cX10_led 21 = .ok (.getfield 46, 3) := by decide +kernel
theorem dX10_led_24 : decode cX10_led 24 = .ok (.iload_n 1, 1) := by decide +kernel
theorem dX10_led_25 : decode cX10_led 25 = .ok (.invokevirtual 379, 3) := by decide +kernel
theorem dX10_led_28 : decode cX10_led 28 = .ok (.ireturn, 1) := by decide +kernel
theorem dX10_log_0 : decode cX10_log 0 = .ok (.aload_n 0, 1) := by decide +kernel
theorem dX10_log_1 : decode cX10_log 1 = .ok (.iload_n 2, 1) := by decide +kernel
theorem dX10_log_2 : decode cX10_log 2 = .ok (.iconst 4, 1) := by decide +kernel
theorem dX10_log_3 : decode cX10_log 3 = .ok (.invokevirtual 152, 3) := by decide +kernel
theorem dX10_log_6 : decode cX10_log 6 = .ok (.aload_n 0, 1) := by decide +kernel
theorem dX10_log_7 : decode cX10_log 7 = .ok (.getfield 46, 3) := by decide +kernel
theorem dX10_log_10 : decode cX10_log 10 = .ok (.iload_n 1, 1) := by decide +kernel
theorem dX10_log_11 : decode cX10_log 11 = .ok (.iload_n 2, 1) := by decide +kernel
theorem dX10_log_12 : decode cX10_log 12 = .ok (.invokevirtual 382, 3) := by decide +kernel
theorem dX10_log_15 : decode cX10_log 15 = .ok (.ireturn, 1) := by decide +kernel
theorem dX10_seed_0 : decode cX10_seed 0 = .ok (.aload_n 0, 1) := by decide +kernel
theorem dX10_seed_1 : decode cX10_seed 1 = .ok (.getfield 26, 3) := by decide +kernel
theorem dX10_seed_4 : decode cX10_seed 4 = .ok (.getfield 370, 3) := by decide +kernel
theorem dX10_seed_7 : decode cX10_seed 7 = .ok (.istore_n 2, 1) := by decide +kernel
theorem dX10_seed_8 : decode cX10_seed 8 = .ok (.aload_n 0, 1) := by decide +kernel
theorem dX10_seed_9 : decode cX10_seed 9 = .ok (.getfield 26, 3) := by decide +kernel
theorem dX10_seed_12 : decode cX10_seed 12 = .ok (.iload_n 1, 1) := by decide +kernel
theorem dX10_seed_13 : decode cX10_seed 13 = .ok (.putfield 370, 3) := by decide +kernel
theorem dX10_seed_16 : decode cX10_seed 16 = .ok (.iload_n 2, 1) := by decide +kernel
theorem dX10_seed_17 : decode cX10_seed 17 = .ok (.ireturn, 1) := by decide +kernel
theorem dX10_undo_0 : decode cX10_undo 0 = .ok (.aload_n 0, 1) := by decide +kernel
theorem dX10_undo_1 : decode cX10_undo 1 = .ok (.getfield 63, 3) := by decide +kernel
theorem dX10_undo_4 : decode cX10_undo 4 = .ok (.bipush 12, 2) := by decide +kernel
theorem dX10_undo_6 : decode cX10_undo 6 = .ok (.iadd, 1) := by decide +kernel
theorem dX10_undo_7 : decode cX10_undo 7 = .ok (.iconst 1, 1) := by decide +kernel
theorem dX10_undo_8 : decode cX10_undo 8 = .ok (.isub, 1) := by decide +kernel
theorem dX10_undo_9 : decode cX10_undo 9 = .ok (.bipush 12, 2) := by decide +kernel
theorem dX10_undo_11 : decode cX10_undo 11 = .ok (.irem, 1) := by decide +kernel
theorem dX10_undo_12 : decode cX10_undo 12 = .ok (.istore_n 1, 1) := by decide +kernel
theorem dX10_undo_13 : decode cX10_undo 13 = .ok (.aload_n 0, 1) := by decide +kernel
theorem dX10_undo_14 : decode cX10_undo 14 = .ok (.getfield 67, 3) := by decide +kernel
theorem dX10_undo_17 : decode cX10_undo 17 = .ok (.ifCond .le 16, 3) := by decide +kernel
theorem dX10_undo_20 : decode cX10_undo 20 = .ok (.iload_n 1, 1) := by decide +kernel
theorem dX10_undo_21 : decode cX10_undo 21 = .ok (.ifCond .lt 12, 3) := by decide +kernel
theorem dX10_undo_24 : decode cX10_undo 24 = .ok (.aload_n 0, 1) := by decide +kernel
theorem dX10_undo_25 : decode cX10_undo 25 = .ok (.getfield 59, 3) := by decide +kernel
theorem dX10_undo_28 : decode cX10_undo 28 = .ok (.iload_n 1, 1) := by decide +kernel
theorem dX10_undo_29 : decode cX10_undo 29 = .ok (.aaload, 1) := by decide +kernel
theorem dX10_undo_30 : decode cX10_undo 30 = .ok (.ifnonnull 5, 3) := by decide +kernel
theorem dX10_undo_33 : decode cX10_undo 33 = .ok (.iconst 0, 1) := by decide +kernel
theorem dX10_undo_34 : decode cX10_undo 34 = .ok (.ireturn, 1) := by decide +kernel
theorem dX10_undo_35 : decode cX10_undo 35 = .ok (.aload_n 0, 1) := by decide +kernel
theorem dX10_undo_36 : decode cX10_undo 36 = .ok (.getfield 59, 3) := by decide +kernel
theorem dX10_undo_39 : decode cX10_undo 39 = .ok (.iload_n 1, 1) := by decide +kernel
theorem dX10_undo_40 : decode cX10_undo 40 = .ok (.aaload, 1) := by decide +kernel
theorem dX10_undo_41 : decode cX10_undo 41 = .ok (.aload_n 0, 1) := by decide +kernel
theorem dX10_undo_42 : decode cX10_undo 42 = .ok (.getfield 26, 3) := by decide +kernel
theorem dX10_undo_45 : decode cX10_undo 45 = .ok (.aload_n 0, 1) := by decide +kernel
theorem dX10_undo_46 : decode cX10_undo 46 = .ok (.getfield 46, 3) := by decide +kernel
theorem dX10_undo_49 : decode cX10_undo 49 = .ok (.invokevirtual 385, 3) := by decide +kernel
theorem dX10_undo_52 : decode cX10_undo 52 = .ok (.aload_n 0, 1) := by decide +kernel
theorem dX10_undo_53 : decode cX10_undo 53 = .ok (.iload_n 1, 1) := by decide +kernel
theorem dX10_undo_54 : decode cX10_undo 54 = .ok (.putfield 63, 3) := by decide +kernel
theorem dX10_undo_57 : decode cX10_undo 57 = .ok (.aload_n 0, 1) := by decide +kernel
theorem dX10_undo_58 : decode cX10_undo 58 = .ok (.dup, 1) := by decide +kernel
theorem dX10_undo_59 : decode cX10_undo 59 = .ok (.getfield 67, 3) := by decide +kernel
theorem dX10_undo_62 : decode cX10_undo 62 = .ok (.iconst 1, 1) := by decide +kernel
theorem dX10_undo_63 : decode cX10_undo 63 = .ok (.isub, 1) := by decide +kernel
theorem dX10_undo_64 : decode cX10_undo 64 = .ok (.putfield 67, 3) := by decide +kernel
theorem dX10_undo_67 : decode cX10_undo 67 = .ok (.iconst 1, 1) := by decide +kernel
theorem dX10_undo_68 : decode cX10_undo 68 = .ok (.ireturn, 1) := by decide +kernel
theorem dX10_image_0 : decode cX10_image 0 = .ok (.aload_n 0, 1) := by decide +kernel
theorem dX10_image_1 : decode cX10_image 1 = .ok (.getfield 71, 3) := by decide +kernel
theorem dX10_image_4 : decode cX10_image 4 = .ok (.aload_n 0, 1) := by decide +kernel
theorem dX10_image_5 : decode cX10_image 5 = .ok (.getfield 26, 3) := by decide +kernel
theorem dX10_image_8 : decode cX10_image 8 = .ok (.aload_n 0, 1) := by decide +kernel
theorem dX10_image_9 : decode cX10_image 9 = .ok (.getfield 46, 3) := by decide +kernel
theorem dX10_image_12 : decode cX10_image 12 = .ok (.invokevirtual 389, 3) := by decide +kernel
theorem dX10_image_15 : decode cX10_image 15 = .ok (.aload_n 0, 1) := by decide +kernel
theorem dX10_image_16 : decode cX10_image 16 = .ok (.getfield 75, 3) := by decide +kernel
theorem dX10_image_19 : decode cX10_image 19 = .ok (.aload_n 0, 1) := by decide +kernel
theorem dX10_image_20 : decode cX10_image 20 = .ok (.getfield 36, 3) := by decide +kernel
theorem dX10_image_23 : decode cX10_image 23 = .ok (.invokevirtual 143, 3) := by decide +kernel
theorem dX10_image_26 : decode cX10_image 26 = .ok (.aload_n 0, 1) := by decide +kernel
theorem dX10_image_27 : decode cX10_image 27 = .ok (.iconst 1, 1) := by decide +kernel
theorem dX10_image_28 : decode cX10_image 28 = .ok (.putfield 78, 3) := by decide +kernel
theorem dX10_image_31 : decode cX10_image 31 = .ok (.return_, 1) := by decide +kernel
theorem dX10_back_0 : decode cX10_back 0 = .ok (.aload_n 0, 1) := by decide +kernel
theorem dX10_back_1 : decode cX10_back 1 = .ok (.getfield 78, 3) := by decide +kernel
theorem dX10_back_4 : decode cX10_back 4 = .ok (.ifCond .ne 5, 3) := by decide +kernel
theorem dX10_back_7 : decode cX10_back 7 = .ok (.iconst 0, 1) := by decide +kernel
theorem dX10_back_8 : decode cX10_back 8 = .ok (.ireturn, 1) := by decide +kernel
theorem dX10_back_9 : decode cX10_back 9 = .ok (.aload_n 0, 1) := by decide +kernel
theorem dX10_back_10 : decode cX10_back 10 = .ok (.getfield 71, 3) := by decide +kernel
theorem dX10_back_13 : decode cX10_back 13 = .ok (.aload_n 0, 1) := by decide +kernel
theorem dX10_back_14 : decode cX10_back 14 = .ok (.getfield 26, 3) := by decide +kernel
theorem dX10_back_17 : decode cX10_back 17 = .ok (.aload_n 0, 1) := by decide +kernel
theorem dX10_back_18 : decode cX10_back 18 = .ok (.getfield 46, 3) := by decide +kernel
theorem dX10_back_21 : decode cX10_back 21 = .ok (.invokevirtual 385, 3) := by decide +kernel
theorem dX10_back_24 : decode cX10_back 24 = .ok (.aload_n 0, 1) := by decide +kernel
theorem dX10_back_25 : decode cX10_back 25 = .ok (.getfield 36, 3) := by decide +kernel
theorem dX10_back_28 : decode cX10_back 28 = .ok (.aload_n 0, 1) := by decide +kernel
theorem dX10_back_29 : decode cX10_back 29 = .ok (.getfield 75, 3) := by decide +kernel
theorem dX10_back_32 : decode cX10_back 32 = .ok (.invokevirtual 143, 3) := by decide +kernel
theorem dX10_back_35 : decode cX10_back 35 = .ok (.aload_n 0, 1) := by decide +kernel
theorem dX10_back_36 : decode cX10_back 36 = .ok (.iconst 0, 1) := by decide +kernel
theorem dX10_back_37 : decode cX10_back 37 = .ok (.putfield 67, 3) := by decide +kernel
theorem dX10_back_40 : decode cX10_back 40 = .ok (.iconst 1, 1) := by decide +kernel
theorem dX10_back_41 : decode cX10_back 41 = .ok (.ireturn, 1) := by decide +kernel
theorem dX10_count_0 : decode cX10_count 0 = .ok (.iload_n 1, 1) := by decide +kernel
theorem dX10_count_1 : decode cX10_count 1 = .ok (.tableswitch 194 0 13 #[71, 79, 87, 95, 117, 125, 133, 141, 149, 157, 165, 173, 181, 189], 71) := by decide +kernel
theorem dX10_count_72 : decode cX10_count 72 = .ok (.aload_n 0, 1) := by decide +kernel
theorem dX10_count_73 : decode cX10_count 73 = .ok (.getfield 26, 3) := by decide +kernel
theorem dX10_count_76 : decode cX10_count 76 = .ok (.getfield 281, 3) := by decide +kernel
theorem dX10_count_79 : decode cX10_count 79 = .ok (.ireturn, 1) := by decide +kernel
theorem dX10_count_80 : decode cX10_count 80 = .ok (.aload_n 0, 1) := by decide +kernel
theorem dX10_count_81 : decode cX10_count 81 = .ok (.getfield 26, 3) := by decide +kernel
theorem dX10_count_84 : decode cX10_count 84 = .ok (.getfield 301, 3) := by decide +kernel
theorem dX10_count_87 : decode cX10_count 87 = .ok (.ireturn, 1) := by decide +kernel
theorem dX10_count_88 : decode cX10_count 88 = .ok (.aload_n 0, 1) := by decide +kernel
theorem dX10_count_89 : decode cX10_count 89 = .ok (.getfield 26, 3) := by decide +kernel
theorem dX10_count_92 : decode cX10_count 92 = .ok (.getfield 130, 3) := by decide +kernel
theorem dX10_count_95 : decode cX10_count 95 = .ok (.ireturn, 1) := by decide +kernel
theorem dX10_count_96 : decode cX10_count 96 = .ok (.aload_n 0, 1) := by decide +kernel
theorem dX10_count_97 : decode cX10_count 97 = .ok (.getfield 36, 3) := by decide +kernel
theorem dX10_count_100 : decode cX10_count 100 = .ok (.getfield 392, 3) := by decide +kernel
theorem dX10_count_103 : decode cX10_count 103 = .ok (.ifCond .eq 13, 3) := by decide +kernel
theorem dX10_count_106 : decode cX10_count 106 = .ok (.aload_n 0, 1) := by decide +kernel
theorem dX10_count_107 : decode cX10_count 107 = .ok (.getfield 36, 3) := by decide +kernel
theorem dX10_count_110 : decode cX10_count 110 = .ok (.getfield 146, 3) := by decide +kernel
theorem dX10_count_113 : decode cX10_count 113 = .ok (.goto 4, 3) := by decide +kernel
theorem dX10_count_116 : decode cX10_count 116 = .ok (.iconst (-1), 1) := by decide +kernel
theorem dX10_count_117 : decode cX10_count 117 = .ok (.ireturn, 1) := by decide +kernel
theorem dX10_count_118 : decode cX10_count 118 = .ok (.aload_n 0, 1) := by decide +kernel
theorem dX10_count_119 : decode cX10_count 119 = .ok (.getfield 26, 3) := by decide +kernel
theorem dX10_count_122 : decode cX10_count 122 = .ok (.getfield 395, 3) := by decide +kernel
theorem dX10_count_125 : decode cX10_count 125 = .ok (.ireturn, 1) := by decide +kernel
theorem dX10_count_126 : decode cX10_count 126 = .ok (.aload_n 0, 1) := by decide +kernel
theorem dX10_count_127 : decode cX10_count 127 = .ok (.getfield 26, 3) := by decide +kernel
theorem dX10_count_130 : decode cX10_count 130 = .ok (.getfield 398, 3) := by decide +kernel
theorem dX10_count_133 : decode cX10_count 133 = .ok (.ireturn, 1) := by decide +kernel
theorem dX10_count_134 : decode cX10_count 134 = .ok (.aload_n 0, 1) := by decide +kernel
theorem dX10_count_135 : decode cX10_count 135 = .ok (.getfield 26, 3) := by decide +kernel
theorem dX10_count_138 : decode cX10_count 138 = .ok (.getfield 252, 3) := by decide +kernel
theorem dX10_count_141 : decode cX10_count 141 = .ok (.ireturn, 1) := by decide +kernel
theorem dX10_count_142 : decode cX10_count 142 = .ok (.aload_n 0, 1) := by decide +kernel
theorem dX10_count_143 : decode cX10_count 143 = .ok (.getfield 26, 3) := by decide +kernel
theorem dX10_count_146 : decode cX10_count 146 = .ok (.getfield 401, 3) := by decide +kernel
theorem dX10_count_149 : decode cX10_count 149 = .ok (.ireturn, 1) := by decide +kernel
theorem dX10_count_150 : decode cX10_count 150 = .ok (.aload_n 0, 1) := by decide +kernel
theorem dX10_count_151 : decode cX10_count 151 = .ok (.getfield 26, 3) := by decide +kernel
theorem dX10_count_154 : decode cX10_count 154 = .ok (.getfield 404, 3) := by decide +kernel
theorem dX10_count_157 : decode cX10_count 157 = .ok (.ireturn, 1) := by decide +kernel
theorem dX10_count_158 : decode cX10_count 158 = .ok (.aload_n 0, 1) := by decide +kernel
theorem dX10_count_159 : decode cX10_count 159 = .ok (.getfield 26, 3) := by decide +kernel
theorem dX10_count_162 : decode cX10_count 162 = .ok (.getfield 337, 3) := by decide +kernel
theorem dX10_count_165 : decode cX10_count 165 = .ok (.ireturn, 1) := by decide +kernel
theorem dX10_count_166 : decode cX10_count 166 = .ok (.aload_n 0, 1) := by decide +kernel
theorem dX10_count_167 : decode cX10_count 167 = .ok (.getfield 26, 3) := by decide +kernel
theorem dX10_count_170 : decode cX10_count 170 = .ok (.invokevirtual 340, 3) := by decide +kernel
theorem dX10_count_173 : decode cX10_count 173 = .ok (.ireturn, 1) := by decide +kernel
theorem dX10_count_174 : decode cX10_count 174 = .ok (.aload_n 0, 1) := by decide +kernel
theorem dX10_count_175 : decode cX10_count 175 = .ok (.getfield 26, 3) := by decide +kernel
theorem dX10_count_178 : decode cX10_count 178 = .ok (.getfield 244, 3) := by decide +kernel
theorem dX10_count_181 : decode cX10_count 181 = .ok (.ireturn, 1) := by decide +kernel
theorem dX10_count_182 : decode cX10_count 182 = .ok (.aload_n 0, 1) := by decide +kernel
theorem dX10_count_183 : decode cX10_count 183 = .ok (.getfield 46, 3) := by decide +kernel
theorem dX10_count_186 : decode cX10_count 186 = .ok (.getfield 407, 3) := by decide +kernel
theorem dX10_count_189 : decode cX10_count 189 = .ok (.ireturn, 1) := by decide +kernel
theorem dX10_count_190 : decode cX10_count 190 = .ok (.aload_n 0, 1) := by decide +kernel
theorem dX10_count_191 : decode cX10_count 191 = .ok (.getfield 67, 3) := by decide +kernel
theorem dX10_count_194 : decode cX10_count 194 = .ok (.ireturn, 1) := by decide +kernel
theorem dX10_count_195 : decode cX10_count 195 = .ok (.iconst (-1), 1) := by decide +kernel
theorem dX10_count_196 : decode cX10_count 196 = .ok (.ireturn, 1) := by decide +kernel
theorem dX10_needsDiner_0 : decode cX10_needsDiner 0 = .ok (.iload_n 1, 1) := by decide +kernel
theorem dX10_needsDiner_1 : decode cX10_needsDiner 1 = .ok (.ifCond .lt 14, 3) := by decide +kernel
theorem dX10_needsDiner_4 : decode cX10_needsDiner 4 = .ok (.iload_n 1, 1) := by decide +kernel
theorem dX10_needsDiner_5 : decode cX10_needsDiner 5 = .ok (.aload_n 0, 1) := by decide +kernel
theorem dX10_needsDiner_6 : decode cX10_needsDiner 6 = .ok (.getfield 26, 3) := by decide +kernel
theorem dX10_needsDiner_9 : decode cX10_needsDiner 9 = .ok (.getfield 281, 3) := by decide +kernel
theorem dX10_needsDiner_12 : decode cX10_needsDiner 12 = .ok (.if_icmp .lt 14, 3) := by decide +kernel
theorem dX10_needsDiner_15 : decode cX10_needsDiner 15 = .ok (.new 247, 3) := by decide +kernel
theorem dX10_needsDiner_18 : decode cX10_needsDiner 18 = .ok (.dup, 1) := by decide +kernel
theorem dX10_needsDiner_19 : decode cX10_needsDiner 19 = .ok (.ldc_w 410, 3) := by decide +kernel
theorem dX10_needsDiner_22 : decode cX10_needsDiner 22 = .ok (.invokespecial 251, 3) := by decide +kernel
theorem dX10_needsDiner_25 : decode cX10_needsDiner 25 = .ok (.athrow, 1) := by decide +kernel
theorem dX10_needsDiner_26 : decode cX10_needsDiner 26 = .ok (.return_, 1) := by decide +kernel
theorem dX10_needsCellar_0 : decode cX10_needsCellar 0 = .ok (.iload_n 1, 1) := by decide +kernel
theorem dX10_needsCellar_1 : decode cX10_needsCellar 1 = .ok (.ifCond .lt 14, 3) := by decide +kernel
theorem dX10_needsCellar_4 : decode cX10_needsCellar 4 = .ok (.iload_n 1, 1) := by decide +kernel
theorem dX10_needsCellar_5 : decode cX10_needsCellar 5 = .ok (.aload_n 0, 1) := by decide +kernel
theorem dX10_needsCellar_6 : decode cX10_needsCellar 6 = .ok (.getfield 26, 3) := by decide +kernel
theorem dX10_needsCellar_9 : decode cX10_needsCellar 9 = .ok (.getfield 301, 3) := by decide +kernel
theorem dX10_needsCellar_12 : decode cX10_needsCellar 12 = .ok (.if_icmp .lt 14, 3) := by decide +kernel
theorem dX10_needsCellar_15 : decode cX10_needsCellar 15 = .ok (.new 247, 3) := by decide +kernel
theorem dX10_needsCellar_18 : decode cX10_needsCellar 18 = .ok (.dup, 1) := by decide +kernel
theorem dX10_needsCellar_19 : decode cX10_needsCellar 19 = .ok (.ldc_w 412, 3) := by decide +kernel
theorem dX10_needsCellar_22 : decode cX10_needsCellar 22 = .ok (.invokespecial 251, 3) := by decide +kernel
theorem dX10_needsCellar_25 : decode cX10_needsCellar 25 = .ok (.athrow, 1) := by decide +kernel
theorem dX10_needsCellar_26 : decode cX10_needsCellar 26 = .ok (.return_, 1) := by decide +kernel
theorem dX10_needsSeat_0 : decode cX10_needsSeat 0 = .ok (.iload_n 1, 1) := by decide +kernel
theorem dX10_needsSeat_1 : decode cX10_needsSeat 1 = .ok (.ifCond .lt 9, 3) := by decide +kernel
theorem dX10_needsSeat_4 : decode cX10_needsSeat 4 = .ok (.iload_n 1, 1) := by decide +kernel
theorem dX10_needsSeat_5 : decode cX10_needsSeat 5 = .ok (.bipush 10, 2) := by decide +kernel
theorem dX10_needsSeat_7 : decode cX10_needsSeat 7 = .ok (.if_icmp .lt 14, 3) := by decide +kernel
theorem dX10_needsSeat_10 : decode cX10_needsSeat 10 = .ok (.new 247, 3) := by decide +kernel
theorem dX10_needsSeat_13 : decode cX10_needsSeat 13 = .ok (.dup, 1) := by decide +kernel
theorem dX10_needsSeat_14 : decode cX10_needsSeat 14 = .ok (.ldc_w 414, 3) := by decide +kernel
theorem dX10_needsSeat_17 : decode cX10_needsSeat 17 = .ok (.invokespecial 251, 3) := by decide +kernel
theorem dX10_needsSeat_20 : decode cX10_needsSeat 20 = .ok (.athrow, 1) := by decide +kernel
theorem dX10_needsSeat_21 : decode cX10_needsSeat 21 = .ok (.return_, 1) := by decide +kernel
theorem dX10_needsTrait_0 : decode cX10_needsTrait 0 = .ok (.iload_n 1, 1) := by decide +kernel
theorem dX10_needsTrait_1 : decode cX10_needsTrait 1 = .ok (.ifCond .lt 9, 3) := by decide +kernel
theorem dX10_needsTrait_4 : decode cX10_needsTrait 4 = .ok (.iload_n 1, 1) := by decide +kernel
theorem dX10_needsTrait_5 : decode cX10_needsTrait 5 = .ok (.bipush 6, 2) := by decide +kernel
theorem dX10_needsTrait_7 : decode cX10_needsTrait 7 = .ok (.if_icmp .lt 14, 3) := by decide +kernel
theorem dX10_needsTrait_10 : decode cX10_needsTrait 10 = .ok (.new 247, 3) := by decide +kernel
theorem dX10_needsTrait_13 : decode cX10_needsTrait 13 = .ok (.dup, 1) := by decide +kernel
theorem dX10_needsTrait_14 : decode cX10_needsTrait 14 = .ok (.ldc_w 416, 3) := by decide +kernel
theorem dX10_needsTrait_17 : decode cX10_needsTrait 17 = .ok (.invokespecial 251, 3) := by decide +kernel
theorem dX10_needsTrait_20 : decode cX10_needsTrait 20 = .ok (.athrow, 1) := by decide +kernel
theorem dX10_needsTrait_21 : decode cX10_needsTrait 21 = .ok (.return_, 1) := by decide +kernel
theorem dX10_needsWhat_0 : decode cX10_needsWhat 0 = .ok (.iload_n 1, 1) := by decide +kernel
theorem dX10_needsWhat_1 : decode cX10_needsWhat 1 = .ok (.ifCond .lt 8, 3) := by decide +kernel
theorem dX10_needsWhat_4 : decode cX10_needsWhat 4 = .ok (.iload_n 1, 1) := by decide +kernel
theorem dX10_needsWhat_5 : decode cX10_needsWhat 5 = .ok (.iload_n 2, 1) := by decide +kernel
theorem dX10_needsWhat_6 : decode cX10_needsWhat 6 = .ok (.if_icmp .le 14, 3) := by decide +kernel
theorem dX10_needsWhat_9 : decode cX10_needsWhat 9 = .ok (.new 418, 3) := by decide +kernel
theorem dX10_needsWhat_12 : decode cX10_needsWhat 12 = .ok (.dup, 1) := by decide +kernel
theorem dX10_needsWhat_13 : decode cX10_needsWhat 13 = .ok (.ldc_w 420, 3) := by decide +kernel
theorem dX10_needsWhat_16 : decode cX10_needsWhat 16 = .ok (.invokespecial 422, 3) := by decide +kernel
theorem dX10_needsWhat_19 : decode cX10_needsWhat 19 = .ok (.athrow, 1) := by decide +kernel
theorem dX10_needsWhat_20 : decode cX10_needsWhat 20 = .ok (.return_, 1) := by decide +kernel
theorem dX10_needsWithin_0 : decode cX10_needsWithin 0 = .ok (.iload_n 1, 1) := by decide +kernel
theorem dX10_needsWithin_1 : decode cX10_needsWithin 1 = .ok (.iload_n 2, 1) := by decide +kernel
theorem dX10_needsWithin_2 : decode cX10_needsWithin 2 = .ok (.if_icmp .lt 8, 3) := by decide +kernel
theorem dX10_needsWithin_5 : decode cX10_needsWithin 5 = .ok (.iload_n 1, 1) := by decide +kernel
theorem dX10_needsWithin_6 : decode cX10_needsWithin 6 = .ok (.iload_n 3, 1) := by decide +kernel
theorem dX10_needsWithin_7 : decode cX10_needsWithin 7 = .ok (.if_icmp .le 14, 3) := by decide +kernel
theorem dX10_needsWithin_10 : decode cX10_needsWithin 10 = .ok (.new 123, 3) := by decide +kernel
theorem dX10_needsWithin_13 : decode cX10_needsWithin 13 = .ok (.dup, 1) := by decide +kernel
theorem dX10_needsWithin_14 : decode cX10_needsWithin 14 = .ok (.ldc_w 423, 3) := by decide +kernel
theorem dX10_needsWithin_17 : decode cX10_needsWithin 17 = .ok (.invokespecial 127, 3) := by decide +kernel
theorem dX10_needsWithin_20 : decode cX10_needsWithin 20 = .ok (.athrow, 1) := by decide +kernel
theorem dX10_needsWithin_21 : decode cX10_needsWithin 21 = .ok (.return_, 1) := by decide +kernel
theorem dX10_remember_0 : decode cX10_remember 0 = .ok (.aload_n 0, 1) := by decide +kernel
theorem dX10_remember_1 : decode cX10_remember 1 = .ok (.getfield 63, 3) := by decide +kernel
theorem dX10_remember_4 : decode cX10_remember 4 = .ok (.ifCond .lt 24, 3) := by decide +kernel
theorem dX10_remember_7 : decode cX10_remember 7 = .ok (.aload_n 0, 1) := by decide +kernel
theorem dX10_remember_8 : decode cX10_remember 8 = .ok (.getfield 63, 3) := by decide +kernel
theorem dX10_remember_11 : decode cX10_remember 11 = .ok (.bipush 12, 2) := by decide +kernel
theorem dX10_remember_13 : decode cX10_remember 13 = .ok (.if_icmp .ge 15, 3) := by decide +kernel
theorem dX10_remember_16 : decode cX10_remember 16 = .ok (.aload_n 0, 1) := by decide +kernel
theorem dX10_remember_17 : decode cX10_remember 17 = .ok (.getfield 59, 3) := by decide +kernel
theorem dX10_remember_20 : decode cX10_remember 20 = .ok (.aload_n 0, 1) := by decide +kernel
theorem dX10_remember_21 : decode cX10_remember 21 = .ok (.getfield 63, 3) := by decide +kernel
theorem dX10_remember_24 : decode cX10_remember 24 = .ok (.aaload, 1) := by decide +kernel
theorem dX10_remember_25 : decode cX10_remember 25 = .ok (.ifnonnull 4, 3) := by decide +kernel
theorem dX10_remember_28 : decode cX10_remember 28 = .ok (.return_, 1) := by decide +kernel
theorem dX10_remember_29 : decode cX10_remember 29 = .ok (.aload_n 0, 1) := by decide +kernel
theorem dX10_remember_30 : decode cX10_remember 30 = .ok (.getfield 59, 3) := by decide +kernel
theorem dX10_remember_33 : decode cX10_remember 33 = .ok (.aload_n 0, 1) := by decide +kernel
theorem dX10_remember_34 : decode cX10_remember 34 = .ok (.getfield 63, 3) := by decide +kernel
theorem dX10_remember_37 : decode cX10_remember 37 = .ok (.aaload, 1) := by decide +kernel
theorem dX10_remember_38 : decode cX10_remember 38 = .ok (.aload_n 0, 1) := by decide +kernel
theorem dX10_remember_39 : decode cX10_remember 39 = .ok (.getfield 26, 3) := by decide +kernel
theorem dX10_remember_42 : decode cX10_remember 42 = .ok (.aload_n 0, 1) := by decide +kernel
theorem dX10_remember_43 : decode cX10_remember 43 = .ok (.getfield 46, 3) := by decide +kernel
theorem dX10_remember_46 : decode cX10_remember 46 = .ok (.invokevirtual 389, 3) := by decide +kernel
theorem dX10_remember_49 : decode cX10_remember 49 = .ok (.aload_n 0, 1) := by decide +kernel
theorem dX10_remember_50 : decode cX10_remember 50 = .ok (.aload_n 0, 1) := by decide +kernel
theorem dX10_remember_51 : decode cX10_remember 51 = .ok (.getfield 63, 3) := by decide +kernel
theorem dX10_remember_54 : decode cX10_remember 54 = .ok (.iconst 1, 1) := by decide +kernel
theorem dX10_remember_55 : decode cX10_remember 55 = .ok (.iadd, 1) := by decide +kernel
theorem dX10_remember_56 : decode cX10_remember 56 = .ok (.bipush 12, 2) := by decide +kernel
theorem dX10_remember_58 : decode cX10_remember 58 = .ok (.irem, 1) := by decide +kernel
theorem dX10_remember_59 : decode cX10_remember 59 = .ok (.putfield 63, 3) := by decide +kernel
theorem dX10_remember_62 : decode cX10_remember 62 = .ok (.aload_n 0, 1) := by decide +kernel
theorem dX10_remember_63 : decode cX10_remember 63 = .ok (.bipush 12, 2) := by decide +kernel
theorem dX10_remember_65 : decode cX10_remember 65 = .ok (.aload_n 0, 1) := by decide +kernel
theorem dX10_remember_66 : decode cX10_remember 66 = .ok (.getfield 67, 3) := by decide +kernel
theorem dX10_remember_69 : decode cX10_remember 69 = .ok (.iconst 1, 1) := by decide +kernel
theorem dX10_remember_70 : decode cX10_remember 70 = .ok (.iadd, 1) := by decide +kernel
theorem dX10_remember_71 : decode cX10_remember 71 = .ok (.invokestatic 234, 3) := by decide +kernel
theorem dX10_remember_74 : decode cX10_remember 74 = .ok (.putfield 67, 3) := by decide +kernel
theorem dX10_remember_77 : decode cX10_remember 77 = .ok (.return_, 1) := by decide +kernel
theorem dX10_looksAhead_0 : decode cX10_looksAhead 0 = .ok (.aload_n 0, 1) := by decide +kernel
theorem dX10_looksAhead_1 : decode cX10_looksAhead 1 = .ok (.getfield 30, 3) := by decide +kernel
theorem dX10_looksAhead_4 : decode cX10_looksAhead 4 = .ok (.aload_n 0, 1) := by decide +kernel
theorem dX10_looksAhead_5 : decode cX10_looksAhead 5 = .ok (.getfield 26, 3) := by decide +kernel
theorem dX10_looksAhead_8 : decode cX10_looksAhead 8 = .ok (.invokevirtual 105, 3) := by decide +kernel
theorem dX10_looksAhead_11 : decode cX10_looksAhead 11 = .ok (.aload_n 0, 1) := by decide +kernel
theorem dX10_looksAhead_12 : decode cX10_looksAhead 12 = .ok (.getfield 53, 3) := by decide +kernel
theorem dX10_looksAhead_15 : decode cX10_looksAhead 15 = .ok (.iconst 0, 1) := by decide +kernel
theorem dX10_looksAhead_16 : decode cX10_looksAhead 16 = .ok (.invokevirtual 259, 3) := by decide +kernel
theorem dX10_looksAhead_19 : decode cX10_looksAhead 19 = .ok (.return_, 1) := by decide +kernel
theorem dX10_looksAheadBy_0 : decode cX10_looksAheadBy 0 = .ok (.aload_n 0, 1) := by decide +kernel
theorem dX10_looksAheadBy_1 : decode cX10_looksAheadBy 1 = .ok (.invokevirtual 266, 3) := by decide +kernel
theorem dX10_looksAheadBy_4 : decode cX10_looksAheadBy 4 = .ok (.iconst 0, 1) := by decide +kernel
theorem dX10_looksAheadBy_5 : decode cX10_looksAheadBy 5 = .ok (.istore_n 2, 1) := by decide +kernel
theorem dX10_looksAheadBy_6 : decode cX10_looksAheadBy 6 = .ok (.iload_n 2, 1) := by decide +kernel
theorem dX10_looksAheadBy_7 : decode cX10_looksAheadBy 7 = .ok (.iload_n 1, 1) := by decide +kernel
theorem dX10_looksAheadBy_8 : decode cX10_looksAheadBy 8 = .ok (.if_icmp .ge 25, 3) := by decide +kernel
theorem dX10_looksAheadBy_11 : decode cX10_looksAheadBy 11 = .ok (.aload_n 0, 1) := by decide +kernel
theorem dX10_looksAheadBy_12 : decode cX10_looksAheadBy 12 = .ok (.getfield 53, 3) := by decide +kernel
theorem dX10_looksAheadBy_15 : decode cX10_looksAheadBy 15 = .ok (.aload_n 0, 1) := by decide +kernel
theorem dX10_looksAheadBy_16 : decode cX10_looksAheadBy 16 = .ok (.getfield 30, 3) := by decide +kernel
theorem dX10_looksAheadBy_19 : decode cX10_looksAheadBy 19 = .ok (.aload_n 0, 1) := by decide +kernel
theorem dX10_looksAheadBy_20 : decode cX10_looksAheadBy 20 = .ok (.getfield 36, 3) := by decide +kernel
theorem dX10_looksAheadBy_23 : decode cX10_looksAheadBy 23 = .ok (.invokevirtual 324, 3) := by decide +kernel
theorem dX10_looksAheadBy_26 : decode cX10_looksAheadBy 26 = .ok (.pop, 1) := by decide +kernel
theorem dX10_looksAheadBy_27 : decode cX10_looksAheadBy 27 = .ok (.iinc 2 1, 3) := by decide +kernel
theorem dX10_looksAheadBy_30 : decode cX10_looksAheadBy 30 = .ok (.goto (-24), 3) := by decide +kernel
theorem dX10_looksAheadBy_33 : decode cX10_looksAheadBy 33 = .ok (.return_, 1) := by decide +kernel
theorem dX10_untilFree_0 : decode cX10_untilFree 0 = .ok (.iconst 0, 1) := by decide +kernel
theorem dX10_untilFree_1 : decode cX10_untilFree 1 = .ok (.istore_n 3, 1) := by decide +kernel
theorem dX10_untilFree_2 : decode cX10_untilFree 2 = .ok (.iconst 0, 1) := by decide +kernel
theorem dX10_untilFree_3 : decode cX10_untilFree 3 = .ok (.istore 4, 2) := by decide +kernel
theorem dX10_untilFree_5 : decode cX10_untilFree 5 = .ok (.iload 4, 2) := by decide +kernel
theorem dX10_untilFree_7 : decode cX10_untilFree 7 = .ok (.iload_n 2, 1) := by decide +kernel
theorem dX10_untilFree_8 : decode cX10_untilFree 8 = .ok (.if_icmp .gt 64, 3) := by decide +kernel
theorem dX10_untilFree_11 : decode cX10_untilFree 11 = .ok (.aload_n 0, 1) := by decide +kernel
theorem dX10_untilFree_12 : decode cX10_untilFree 12 = .ok (.getfield 30, 3) := by decide +kernel
theorem dX10_untilFree_15 : decode cX10_untilFree 15 = .ok (.invokevirtual 272, 3) := by decide +kernel
theorem dX10_untilFree_18 : decode cX10_untilFree 18 = .ok (.iload_n 1, 1) := by decide +kernel
theorem dX10_untilFree_19 : decode cX10_untilFree 19 = .ok (.iand, 1) := by decide +kernel
theorem dX10_untilFree_20 : decode cX10_untilFree 20 = .ok (.ifCond .ne 6, 3) := by decide +kernel
theorem dX10_untilFree_23 : decode cX10_untilFree 23 = .ok (.iload 4, 2) := by decide +kernel
theorem dX10_untilFree_25 : decode cX10_untilFree 25 = .ok (.ireturn, 1) := by decide +kernel
theorem dX10_untilFree_26 : decode cX10_untilFree 26 = .ok (.iload 4, 2) := by decide +kernel
theorem dX10_untilFree_28 : decode cX10_untilFree 28 = .ok (.iload_n 2, 1) := by decide +kernel
theorem dX10_untilFree_29 : decode cX10_untilFree 29 = .ok (.if_icmp .eq 9, 3) := by decide +kernel
theorem dX10_untilFree_32 : decode cX10_untilFree 32 = .ok (.iload_n 3, 1) := by decide +kernel
theorem dX10_untilFree_33 : decode cX10_untilFree 33 = .ok (.bipush 60, 2) := by decide +kernel
theorem dX10_untilFree_35 : decode cX10_untilFree 35 = .ok (.if_icmp .lt 5, 3) := by decide +kernel
theorem dX10_untilFree_38 : decode cX10_untilFree 38 = .ok (.iconst (-1), 1) := by decide +kernel
theorem dX10_untilFree_39 : decode cX10_untilFree 39 = .ok (.ireturn, 1) := by decide +kernel
theorem dX10_untilFree_40 : decode cX10_untilFree 40 = .ok (.aload_n 0, 1) := by decide +kernel
theorem dX10_untilFree_41 : decode cX10_untilFree 41 = .ok (.getfield 53, 3) := by decide +kernel
theorem dX10_untilFree_44 : decode cX10_untilFree 44 = .ok (.aload_n 0, 1) := by decide +kernel
theorem dX10_untilFree_45 : decode cX10_untilFree 45 = .ok (.getfield 30, 3) := by decide +kernel
theorem dX10_untilFree_48 : decode cX10_untilFree 48 = .ok (.aload_n 0, 1) := by decide +kernel
theorem dX10_untilFree_49 : decode cX10_untilFree 49 = .ok (.getfield 36, 3) := by decide +kernel
theorem dX10_untilFree_52 : decode cX10_untilFree 52 = .ok (.invokevirtual 324, 3) := by decide +kernel
theorem dX10_untilFree_55 : decode cX10_untilFree 55 = .ok (.ifCond .le 7, 3) := by decide +kernel
theorem dX10_untilFree_58 : decode cX10_untilFree 58 = .ok (.iconst 0, 1) := by decide +kernel
theorem dX10_untilFree_59 : decode cX10_untilFree 59 = .ok (.goto 6, 3) := by decide +kernel
theorem dX10_untilFree_62 : decode cX10_untilFree 62 = .ok (.iload_n 3, 1) := by decide +kernel
theorem dX10_untilFree_63 : decode cX10_untilFree 63 = .ok (.iconst 1, 1) := by decide +kernel
theorem dX10_untilFree_64 : decode cX10_untilFree 64 = .ok (.iadd, 1) := by decide +kernel
theorem dX10_untilFree_65 : decode cX10_untilFree 65 = .ok (.istore_n 3, 1) := by decide +kernel
theorem dX10_untilFree_66 : decode cX10_untilFree 66 = .ok (.iinc 4 1, 3) := by decide +kernel
theorem dX10_untilFree_69 : decode cX10_untilFree 69 = .ok (.goto (-64), 3) := by decide +kernel
theorem dX10_untilFree_72 : decode cX10_untilFree 72 = .ok (.iconst (-1), 1) := by decide +kernel
theorem dX10_untilFree_73 : decode cX10_untilFree 73 = .ok (.ireturn, 1) := by decide +kernel
