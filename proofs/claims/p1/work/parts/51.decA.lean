theorem d_A_init_0 : decode (xMc m_A_init) 0 = .ok (.aload_n 0, 1) := by decide +kernel
theorem d_A_init_1 : decode (xMc m_A_init) 1 = .ok (.invokespecial 3, 3) := by decide +kernel
theorem d_A_init_4 : decode (xMc m_A_init) 4 = .ok (.aload_n 0, 1) := by decide +kernel
theorem d_A_init_5 : decode (xMc m_A_init) 5 = .ok (.iconst 4, 1) := by decide +kernel
theorem d_A_init_6 : decode (xMc m_A_init) 6 = .ok (.anewarray 9, 3) := by decide +kernel
theorem d_A_init_9 : decode (xMc m_A_init) 9 = .ok (.putfield 11, 3) := by decide +kernel
theorem d_A_init_12 : decode (xMc m_A_init) 12 = .ok (.aload_n 0, 1) := by decide +kernel
theorem d_A_init_13 : decode (xMc m_A_init) 13 = .ok (.bipush 6, 2) := by decide +kernel
theorem d_A_init_15 : decode (xMc m_A_init) 15 = .ok (.anewarray 15, 3) := by decide +kernel
theorem d_A_init_18 : decode (xMc m_A_init) 18 = .ok (.putfield 17, 3) := by decide +kernel
theorem d_A_init_21 : decode (xMc m_A_init) 21 = .ok (.aload_n 0, 1) := by decide +kernel
theorem d_A_init_22 : decode (xMc m_A_init) 22 = .ok (.bipush 6, 2) := by decide +kernel
theorem d_A_init_24 : decode (xMc m_A_init) 24 = .ok (.anewarray 21, 3) := by decide +kernel
theorem d_A_init_27 : decode (xMc m_A_init) 27 = .ok (.putfield 23, 3) := by decide +kernel
theorem d_A_init_30 : decode (xMc m_A_init) 30 = .ok (.aload_n 0, 1) := by decide +kernel
theorem d_A_init_31 : decode (xMc m_A_init) 31 = .ok (.iconst 3, 1) := by decide +kernel
theorem d_A_init_32 : decode (xMc m_A_init) 32 = .ok (.anewarray 21, 3) := by decide +kernel
theorem d_A_init_35 : decode (xMc m_A_init) 35 = .ok (.putfield 27, 3) := by decide +kernel
theorem d_A_init_38 : decode (xMc m_A_init) 38 = .ok (.aload_n 0, 1) := by decide +kernel
theorem d_A_init_39 : decode (xMc m_A_init) 39 = .ok (.new 30, 3) := by decide +kernel
theorem d_A_init_42 : decode (xMc m_A_init) 42 = .ok (.dup, 1) := by decide +kernel
theorem d_A_init_43 : decode (xMc m_A_init) 43 = .ok (.bipush 6, 2) := by decide +kernel
theorem d_A_init_45 : decode (xMc m_A_init) 45 = .ok (.invokespecial 32, 3) := by decide +kernel
theorem d_A_init_48 : decode (xMc m_A_init) 48 = .ok (.putfield 35, 3) := by decide +kernel
theorem d_A_init_51 : decode (xMc m_A_init) 51 = .ok (.aload_n 0, 1) := by decide +kernel
theorem d_A_init_52 : decode (xMc m_A_init) 52 = .ok (.new 39, 3) := by decide +kernel
theorem d_A_init_55 : decode (xMc m_A_init) 55 = .ok (.dup, 1) := by decide +kernel
theorem d_A_init_56 : decode (xMc m_A_init) 56 = .ok (.invokespecial 41, 3) := by decide +kernel
theorem d_A_init_59 : decode (xMc m_A_init) 59 = .ok (.putfield 42, 3) := by decide +kernel
theorem d_A_init_62 : decode (xMc m_A_init) 62 = .ok (.aload_n 0, 1) := by decide +kernel
theorem d_A_init_63 : decode (xMc m_A_init) 63 = .ok (.new 39, 3) := by decide +kernel
theorem d_A_init_66 : decode (xMc m_A_init) 66 = .ok (.dup, 1) := by decide +kernel
theorem d_A_init_67 : decode (xMc m_A_init) 67 = .ok (.invokespecial 41, 3) := by decide +kernel
theorem d_A_init_70 : decode (xMc m_A_init) 70 = .ok (.putfield 46, 3) := by decide +kernel
theorem d_A_init_73 : decode (xMc m_A_init) 73 = .ok (.aload_n 0, 1) := by decide +kernel
theorem d_A_init_74 : decode (xMc m_A_init) 74 = .ok (.iconst 0, 1) := by decide +kernel
theorem d_A_init_75 : decode (xMc m_A_init) 75 = .ok (.putfield 49, 3) := by decide +kernel
theorem d_A_init_78 : decode (xMc m_A_init) 78 = .ok (.aload_n 0, 1) := by decide +kernel
theorem d_A_init_79 : decode (xMc m_A_init) 79 = .ok (.iconst 0, 1) := by decide +kernel
theorem d_A_init_80 : decode (xMc m_A_init) 80 = .ok (.putfield 53, 3) := by decide +kernel
theorem d_A_init_83 : decode (xMc m_A_init) 83 = .ok (.aload_n 0, 1) := by decide +kernel
theorem d_A_init_84 : decode (xMc m_A_init) 84 = .ok (.iconst (-1), 1) := by decide +kernel
theorem d_A_init_85 : decode (xMc m_A_init) 85 = .ok (.putfield 57, 3) := by decide +kernel
theorem d_A_init_88 : decode (xMc m_A_init) 88 = .ok (.aload_n 0, 1) := by decide +kernel
theorem d_A_init_89 : decode (xMc m_A_init) 89 = .ok (.ldc 60, 2) := by decide +kernel
theorem d_A_init_91 : decode (xMc m_A_init) 91 = .ok (.putfield 61, 3) := by decide +kernel
theorem d_A_init_94 : decode (xMc m_A_init) 94 = .ok (.aload_n 0, 1) := by decide +kernel
theorem d_A_init_95 : decode (xMc m_A_init) 95 = .ok (.iconst 0, 1) := by decide +kernel
theorem d_A_init_96 : decode (xMc m_A_init) 96 = .ok (.putfield 64, 3) := by decide +kernel
theorem d_A_init_99 : decode (xMc m_A_init) 99 = .ok (.aload_n 0, 1) := by decide +kernel
theorem d_A_init_100 : decode (xMc m_A_init) 100 = .ok (.iconst 0, 1) := by decide +kernel
theorem d_A_init_101 : decode (xMc m_A_init) 101 = .ok (.putfield 67, 3) := by decide +kernel
theorem d_A_init_104 : decode (xMc m_A_init) 104 = .ok (.aload_n 0, 1) := by decide +kernel
theorem d_A_init_105 : decode (xMc m_A_init) 105 = .ok (.iconst 0, 1) := by decide +kernel
theorem d_A_init_106 : decode (xMc m_A_init) 106 = .ok (.putfield 70, 3) := by decide +kernel
theorem d_A_init_109 : decode (xMc m_A_init) 109 = .ok (.aload_n 0, 1) := by decide +kernel
theorem d_A_init_110 : decode (xMc m_A_init) 110 = .ok (.iconst 0, 1) := by decide +kernel
theorem d_A_init_111 : decode (xMc m_A_init) 111 = .ok (.putfield 73, 3) := by decide +kernel
theorem d_A_init_114 : decode (xMc m_A_init) 114 = .ok (.iconst 0, 1) := by decide +kernel
theorem d_A_init_115 : decode (xMc m_A_init) 115 = .ok (.istore_n 1, 1) := by decide +kernel
theorem d_A_init_116 : decode (xMc m_A_init) 116 = .ok (.iload_n 1, 1) := by decide +kernel
theorem d_A_init_117 : decode (xMc m_A_init) 117 = .ok (.iconst 4, 1) := by decide +kernel
theorem d_A_init_118 : decode (xMc m_A_init) 118 = .ok (.if_icmp .ge 22, 3) := by decide +kernel
theorem d_A_init_121 : decode (xMc m_A_init) 121 = .ok (.aload_n 0, 1) := by decide +kernel
theorem d_A_init_122 : decode (xMc m_A_init) 122 = .ok (.getfield 11, 3) := by decide +kernel
theorem d_A_init_125 : decode (xMc m_A_init) 125 = .ok (.iload_n 1, 1) := by decide +kernel
theorem d_A_init_126 : decode (xMc m_A_init) 126 = .ok (.new 9, 3) := by decide +kernel
theorem d_A_init_129 : decode (xMc m_A_init) 129 = .ok (.dup, 1) := by decide +kernel
theorem d_A_init_130 : decode (xMc m_A_init) 130 = .ok (.invokespecial 76, 3) := by decide +kernel
theorem d_A_init_133 : decode (xMc m_A_init) 133 = .ok (.aastore, 1) := by decide +kernel
theorem d_A_init_134 : decode (xMc m_A_init) 134 = .ok (.iinc 1 1, 3) := by decide +kernel
theorem d_A_init_137 : decode (xMc m_A_init) 137 = .ok (.goto (-21), 3) := by decide +kernel
theorem d_A_init_140 : decode (xMc m_A_init) 140 = .ok (.iconst 0, 1) := by decide +kernel
theorem d_A_init_141 : decode (xMc m_A_init) 141 = .ok (.istore_n 1, 1) := by decide +kernel
theorem d_A_init_142 : decode (xMc m_A_init) 142 = .ok (.iload_n 1, 1) := by decide +kernel
theorem d_A_init_143 : decode (xMc m_A_init) 143 = .ok (.bipush 6, 2) := by decide +kernel
theorem d_A_init_145 : decode (xMc m_A_init) 145 = .ok (.if_icmp .ge 37, 3) := by decide +kernel
theorem d_A_init_148 : decode (xMc m_A_init) 148 = .ok (.aload_n 0, 1) := by decide +kernel
theorem d_A_init_149 : decode (xMc m_A_init) 149 = .ok (.getfield 17, 3) := by decide +kernel
theorem d_A_init_152 : decode (xMc m_A_init) 152 = .ok (.iload_n 1, 1) := by decide +kernel
theorem d_A_init_153 : decode (xMc m_A_init) 153 = .ok (.new 15, 3) := by decide +kernel
theorem d_A_init_156 : decode (xMc m_A_init) 156 = .ok (.dup, 1) := by decide +kernel
theorem d_A_init_157 : decode (xMc m_A_init) 157 = .ok (.invokespecial 77, 3) := by decide +kernel
theorem d_A_init_160 : decode (xMc m_A_init) 160 = .ok (.aastore, 1) := by decide +kernel
theorem d_A_init_161 : decode (xMc m_A_init) 161 = .ok (.aload_n 0, 1) := by decide +kernel
theorem d_A_init_162 : decode (xMc m_A_init) 162 = .ok (.getfield 23, 3) := by decide +kernel
theorem d_A_init_165 : decode (xMc m_A_init) 165 = .ok (.iload_n 1, 1) := by decide +kernel
theorem d_A_init_166 : decode (xMc m_A_init) 166 = .ok (.new 21, 3) := by decide +kernel
theorem d_A_init_169 : decode (xMc m_A_init) 169 = .ok (.dup, 1) := by decide +kernel
theorem d_A_init_170 : decode (xMc m_A_init) 170 = .ok (.iconst 1, 1) := by decide +kernel
theorem d_A_init_171 : decode (xMc m_A_init) 171 = .ok (.iload_n 1, 1) := by decide +kernel
theorem d_A_init_172 : decode (xMc m_A_init) 172 = .ok (.invokespecial 78, 3) := by decide +kernel
theorem d_A_init_175 : decode (xMc m_A_init) 175 = .ok (.aastore, 1) := by decide +kernel
theorem d_A_init_176 : decode (xMc m_A_init) 176 = .ok (.iinc 1 1, 3) := by decide +kernel
theorem d_A_init_179 : decode (xMc m_A_init) 179 = .ok (.goto (-37), 3) := by decide +kernel
theorem d_A_init_182 : decode (xMc m_A_init) 182 = .ok (.iconst 0, 1) := by decide +kernel
theorem d_A_init_183 : decode (xMc m_A_init) 183 = .ok (.istore_n 1, 1) := by decide +kernel
theorem d_A_init_184 : decode (xMc m_A_init) 184 = .ok (.iload_n 1, 1) := by decide +kernel
theorem d_A_init_185 : decode (xMc m_A_init) 185 = .ok (.iconst 3, 1) := by decide +kernel
theorem d_A_init_186 : decode (xMc m_A_init) 186 = .ok (.if_icmp .ge 24, 3) := by decide +kernel
theorem d_A_init_189 : decode (xMc m_A_init) 189 = .ok (.aload_n 0, 1) := by decide +kernel
theorem d_A_init_190 : decode (xMc m_A_init) 190 = .ok (.getfield 27, 3) := by decide +kernel
theorem d_A_init_193 : decode (xMc m_A_init) 193 = .ok (.iload_n 1, 1) := by decide +kernel
theorem d_A_init_194 : decode (xMc m_A_init) 194 = .ok (.new 21, 3) := by decide +kernel
theorem d_A_init_197 : decode (xMc m_A_init) 197 = .ok (.dup, 1) := by decide +kernel
theorem d_A_init_198 : decode (xMc m_A_init) 198 = .ok (.iconst 0, 1) := by decide +kernel
theorem d_A_init_199 : decode (xMc m_A_init) 199 = .ok (.iload_n 1, 1) := by decide +kernel
theorem d_A_init_200 : decode (xMc m_A_init) 200 = .ok (.invokespecial 78, 3) := by decide +kernel
theorem d_A_init_203 : decode (xMc m_A_init) 203 = .ok (.aastore, 1) := by decide +kernel
theorem d_A_init_204 : decode (xMc m_A_init) 204 = .ok (.iinc 1 1, 3) := by decide +kernel
theorem d_A_init_207 : decode (xMc m_A_init) 207 = .ok (.goto (-23), 3) := by decide +kernel
theorem d_A_init_210 : decode (xMc m_A_init) 210 = .ok (.return_, 1) := by decide +kernel
theorem d_A_filter_0 : decode (xMc m_A_filter) 0 = .ok (.aload_n 0, 1) := by decide +kernel
theorem d_A_filter_1 : decode (xMc m_A_filter) 1 = .ok (.iload_n 1, 1) := by decide +kernel
theorem d_A_filter_2 : decode (xMc m_A_filter) 2 = .ok (.putfield 61, 3) := by decide +kernel
theorem d_A_filter_5 : decode (xMc m_A_filter) 5 = .ok (.return_, 1) := by decide +kernel
theorem d_A_count_0 : decode (xMc m_A_count) 0 = .ok (.iload_n 1, 1) := by decide +kernel
theorem d_A_count_1 : decode (xMc m_A_count) 1 = .ok (.tableswitch 86 0 6 #[43, 48, 61, 66, 71, 76, 81], 43) := by decide +kernel
theorem d_A_count_44 : decode (xMc m_A_count) 44 = .ok (.aload_n 0, 1) := by decide +kernel
theorem d_A_count_45 : decode (xMc m_A_count) 45 = .ok (.getfield 53, 3) := by decide +kernel
theorem d_A_count_48 : decode (xMc m_A_count) 48 = .ok (.ireturn, 1) := by decide +kernel
theorem d_A_count_49 : decode (xMc m_A_count) 49 = .ok (.aload_n 0, 1) := by decide +kernel
theorem d_A_count_50 : decode (xMc m_A_count) 50 = .ok (.getfield 49, 3) := by decide +kernel
theorem d_A_count_53 : decode (xMc m_A_count) 53 = .ok (.ifCond .eq 7, 3) := by decide +kernel
theorem d_A_count_56 : decode (xMc m_A_count) 56 = .ok (.iconst 1, 1) := by decide +kernel
theorem d_A_count_57 : decode (xMc m_A_count) 57 = .ok (.goto 4, 3) := by decide +kernel
theorem d_A_count_60 : decode (xMc m_A_count) 60 = .ok (.iconst 0, 1) := by decide +kernel
theorem d_A_count_61 : decode (xMc m_A_count) 61 = .ok (.ireturn, 1) := by decide +kernel
theorem d_A_count_62 : decode (xMc m_A_count) 62 = .ok (.aload_n 0, 1) := by decide +kernel
theorem d_A_count_63 : decode (xMc m_A_count) 63 = .ok (.getfield 64, 3) := by decide +kernel
theorem d_A_count_66 : decode (xMc m_A_count) 66 = .ok (.ireturn, 1) := by decide +kernel
theorem d_A_count_67 : decode (xMc m_A_count) 67 = .ok (.aload_n 0, 1) := by decide +kernel
theorem d_A_count_68 : decode (xMc m_A_count) 68 = .ok (.getfield 67, 3) := by decide +kernel
theorem d_A_count_71 : decode (xMc m_A_count) 71 = .ok (.ireturn, 1) := by decide +kernel
theorem d_A_count_72 : decode (xMc m_A_count) 72 = .ok (.aload_n 0, 1) := by decide +kernel
theorem d_A_count_73 : decode (xMc m_A_count) 73 = .ok (.getfield 70, 3) := by decide +kernel
theorem d_A_count_76 : decode (xMc m_A_count) 76 = .ok (.ireturn, 1) := by decide +kernel
theorem d_A_count_77 : decode (xMc m_A_count) 77 = .ok (.aload_n 0, 1) := by decide +kernel
theorem d_A_count_78 : decode (xMc m_A_count) 78 = .ok (.getfield 73, 3) := by decide +kernel
theorem d_A_count_81 : decode (xMc m_A_count) 81 = .ok (.ireturn, 1) := by decide +kernel
theorem d_A_count_82 : decode (xMc m_A_count) 82 = .ok (.aload_n 0, 1) := by decide +kernel
theorem d_A_count_83 : decode (xMc m_A_count) 83 = .ok (.invokevirtual 199, 3) := by decide +kernel
theorem d_A_count_86 : decode (xMc m_A_count) 86 = .ok (.ireturn, 1) := by decide +kernel
theorem d_A_count_87 : decode (xMc m_A_count) 87 = .ok (.iconst (-1), 1) := by decide +kernel
theorem d_A_count_88 : decode (xMc m_A_count) 88 = .ok (.ireturn, 1) := by decide +kernel
theorem d_A_pairsOfChunks_0 : decode (xMc m_A_pairsOfChunks) 0 = .ok (.iconst 0, 1) := by decide +kernel
theorem d_A_pairsOfChunks_1 : decode (xMc m_A_pairsOfChunks) 1 = .ok (.istore_n 1, 1) := by decide +kernel
theorem d_A_pairsOfChunks_2 : decode (xMc m_A_pairsOfChunks) 2 = .ok (.iconst 0, 1) := by decide +kernel
theorem d_A_pairsOfChunks_3 : decode (xMc m_A_pairsOfChunks) 3 = .ok (.istore_n 2, 1) := by decide +kernel
theorem d_A_pairsOfChunks_4 : decode (xMc m_A_pairsOfChunks) 4 = .ok (.iload_n 2, 1) := by decide +kernel
theorem d_A_pairsOfChunks_5 : decode (xMc m_A_pairsOfChunks) 5 = .ok (.aload_n 0, 1) := by decide +kernel
theorem d_A_pairsOfChunks_6 : decode (xMc m_A_pairsOfChunks) 6 = .ok (.getfield 53, 3) := by decide +kernel
theorem d_A_pairsOfChunks_9 : decode (xMc m_A_pairsOfChunks) 9 = .ok (.if_icmp .ge 62, 3) := by decide +kernel
theorem d_A_pairsOfChunks_12 : decode (xMc m_A_pairsOfChunks) 12 = .ok (.iconst 0, 1) := by decide +kernel
theorem d_A_pairsOfChunks_13 : decode (xMc m_A_pairsOfChunks) 13 = .ok (.istore_n 3, 1) := by decide +kernel
theorem d_A_pairsOfChunks_14 : decode (xMc m_A_pairsOfChunks) 14 = .ok (.iload_n 3, 1) := by decide +kernel
theorem d_A_pairsOfChunks_15 : decode (xMc m_A_pairsOfChunks) 15 = .ok (.aload_n 0, 1) := by decide +kernel
theorem d_A_pairsOfChunks_16 : decode (xMc m_A_pairsOfChunks) 16 = .ok (.getfield 17, 3) := by decide +kernel
theorem d_A_pairsOfChunks_19 : decode (xMc m_A_pairsOfChunks) 19 = .ok (.iload_n 2, 1) := by decide +kernel
theorem d_A_pairsOfChunks_20 : decode (xMc m_A_pairsOfChunks) 20 = .ok (.aaload, 1) := by decide +kernel
theorem d_A_pairsOfChunks_21 : decode (xMc m_A_pairsOfChunks) 21 = .ok (.getfield 107, 3) := by decide +kernel
theorem d_A_pairsOfChunks_24 : decode (xMc m_A_pairsOfChunks) 24 = .ok (.if_icmp .ge 41, 3) := by decide +kernel
theorem d_A_pairsOfChunks_27 : decode (xMc m_A_pairsOfChunks) 27 = .ok (.aload_n 0, 1) := by decide +kernel
theorem d_A_pairsOfChunks_28 : decode (xMc m_A_pairsOfChunks) 28 = .ok (.getfield 57, 3) := by decide +kernel
theorem d_A_pairsOfChunks_31 : decode (xMc m_A_pairsOfChunks) 31 = .ok (.aload_n 0, 1) := by decide +kernel
theorem d_A_pairsOfChunks_32 : decode (xMc m_A_pairsOfChunks) 32 = .ok (.getfield 17, 3) := by decide +kernel
theorem d_A_pairsOfChunks_35 : decode (xMc m_A_pairsOfChunks) 35 = .ok (.iload_n 2, 1) := by decide +kernel
theorem d_A_pairsOfChunks_36 : decode (xMc m_A_pairsOfChunks) 36 = .ok (.aaload, 1) := by decide +kernel
theorem d_A_pairsOfChunks_37 : decode (xMc m_A_pairsOfChunks) 37 = .ok (.getfield 210, 3) := by decide +kernel
theorem d_A_pairsOfChunks_40 : decode (xMc m_A_pairsOfChunks) 40 = .ok (.iload_n 3, 1) := by decide +kernel
theorem d_A_pairsOfChunks_41 : decode (xMc m_A_pairsOfChunks) 41 = .ok (.iaload, 1) := by decide +kernel
theorem d_A_pairsOfChunks_42 : decode (xMc m_A_pairsOfChunks) 42 = .ok (.aload_n 0, 1) := by decide +kernel
theorem d_A_pairsOfChunks_43 : decode (xMc m_A_pairsOfChunks) 43 = .ok (.getfield 35, 3) := by decide +kernel
theorem d_A_pairsOfChunks_46 : decode (xMc m_A_pairsOfChunks) 46 = .ok (.invokestatic 213, 3) := by decide +kernel
theorem d_A_pairsOfChunks_49 : decode (xMc m_A_pairsOfChunks) 49 = .ok (.iload_n 1, 1) := by decide +kernel
theorem d_A_pairsOfChunks_50 : decode (xMc m_A_pairsOfChunks) 50 = .ok (.aload_n 0, 1) := by decide +kernel
theorem d_A_pairsOfChunks_51 : decode (xMc m_A_pairsOfChunks) 51 = .ok (.getfield 35, 3) := by decide +kernel
theorem d_A_pairsOfChunks_54 : decode (xMc m_A_pairsOfChunks) 54 = .ok (.getfield 126, 3) := by decide +kernel
theorem d_A_pairsOfChunks_57 : decode (xMc m_A_pairsOfChunks) 57 = .ok (.iadd, 1) := by decide +kernel
theorem d_A_pairsOfChunks_58 : decode (xMc m_A_pairsOfChunks) 58 = .ok (.istore_n 1, 1) := by decide +kernel
theorem d_A_pairsOfChunks_59 : decode (xMc m_A_pairsOfChunks) 59 = .ok (.iinc 3 1, 3) := by decide +kernel
theorem d_A_pairsOfChunks_62 : decode (xMc m_A_pairsOfChunks) 62 = .ok (.goto (-48), 3) := by decide +kernel
theorem d_A_pairsOfChunks_65 : decode (xMc m_A_pairsOfChunks) 65 = .ok (.iinc 2 1, 3) := by decide +kernel
theorem d_A_pairsOfChunks_68 : decode (xMc m_A_pairsOfChunks) 68 = .ok (.goto (-64), 3) := by decide +kernel
theorem d_A_pairsOfChunks_71 : decode (xMc m_A_pairsOfChunks) 71 = .ok (.iload_n 1, 1) := by decide +kernel
theorem d_A_pairsOfChunks_72 : decode (xMc m_A_pairsOfChunks) 72 = .ok (.ireturn, 1) := by decide +kernel
theorem d_A_mapNumber_0 : decode (xMc m_A_mapNumber) 0 = .ok (.aload_n 2, 1) := by decide +kernel
theorem d_A_mapNumber_1 : decode (xMc m_A_mapNumber) 1 = .ok (.iconst 0, 1) := by decide +kernel
theorem d_A_mapNumber_2 : decode (xMc m_A_mapNumber) 2 = .ok (.putfield 126, 3) := by decide +kernel
theorem d_A_mapNumber_5 : decode (xMc m_A_mapNumber) 5 = .ok (.iload_n 0, 1) := by decide +kernel
theorem d_A_mapNumber_6 : decode (xMc m_A_mapNumber) 6 = .ok (.tableswitch 120 0 4 #[34, 47, 55, 68, 85], 34) := by decide +kernel
theorem d_A_mapNumber_40 : decode (xMc m_A_mapNumber) 40 = .ok (.aload_n 2, 1) := by decide +kernel
theorem d_A_mapNumber_41 : decode (xMc m_A_mapNumber) 41 = .ok (.iload_n 1, 1) := by decide +kernel
theorem d_A_mapNumber_42 : decode (xMc m_A_mapNumber) 42 = .ok (.iconst 5, 1) := by decide +kernel
theorem d_A_mapNumber_43 : decode (xMc m_A_mapNumber) 43 = .ok (.invokestatic 221, 3) := by decide +kernel
theorem d_A_mapNumber_46 : decode (xMc m_A_mapNumber) 46 = .ok (.iconst 1, 1) := by decide +kernel
theorem d_A_mapNumber_47 : decode (xMc m_A_mapNumber) 47 = .ok (.invokevirtual 224, 3) := by decide +kernel
theorem d_A_mapNumber_50 : decode (xMc m_A_mapNumber) 50 = .ok (.goto 76, 3) := by decide +kernel
theorem d_A_mapNumber_53 : decode (xMc m_A_mapNumber) 53 = .ok (.iload_n 1, 1) := by decide +kernel
theorem d_A_mapNumber_54 : decode (xMc m_A_mapNumber) 54 = .ok (.aload_n 2, 1) := by decide +kernel
theorem d_A_mapNumber_55 : decode (xMc m_A_mapNumber) 55 = .ok (.invokestatic 227, 3) := by decide +kernel
theorem d_A_mapNumber_58 : decode (xMc m_A_mapNumber) 58 = .ok (.goto 68, 3) := by decide +kernel
theorem d_A_mapNumber_61 : decode (xMc m_A_mapNumber) 61 = .ok (.aload_n 2, 1) := by decide +kernel
theorem d_A_mapNumber_62 : decode (xMc m_A_mapNumber) 62 = .ok (.iload_n 1, 1) := by decide +kernel
theorem d_A_mapNumber_63 : decode (xMc m_A_mapNumber) 63 = .ok (.iconst 3, 1) := by decide +kernel
theorem d_A_mapNumber_64 : decode (xMc m_A_mapNumber) 64 = .ok (.invokestatic 221, 3) := by decide +kernel
theorem d_A_mapNumber_67 : decode (xMc m_A_mapNumber) 67 = .ok (.iload_n 1, 1) := by decide +kernel
theorem d_A_mapNumber_68 : decode (xMc m_A_mapNumber) 68 = .ok (.invokevirtual 224, 3) := by decide +kernel
theorem d_A_mapNumber_71 : decode (xMc m_A_mapNumber) 71 = .ok (.goto 55, 3) := by decide +kernel
theorem d_A_mapNumber_74 : decode (xMc m_A_mapNumber) 74 = .ok (.iload_n 1, 1) := by decide +kernel
theorem d_A_mapNumber_75 : decode (xMc m_A_mapNumber) 75 = .ok (.iconst 2, 1) := by decide +kernel
theorem d_A_mapNumber_76 : decode (xMc m_A_mapNumber) 76 = .ok (.irem, 1) := by decide +kernel
theorem d_A_mapNumber_77 : decode (xMc m_A_mapNumber) 77 = .ok (.ifCond .ne 49, 3) := by decide +kernel
theorem d_A_mapNumber_80 : decode (xMc m_A_mapNumber) 80 = .ok (.aload_n 2, 1) := by decide +kernel
theorem d_A_mapNumber_81 : decode (xMc m_A_mapNumber) 81 = .ok (.iload_n 1, 1) := by decide +kernel
theorem d_A_mapNumber_82 : decode (xMc m_A_mapNumber) 82 = .ok (.iconst 2, 1) := by decide +kernel
theorem d_A_mapNumber_83 : decode (xMc m_A_mapNumber) 83 = .ok (.idiv, 1) := by decide +kernel
theorem d_A_mapNumber_84 : decode (xMc m_A_mapNumber) 84 = .ok (.iload_n 1, 1) := by decide +kernel
theorem d_A_mapNumber_85 : decode (xMc m_A_mapNumber) 85 = .ok (.invokevirtual 224, 3) := by decide +kernel
theorem d_A_mapNumber_88 : decode (xMc m_A_mapNumber) 88 = .ok (.goto 38, 3) := by decide +kernel
theorem d_A_mapNumber_91 : decode (xMc m_A_mapNumber) 91 = .ok (.aload_n 2, 1) := by decide +kernel
theorem d_A_mapNumber_92 : decode (xMc m_A_mapNumber) 92 = .ok (.iload_n 1, 1) := by decide +kernel
theorem d_A_mapNumber_93 : decode (xMc m_A_mapNumber) 93 = .ok (.ifCond .ge 7, 3) := by decide +kernel
theorem d_A_mapNumber_96 : decode (xMc m_A_mapNumber) 96 = .ok (.iconst (-1), 1) := by decide +kernel
theorem d_A_mapNumber_97 : decode (xMc m_A_mapNumber) 97 = .ok (.goto 12, 3) := by decide +kernel
theorem d_A_mapNumber_100 : decode (xMc m_A_mapNumber) 100 = .ok (.iload_n 1, 1) := by decide +kernel
theorem d_A_mapNumber_101 : decode (xMc m_A_mapNumber) 101 = .ok (.ifCond .le 7, 3) := by decide +kernel
theorem d_A_mapNumber_104 : decode (xMc m_A_mapNumber) 104 = .ok (.iconst 1, 1) := by decide +kernel
theorem d_A_mapNumber_105 : decode (xMc m_A_mapNumber) 105 = .ok (.goto 4, 3) := by decide +kernel
theorem d_A_mapNumber_108 : decode (xMc m_A_mapNumber) 108 = .ok (.iconst 0, 1) := by decide +kernel
theorem d_A_mapNumber_109 : decode (xMc m_A_mapNumber) 109 = .ok (.iload_n 1, 1) := by decide +kernel
theorem d_A_mapNumber_110 : decode (xMc m_A_mapNumber) 110 = .ok (.invokevirtual 224, 3) := by decide +kernel
theorem d_A_mapNumber_113 : decode (xMc m_A_mapNumber) 113 = .ok (.iload_n 1, 1) := by decide +kernel
theorem d_A_mapNumber_114 : decode (xMc m_A_mapNumber) 114 = .ok (.ifCond .eq 12, 3) := by decide +kernel
theorem d_A_mapNumber_117 : decode (xMc m_A_mapNumber) 117 = .ok (.aload_n 2, 1) := by decide +kernel
theorem d_A_mapNumber_118 : decode (xMc m_A_mapNumber) 118 = .ok (.iconst 2, 1) := by decide +kernel
theorem d_A_mapNumber_119 : decode (xMc m_A_mapNumber) 119 = .ok (.iconst 1, 1) := by decide +kernel
theorem d_A_mapNumber_120 : decode (xMc m_A_mapNumber) 120 = .ok (.invokevirtual 224, 3) := by decide +kernel
theorem d_A_mapNumber_123 : decode (xMc m_A_mapNumber) 123 = .ok (.goto 3, 3) := by decide +kernel
theorem d_A_mapNumber_126 : decode (xMc m_A_mapNumber) 126 = .ok (.return_, 1) := by decide +kernel
theorem d_A_mapDigits_0 : decode (xMc m_A_mapDigits) 0 = .ok (.iload_n 0, 1) := by decide +kernel
theorem d_A_mapDigits_1 : decode (xMc m_A_mapDigits) 1 = .ok (.i2l, 1) := by decide +kernel
theorem d_A_mapDigits_2 : decode (xMc m_A_mapDigits) 2 = .ok (.invokestatic 231, 3) := by decide +kernel
theorem d_A_mapDigits_5 : decode (xMc m_A_mapDigits) 5 = .ok (.lstore_n 2, 1) := by decide +kernel
theorem d_A_mapDigits_6 : decode (xMc m_A_mapDigits) 6 = .ok (.iconst 0, 1) := by decide +kernel
theorem d_A_mapDigits_7 : decode (xMc m_A_mapDigits) 7 = .ok (.istore 4, 2) := by decide +kernel
theorem d_A_mapDigits_9 : decode (xMc m_A_mapDigits) 9 = .ok (.iload 4, 2) := by decide +kernel
theorem d_A_mapDigits_11 : decode (xMc m_A_mapDigits) 11 = .ok (.bipush 6, 2) := by decide +kernel
theorem d_A_mapDigits_13 : decode (xMc m_A_mapDigits) 13 = .ok (.if_icmp .ge 35, 3) := by decide +kernel
theorem d_A_mapDigits_16 : decode (xMc m_A_mapDigits) 16 = .ok (.aload_n 1, 1) := by decide +kernel
theorem d_A_mapDigits_17 : decode (xMc m_A_mapDigits) 17 = .ok (.lload_n 2, 1) := by decide +kernel
theorem d_A_mapDigits_18 : decode (xMc m_A_mapDigits) 18 = .ok (.ldc2_w 235, 3) := by decide +kernel
theorem d_A_mapDigits_21 : decode (xMc m_A_mapDigits) 21 = .ok (.lrem, 1) := by decide +kernel
theorem d_A_mapDigits_22 : decode (xMc m_A_mapDigits) 22 = .ok (.l2i, 1) := by decide +kernel
theorem d_A_mapDigits_23 : decode (xMc m_A_mapDigits) 23 = .ok (.iconst 1, 1) := by decide +kernel
theorem d_A_mapDigits_24 : decode (xMc m_A_mapDigits) 24 = .ok (.invokevirtual 224, 3) := by decide +kernel
theorem d_A_mapDigits_27 : decode (xMc m_A_mapDigits) 27 = .ok (.lload_n 2, 1) := by decide +kernel
theorem d_A_mapDigits_28 : decode (xMc m_A_mapDigits) 28 = .ok (.ldc2_w 235, 3) := by decide +kernel
theorem d_A_mapDigits_31 : decode (xMc m_A_mapDigits) 31 = .ok (.ldiv, 1) := by decide +kernel
theorem d_A_mapDigits_32 : decode (xMc m_A_mapDigits) 32 = .ok (.lstore_n 2, 1) := by decide +kernel
theorem d_A_mapDigits_33 : decode (xMc m_A_mapDigits) 33 = .ok (.lload_n 2, 1) := by decide +kernel
theorem d_A_mapDigits_34 : decode (xMc m_A_mapDigits) 34 = .ok (.lconst 0, 1) := by decide +kernel
theorem d_A_mapDigits_35 : decode (xMc m_A_mapDigits) 35 = .ok (.lcmp, 1) := by decide +kernel
theorem d_A_mapDigits_36 : decode (xMc m_A_mapDigits) 36 = .ok (.ifCond .ne 6, 3) := by decide +kernel
theorem d_A_mapDigits_39 : decode (xMc m_A_mapDigits) 39 = .ok (.goto 9, 3) := by decide +kernel
theorem d_A_mapDigits_42 : decode (xMc m_A_mapDigits) 42 = .ok (.iinc 4 1, 3) := by decide +kernel
theorem d_A_mapDigits_45 : decode (xMc m_A_mapDigits) 45 = .ok (.goto (-36), 3) := by decide +kernel
theorem d_A_mapDigits_48 : decode (xMc m_A_mapDigits) 48 = .ok (.return_, 1) := by decide +kernel
theorem d_A_chunk_0 : decode (xMc m_A_chunk) 0 = .ok (.iload_n 3, 1) := by decide +kernel
theorem d_A_chunk_1 : decode (xMc m_A_chunk) 1 = .ok (.iconst 1, 1) := by decide +kernel
theorem d_A_chunk_2 : decode (xMc m_A_chunk) 2 = .ok (.bipush 6, 2) := by decide +kernel
theorem d_A_chunk_4 : decode (xMc m_A_chunk) 4 = .ok (.invokestatic 81, 3) := by decide +kernel
theorem d_A_chunk_7 : decode (xMc m_A_chunk) 7 = .ok (.iload 4, 2) := by decide +kernel
theorem d_A_chunk_9 : decode (xMc m_A_chunk) 9 = .ok (.sipush (-1000), 3) := by decide +kernel
theorem d_A_chunk_12 : decode (xMc m_A_chunk) 12 = .ok (.sipush 1000, 3) := by decide +kernel
theorem d_A_chunk_15 : decode (xMc m_A_chunk) 15 = .ok (.invokestatic 81, 3) := by decide +kernel
theorem d_A_chunk_18 : decode (xMc m_A_chunk) 18 = .ok (.aload_n 0, 1) := by decide +kernel
theorem d_A_chunk_19 : decode (xMc m_A_chunk) 19 = .ok (.getfield 49, 3) := by decide +kernel
theorem d_A_chunk_22 : decode (xMc m_A_chunk) 22 = .ok (.ifCond .ne 12, 3) := by decide +kernel
theorem d_A_chunk_25 : decode (xMc m_A_chunk) 25 = .ok (.aload_n 0, 1) := by decide +kernel
theorem d_A_chunk_26 : decode (xMc m_A_chunk) 26 = .ok (.getfield 53, 3) := by decide +kernel
theorem d_A_chunk_29 : decode (xMc m_A_chunk) 29 = .ok (.bipush 6, 2) := by decide +kernel
theorem d_A_chunk_31 : decode (xMc m_A_chunk) 31 = .ok (.if_icmp .lt 11, 3) := by decide +kernel
theorem d_A_chunk_34 : decode (xMc m_A_chunk) 34 = .ok (.new 85, 3) := by decide +kernel
theorem d_A_chunk_37 : decode (xMc m_A_chunk) 37 = .ok (.dup, 1) := by decide +kernel
theorem d_A_chunk_38 : decode (xMc m_A_chunk) 38 = .ok (.invokespecial 87, 3) := by decide +kernel
theorem d_A_chunk_41 : decode (xMc m_A_chunk) 41 = .ok (.athrow, 1) := by decide +kernel
theorem d_A_chunk_42 : decode (xMc m_A_chunk) 42 = .ok (.aload_n 0, 1) := by decide +kernel
theorem d_A_chunk_43 : decode (xMc m_A_chunk) 43 = .ok (.getfield 17, 3) := by decide +kernel
theorem d_A_chunk_46 : decode (xMc m_A_chunk) 46 = .ok (.aload_n 0, 1) := by decide +kernel
theorem d_A_chunk_47 : decode (xMc m_A_chunk) 47 = .ok (.getfield 53, 3) := by decide +kernel
theorem d_A_chunk_50 : decode (xMc m_A_chunk) 50 = .ok (.aaload, 1) := by decide +kernel
theorem d_A_chunk_51 : decode (xMc m_A_chunk) 51 = .ok (.lload_n 1, 1) := by decide +kernel
theorem d_A_chunk_52 : decode (xMc m_A_chunk) 52 = .ok (.iload_n 3, 1) := by decide +kernel
theorem d_A_chunk_53 : decode (xMc m_A_chunk) 53 = .ok (.iload 4, 2) := by decide +kernel
theorem d_A_chunk_55 : decode (xMc m_A_chunk) 55 = .ok (.invokevirtual 88, 3) := by decide +kernel
theorem d_A_chunk_58 : decode (xMc m_A_chunk) 58 = .ok (.aload_n 0, 1) := by decide +kernel
theorem d_A_chunk_59 : decode (xMc m_A_chunk) 59 = .ok (.dup, 1) := by decide +kernel
theorem d_A_chunk_60 : decode (xMc m_A_chunk) 60 = .ok (.getfield 53, 3) := by decide +kernel
theorem d_A_chunk_63 : decode (xMc m_A_chunk) 63 = .ok (.iconst 1, 1) := by decide +kernel
theorem d_A_chunk_64 : decode (xMc m_A_chunk) 64 = .ok (.iadd, 1) := by decide +kernel
theorem d_A_chunk_65 : decode (xMc m_A_chunk) 65 = .ok (.putfield 53, 3) := by decide +kernel
theorem d_A_chunk_68 : decode (xMc m_A_chunk) 68 = .ok (.aload_n 0, 1) := by decide +kernel
theorem d_A_chunk_69 : decode (xMc m_A_chunk) 69 = .ok (.getfield 53, 3) := by decide +kernel
theorem d_A_chunk_72 : decode (xMc m_A_chunk) 72 = .ok (.iconst 1, 1) := by decide +kernel
theorem d_A_chunk_73 : decode (xMc m_A_chunk) 73 = .ok (.isub, 1) := by decide +kernel
theorem d_A_chunk_74 : decode (xMc m_A_chunk) 74 = .ok (.ireturn, 1) := by decide +kernel
theorem d_A_demandRange_0 : decode (xMc m_A_demandRange) 0 = .ok (.iload_n 0, 1) := by decide +kernel
theorem d_A_demandRange_1 : decode (xMc m_A_demandRange) 1 = .ok (.iload_n 1, 1) := by decide +kernel
theorem d_A_demandRange_2 : decode (xMc m_A_demandRange) 2 = .ok (.if_icmp .lt 8, 3) := by decide +kernel
theorem d_A_demandRange_5 : decode (xMc m_A_demandRange) 5 = .ok (.iload_n 0, 1) := by decide +kernel
theorem d_A_demandRange_6 : decode (xMc m_A_demandRange) 6 = .ok (.iload_n 2, 1) := by decide +kernel
theorem d_A_demandRange_7 : decode (xMc m_A_demandRange) 7 = .ok (.if_icmp .le 11, 3) := by decide +kernel
theorem d_A_demandRange_10 : decode (xMc m_A_demandRange) 10 = .ok (.new 202, 3) := by decide +kernel
theorem d_A_demandRange_13 : decode (xMc m_A_demandRange) 13 = .ok (.dup, 1) := by decide +kernel
theorem d_A_demandRange_14 : decode (xMc m_A_demandRange) 14 = .ok (.invokespecial 204, 3) := by decide +kernel
theorem d_A_demandRange_17 : decode (xMc m_A_demandRange) 17 = .ok (.athrow, 1) := by decide +kernel
theorem d_A_demandRange_18 : decode (xMc m_A_demandRange) 18 = .ok (.return_, 1) := by decide +kernel
theorem d_A_worker_0 : decode (xMc m_A_worker) 0 = .ok (.iload_n 1, 1) := by decide +kernel
theorem d_A_worker_1 : decode (xMc m_A_worker) 1 = .ok (.iconst 0, 1) := by decide +kernel
theorem d_A_worker_2 : decode (xMc m_A_worker) 2 = .ok (.iconst 3, 1) := by decide +kernel
theorem d_A_worker_3 : decode (xMc m_A_worker) 3 = .ok (.invokestatic 81, 3) := by decide +kernel
theorem d_A_worker_6 : decode (xMc m_A_worker) 6 = .ok (.aload_n 0, 1) := by decide +kernel
theorem d_A_worker_7 : decode (xMc m_A_worker) 7 = .ok (.getfield 11, 3) := by decide +kernel
theorem d_A_worker_10 : decode (xMc m_A_worker) 10 = .ok (.iload_n 1, 1) := by decide +kernel
theorem d_A_worker_11 : decode (xMc m_A_worker) 11 = .ok (.aaload, 1) := by decide +kernel
theorem d_A_worker_12 : decode (xMc m_A_worker) 12 = .ok (.getfield 92, 3) := by decide +kernel
theorem d_A_worker_15 : decode (xMc m_A_worker) 15 = .ok (.iload_n 2, 1) := by decide +kernel
theorem d_A_worker_16 : decode (xMc m_A_worker) 16 = .ok (.if_icmp .ne 4, 3) := by decide +kernel
theorem d_A_worker_19 : decode (xMc m_A_worker) 19 = .ok (.return_, 1) := by decide +kernel
theorem d_A_worker_20 : decode (xMc m_A_worker) 20 = .ok (.aload_n 0, 1) := by decide +kernel
theorem d_A_worker_21 : decode (xMc m_A_worker) 21 = .ok (.getfield 11, 3) := by decide +kernel
theorem d_A_worker_24 : decode (xMc m_A_worker) 24 = .ok (.iload_n 1, 1) := by decide +kernel
theorem d_A_worker_25 : decode (xMc m_A_worker) 25 = .ok (.aaload, 1) := by decide +kernel
theorem d_A_worker_26 : decode (xMc m_A_worker) 26 = .ok (.iload_n 2, 1) := by decide +kernel
theorem d_A_worker_27 : decode (xMc m_A_worker) 27 = .ok (.putfield 92, 3) := by decide +kernel
theorem d_A_worker_30 : decode (xMc m_A_worker) 30 = .ok (.iload_n 2, 1) := by decide +kernel
theorem d_A_worker_31 : decode (xMc m_A_worker) 31 = .ok (.ifCond .ne 17, 3) := by decide +kernel
theorem d_A_worker_34 : decode (xMc m_A_worker) 34 = .ok (.aload_n 0, 1) := by decide +kernel
theorem d_A_worker_35 : decode (xMc m_A_worker) 35 = .ok (.getfield 11, 3) := by decide +kernel
theorem d_A_worker_38 : decode (xMc m_A_worker) 38 = .ok (.iload_n 1, 1) := by decide +kernel
theorem d_A_worker_39 : decode (xMc m_A_worker) 39 = .ok (.aaload, 1) := by decide +kernel
theorem d_A_worker_40 : decode (xMc m_A_worker) 40 = .ok (.invokevirtual 95, 3) := by decide +kernel
theorem d_A_worker_43 : decode (xMc m_A_worker) 43 = .ok (.aload_n 0, 1) := by decide +kernel
theorem d_A_worker_44 : decode (xMc m_A_worker) 44 = .ok (.iload_n 1, 1) := by decide +kernel
theorem d_A_worker_45 : decode (xMc m_A_worker) 45 = .ok (.invokevirtual 98, 3) := by decide +kernel
theorem d_A_worker_48 : decode (xMc m_A_worker) 48 = .ok (.return_, 1) := by decide +kernel
theorem d_A_loseDisk_0 : decode (xMc m_A_loseDisk) 0 = .ok (.aload_n 0, 1) := by decide +kernel
theorem d_A_loseDisk_1 : decode (xMc m_A_loseDisk) 1 = .ok (.getfield 49, 3) := by decide +kernel
theorem d_A_loseDisk_4 : decode (xMc m_A_loseDisk) 4 = .ok (.ifCond .ne 4, 3) := by decide +kernel
theorem d_A_loseDisk_7 : decode (xMc m_A_loseDisk) 7 = .ok (.return_, 1) := by decide +kernel
theorem d_A_loseDisk_8 : decode (xMc m_A_loseDisk) 8 = .ok (.iconst 0, 1) := by decide +kernel
theorem d_A_loseDisk_9 : decode (xMc m_A_loseDisk) 9 = .ok (.istore_n 2, 1) := by decide +kernel
theorem d_A_loseDisk_10 : decode (xMc m_A_loseDisk) 10 = .ok (.iconst 0, 1) := by decide +kernel
theorem d_A_loseDisk_11 : decode (xMc m_A_loseDisk) 11 = .ok (.istore_n 3, 1) := by decide +kernel
theorem d_A_loseDisk_12 : decode (xMc m_A_loseDisk) 12 = .ok (.iload_n 3, 1) := by decide +kernel
theorem d_A_loseDisk_13 : decode (xMc m_A_loseDisk) 13 = .ok (.aload_n 0, 1) := by decide +kernel
theorem d_A_loseDisk_14 : decode (xMc m_A_loseDisk) 14 = .ok (.getfield 53, 3) := by decide +kernel
theorem d_A_loseDisk_17 : decode (xMc m_A_loseDisk) 17 = .ok (.if_icmp .ge 44, 3) := by decide +kernel
theorem d_A_loseDisk_20 : decode (xMc m_A_loseDisk) 20 = .ok (.aload_n 0, 1) := by decide +kernel
theorem d_A_loseDisk_21 : decode (xMc m_A_loseDisk) 21 = .ok (.getfield 23, 3) := by decide +kernel
theorem d_A_loseDisk_24 : decode (xMc m_A_loseDisk) 24 = .ok (.iload_n 3, 1) := by decide +kernel
theorem d_A_loseDisk_25 : decode (xMc m_A_loseDisk) 25 = .ok (.aaload, 1) := by decide +kernel
theorem d_A_loseDisk_26 : decode (xMc m_A_loseDisk) 26 = .ok (.getfield 184, 3) := by decide +kernel
theorem d_A_loseDisk_29 : decode (xMc m_A_loseDisk) 29 = .ok (.iload_n 1, 1) := by decide +kernel
theorem d_A_loseDisk_30 : decode (xMc m_A_loseDisk) 30 = .ok (.if_icmp .ne 25, 3) := by decide +kernel
theorem d_A_loseDisk_33 : decode (xMc m_A_loseDisk) 33 = .ok (.aload_n 0, 1) := by decide +kernel
theorem d_A_loseDisk_34 : decode (xMc m_A_loseDisk) 34 = .ok (.getfield 23, 3) := by decide +kernel
theorem d_A_loseDisk_37 : decode (xMc m_A_loseDisk) 37 = .ok (.iload_n 3, 1) := by decide +kernel
theorem d_A_loseDisk_38 : decode (xMc m_A_loseDisk) 38 = .ok (.aaload, 1) := by decide +kernel
theorem d_A_loseDisk_39 : decode (xMc m_A_loseDisk) 39 = .ok (.iconst (-1), 1) := by decide +kernel
theorem d_A_loseDisk_40 : decode (xMc m_A_loseDisk) 40 = .ok (.putfield 184, 3) := by decide +kernel
theorem d_A_loseDisk_43 : decode (xMc m_A_loseDisk) 43 = .ok (.aload_n 0, 1) := by decide +kernel
theorem d_A_loseDisk_44 : decode (xMc m_A_loseDisk) 44 = .ok (.dup, 1) := by decide +kernel
theorem d_A_loseDisk_45 : decode (xMc m_A_loseDisk) 45 = .ok (.getfield 73, 3) := by decide +kernel
theorem d_A_loseDisk_48 : decode (xMc m_A_loseDisk) 48 = .ok (.iconst 1, 1) := by decide +kernel
theorem d_A_loseDisk_49 : decode (xMc m_A_loseDisk) 49 = .ok (.iadd, 1) := by decide +kernel
theorem d_A_loseDisk_50 : decode (xMc m_A_loseDisk) 50 = .ok (.putfield 73, 3) := by decide +kernel
theorem d_A_loseDisk_53 : decode (xMc m_A_loseDisk) 53 = .ok (.iconst 1, 1) := by decide +kernel
theorem d_A_loseDisk_54 : decode (xMc m_A_loseDisk) 54 = .ok (.istore_n 2, 1) := by decide +kernel
theorem d_A_loseDisk_55 : decode (xMc m_A_loseDisk) 55 = .ok (.iinc 3 1, 3) := by decide +kernel
theorem d_A_loseDisk_58 : decode (xMc m_A_loseDisk) 58 = .ok (.goto (-46), 3) := by decide +kernel
theorem d_A_loseDisk_61 : decode (xMc m_A_loseDisk) 61 = .ok (.iload_n 2, 1) := by decide +kernel
theorem d_A_loseDisk_62 : decode (xMc m_A_loseDisk) 62 = .ok (.ifCond .eq 7, 3) := by decide +kernel
theorem d_A_loseDisk_65 : decode (xMc m_A_loseDisk) 65 = .ok (.aload_n 0, 1) := by decide +kernel
theorem d_A_loseDisk_66 : decode (xMc m_A_loseDisk) 66 = .ok (.invokevirtual 288, 3) := by decide +kernel
theorem d_A_loseDisk_69 : decode (xMc m_A_loseDisk) 69 = .ok (.return_, 1) := by decide +kernel
theorem d_A_giveUpReduceTasks_0 : decode (xMc m_A_giveUpReduceTasks) 0 = .ok (.iconst 0, 1) := by decide +kernel
theorem d_A_giveUpReduceTasks_1 : decode (xMc m_A_giveUpReduceTasks) 1 = .ok (.istore_n 1, 1) := by decide +kernel
theorem d_A_giveUpReduceTasks_2 : decode (xMc m_A_giveUpReduceTasks) 2 = .ok (.iload_n 1, 1) := by decide +kernel
theorem d_A_giveUpReduceTasks_3 : decode (xMc m_A_giveUpReduceTasks) 3 = .ok (.iconst 4, 1) := by decide +kernel
theorem d_A_giveUpReduceTasks_4 : decode (xMc m_A_giveUpReduceTasks) 4 = .ok (.if_icmp .ge 39, 3) := by decide +kernel
theorem d_A_giveUpReduceTasks_7 : decode (xMc m_A_giveUpReduceTasks) 7 = .ok (.aload_n 0, 1) := by decide +kernel
theorem d_A_giveUpReduceTasks_8 : decode (xMc m_A_giveUpReduceTasks) 8 = .ok (.getfield 11, 3) := by decide +kernel
theorem d_A_giveUpReduceTasks_11 : decode (xMc m_A_giveUpReduceTasks) 11 = .ok (.iload_n 1, 1) := by decide +kernel
theorem d_A_giveUpReduceTasks_12 : decode (xMc m_A_giveUpReduceTasks) 12 = .ok (.aaload, 1) := by decide +kernel
theorem d_A_giveUpReduceTasks_13 : decode (xMc m_A_giveUpReduceTasks) 13 = .ok (.getfield 237, 3) := by decide +kernel
theorem d_A_giveUpReduceTasks_16 : decode (xMc m_A_giveUpReduceTasks) 16 = .ok (.astore_n 2, 1) := by decide +kernel
theorem d_A_giveUpReduceTasks_17 : decode (xMc m_A_giveUpReduceTasks) 17 = .ok (.aload_n 2, 1) := by decide +kernel
theorem d_A_giveUpReduceTasks_18 : decode (xMc m_A_giveUpReduceTasks) 18 = .ok (.ifnull 19, 3) := by decide +kernel
theorem d_A_giveUpReduceTasks_21 : decode (xMc m_A_giveUpReduceTasks) 21 = .ok (.aload_n 2, 1) := by decide +kernel
theorem d_A_giveUpReduceTasks_22 : decode (xMc m_A_giveUpReduceTasks) 22 = .ok (.getfield 257, 3) := by decide +kernel
theorem d_A_giveUpReduceTasks_25 : decode (xMc m_A_giveUpReduceTasks) 25 = .ok (.ifCond .ne 12, 3) := by decide +kernel
theorem d_A_giveUpReduceTasks_28 : decode (xMc m_A_giveUpReduceTasks) 28 = .ok (.aload_n 0, 1) := by decide +kernel
theorem d_A_giveUpReduceTasks_29 : decode (xMc m_A_giveUpReduceTasks) 29 = .ok (.getfield 11, 3) := by decide +kernel
theorem d_A_giveUpReduceTasks_32 : decode (xMc m_A_giveUpReduceTasks) 32 = .ok (.iload_n 1, 1) := by decide +kernel
theorem d_A_giveUpReduceTasks_33 : decode (xMc m_A_giveUpReduceTasks) 33 = .ok (.aaload, 1) := by decide +kernel
theorem d_A_giveUpReduceTasks_34 : decode (xMc m_A_giveUpReduceTasks) 34 = .ok (.invokevirtual 95, 3) := by decide +kernel
theorem d_A_giveUpReduceTasks_37 : decode (xMc m_A_giveUpReduceTasks) 37 = .ok (.iinc 1 1, 3) := by decide +kernel
theorem d_A_giveUpReduceTasks_40 : decode (xMc m_A_giveUpReduceTasks) 40 = .ok (.goto (-38), 3) := by decide +kernel
theorem d_A_giveUpReduceTasks_43 : decode (xMc m_A_giveUpReduceTasks) 43 = .ok (.return_, 1) := by decide +kernel
theorem d_A_speed_0 : decode (xMc m_A_speed) 0 = .ok (.iload_n 1, 1) := by decide +kernel
theorem d_A_speed_1 : decode (xMc m_A_speed) 1 = .ok (.iconst 0, 1) := by decide +kernel
theorem d_A_speed_2 : decode (xMc m_A_speed) 2 = .ok (.iconst 3, 1) := by decide +kernel
theorem d_A_speed_3 : decode (xMc m_A_speed) 3 = .ok (.invokestatic 81, 3) := by decide +kernel
theorem d_A_speed_6 : decode (xMc m_A_speed) 6 = .ok (.iload_n 2, 1) := by decide +kernel
theorem d_A_speed_7 : decode (xMc m_A_speed) 7 = .ok (.iconst 1, 1) := by decide +kernel
theorem d_A_speed_8 : decode (xMc m_A_speed) 8 = .ok (.iconst 4, 1) := by decide +kernel
theorem d_A_speed_9 : decode (xMc m_A_speed) 9 = .ok (.invokestatic 81, 3) := by decide +kernel
theorem d_A_speed_12 : decode (xMc m_A_speed) 12 = .ok (.aload_n 0, 1) := by decide +kernel
theorem d_A_speed_13 : decode (xMc m_A_speed) 13 = .ok (.getfield 11, 3) := by decide +kernel
theorem d_A_speed_16 : decode (xMc m_A_speed) 16 = .ok (.iload_n 1, 1) := by decide +kernel
theorem d_A_speed_17 : decode (xMc m_A_speed) 17 = .ok (.aaload, 1) := by decide +kernel
theorem d_A_speed_18 : decode (xMc m_A_speed) 18 = .ok (.iload_n 2, 1) := by decide +kernel
theorem d_A_speed_19 : decode (xMc m_A_speed) 19 = .ok (.putfield 101, 3) := by decide +kernel
theorem d_A_speed_22 : decode (xMc m_A_speed) 22 = .ok (.return_, 1) := by decide +kernel
theorem d_A_begin_0 : decode (xMc m_A_begin) 0 = .ok (.iload_n 1, 1) := by decide +kernel
theorem d_A_begin_1 : decode (xMc m_A_begin) 1 = .ok (.iconst 0, 1) := by decide +kernel
theorem d_A_begin_2 : decode (xMc m_A_begin) 2 = .ok (.iconst 4, 1) := by decide +kernel
theorem d_A_begin_3 : decode (xMc m_A_begin) 3 = .ok (.invokestatic 81, 3) := by decide +kernel
theorem d_A_begin_6 : decode (xMc m_A_begin) 6 = .ok (.iload_n 2, 1) := by decide +kernel
theorem d_A_begin_7 : decode (xMc m_A_begin) 7 = .ok (.iconst 0, 1) := by decide +kernel
theorem d_A_begin_8 : decode (xMc m_A_begin) 8 = .ok (.iconst 4, 1) := by decide +kernel
theorem d_A_begin_9 : decode (xMc m_A_begin) 9 = .ok (.invokestatic 81, 3) := by decide +kernel
theorem d_A_begin_12 : decode (xMc m_A_begin) 12 = .ok (.iload_n 3, 1) := by decide +kernel
theorem d_A_begin_13 : decode (xMc m_A_begin) 13 = .ok (.iconst 1, 1) := by decide +kernel
theorem d_A_begin_14 : decode (xMc m_A_begin) 14 = .ok (.iconst 3, 1) := by decide +kernel
theorem d_A_begin_15 : decode (xMc m_A_begin) 15 = .ok (.invokestatic 81, 3) := by decide +kernel
theorem d_A_begin_18 : decode (xMc m_A_begin) 18 = .ok (.iload 4, 2) := by decide +kernel
theorem d_A_begin_20 : decode (xMc m_A_begin) 20 = .ok (.iconst 2, 1) := by decide +kernel
theorem d_A_begin_21 : decode (xMc m_A_begin) 21 = .ok (.bipush 6, 2) := by decide +kernel
theorem d_A_begin_23 : decode (xMc m_A_begin) 23 = .ok (.invokestatic 81, 3) := by decide +kernel
theorem d_A_begin_26 : decode (xMc m_A_begin) 26 = .ok (.aload_n 0, 1) := by decide +kernel
theorem d_A_begin_27 : decode (xMc m_A_begin) 27 = .ok (.getfield 49, 3) := by decide +kernel
theorem d_A_begin_30 : decode (xMc m_A_begin) 30 = .ok (.ifCond .ne 10, 3) := by decide +kernel
theorem d_A_begin_33 : decode (xMc m_A_begin) 33 = .ok (.aload_n 0, 1) := by decide +kernel
theorem d_A_begin_34 : decode (xMc m_A_begin) 34 = .ok (.getfield 53, 3) := by decide +kernel
theorem d_A_begin_37 : decode (xMc m_A_begin) 37 = .ok (.ifCond .ne 11, 3) := by decide +kernel
theorem d_A_begin_40 : decode (xMc m_A_begin) 40 = .ok (.new 85, 3) := by decide +kernel
theorem d_A_begin_43 : decode (xMc m_A_begin) 43 = .ok (.dup, 1) := by decide +kernel
theorem d_A_begin_44 : decode (xMc m_A_begin) 44 = .ok (.invokespecial 87, 3) := by decide +kernel
theorem d_A_begin_47 : decode (xMc m_A_begin) 47 = .ok (.athrow, 1) := by decide +kernel
theorem d_A_begin_48 : decode (xMc m_A_begin) 48 = .ok (.aload_n 0, 1) := by decide +kernel
theorem d_A_begin_49 : decode (xMc m_A_begin) 49 = .ok (.getfield 42, 3) := by decide +kernel
theorem d_A_begin_52 : decode (xMc m_A_begin) 52 = .ok (.iload_n 2, 1) := by decide +kernel
theorem d_A_begin_53 : decode (xMc m_A_begin) 53 = .ok (.iload_n 3, 1) := by decide +kernel
theorem d_A_begin_54 : decode (xMc m_A_begin) 54 = .ok (.aload_n 0, 1) := by decide +kernel
theorem d_A_begin_55 : decode (xMc m_A_begin) 55 = .ok (.getfield 61, 3) := by decide +kernel
theorem d_A_begin_58 : decode (xMc m_A_begin) 58 = .ok (.invokevirtual 104, 3) := by decide +kernel
theorem d_A_begin_61 : decode (xMc m_A_begin) 61 = .ok (.aload_n 0, 1) := by decide +kernel
theorem d_A_begin_62 : decode (xMc m_A_begin) 62 = .ok (.iload_n 1, 1) := by decide +kernel
theorem d_A_begin_63 : decode (xMc m_A_begin) 63 = .ok (.putfield 57, 3) := by decide +kernel
theorem d_A_begin_66 : decode (xMc m_A_begin) 66 = .ok (.aload_n 0, 1) := by decide +kernel
theorem d_A_begin_67 : decode (xMc m_A_begin) 67 = .ok (.iconst 1, 1) := by decide +kernel
theorem d_A_begin_68 : decode (xMc m_A_begin) 68 = .ok (.putfield 49, 3) := by decide +kernel
theorem d_A_begin_71 : decode (xMc m_A_begin) 71 = .ok (.iconst 0, 1) := by decide +kernel
theorem d_A_begin_72 : decode (xMc m_A_begin) 72 = .ok (.istore 5, 2) := by decide +kernel
theorem d_A_begin_74 : decode (xMc m_A_begin) 74 = .ok (.iload 5, 2) := by decide +kernel
theorem d_A_begin_76 : decode (xMc m_A_begin) 76 = .ok (.aload_n 0, 1) := by decide +kernel
theorem d_A_begin_77 : decode (xMc m_A_begin) 77 = .ok (.getfield 53, 3) := by decide +kernel
theorem d_A_begin_80 : decode (xMc m_A_begin) 80 = .ok (.if_icmp .ge 42, 3) := by decide +kernel
theorem d_A_begin_83 : decode (xMc m_A_begin) 83 = .ok (.aload_n 0, 1) := by decide +kernel
theorem d_A_begin_84 : decode (xMc m_A_begin) 84 = .ok (.getfield 23, 3) := by decide +kernel
theorem d_A_begin_87 : decode (xMc m_A_begin) 87 = .ok (.iload 5, 2) := by decide +kernel
theorem d_A_begin_89 : decode (xMc m_A_begin) 89 = .ok (.aaload, 1) := by decide +kernel
theorem d_A_begin_90 : decode (xMc m_A_begin) 90 = .ok (.iconst 2, 1) := by decide +kernel
theorem d_A_begin_91 : decode (xMc m_A_begin) 91 = .ok (.aload_n 0, 1) := by decide +kernel
theorem d_A_begin_92 : decode (xMc m_A_begin) 92 = .ok (.getfield 17, 3) := by decide +kernel
theorem d_A_begin_95 : decode (xMc m_A_begin) 95 = .ok (.iload 5, 2) := by decide +kernel
theorem d_A_begin_97 : decode (xMc m_A_begin) 97 = .ok (.aaload, 1) := by decide +kernel
theorem d_A_begin_98 : decode (xMc m_A_begin) 98 = .ok (.getfield 107, 3) := by decide +kernel
theorem d_A_begin_101 : decode (xMc m_A_begin) 101 = .ok (.imul, 1) := by decide +kernel
theorem d_A_begin_102 : decode (xMc m_A_begin) 102 = .ok (.aload_n 0, 1) := by decide +kernel
theorem d_A_begin_103 : decode (xMc m_A_begin) 103 = .ok (.iload 5, 2) := by decide +kernel
theorem d_A_begin_105 : decode (xMc m_A_begin) 105 = .ok (.invokevirtual 110, 3) := by decide +kernel
theorem d_A_begin_108 : decode (xMc m_A_begin) 108 = .ok (.iload 4, 2) := by decide +kernel
theorem d_A_begin_110 : decode (xMc m_A_begin) 110 = .ok (.invokestatic 114, 3) := by decide +kernel
theorem d_A_begin_113 : decode (xMc m_A_begin) 113 = .ok (.invokevirtual 118, 3) := by decide +kernel
theorem d_A_begin_116 : decode (xMc m_A_begin) 116 = .ok (.iinc 5 1, 3) := by decide +kernel
theorem d_A_begin_119 : decode (xMc m_A_begin) 119 = .ok (.goto (-45), 3) := by decide +kernel
theorem d_A_begin_122 : decode (xMc m_A_begin) 122 = .ok (.iconst 0, 1) := by decide +kernel
theorem d_A_begin_123 : decode (xMc m_A_begin) 123 = .ok (.istore 5, 2) := by decide +kernel
theorem d_A_begin_125 : decode (xMc m_A_begin) 125 = .ok (.iload 5, 2) := by decide +kernel
theorem d_A_begin_127 : decode (xMc m_A_begin) 127 = .ok (.iload_n 3, 1) := by decide +kernel
theorem d_A_begin_128 : decode (xMc m_A_begin) 128 = .ok (.if_icmp .ge 35, 3) := by decide +kernel
theorem d_A_begin_131 : decode (xMc m_A_begin) 131 = .ok (.aload_n 0, 1) := by decide +kernel
theorem d_A_begin_132 : decode (xMc m_A_begin) 132 = .ok (.getfield 27, 3) := by decide +kernel
theorem d_A_begin_135 : decode (xMc m_A_begin) 135 = .ok (.iload 5, 2) := by decide +kernel
theorem d_A_begin_137 : decode (xMc m_A_begin) 137 = .ok (.aaload, 1) := by decide +kernel
theorem d_A_begin_138 : decode (xMc m_A_begin) 138 = .ok (.iconst 1, 1) := by decide +kernel
theorem d_A_begin_139 : decode (xMc m_A_begin) 139 = .ok (.aload_n 0, 1) := by decide +kernel
theorem d_A_begin_140 : decode (xMc m_A_begin) 140 = .ok (.getfield 42, 3) := by decide +kernel
theorem d_A_begin_143 : decode (xMc m_A_begin) 143 = .ok (.getfield 122, 3) := by decide +kernel
theorem d_A_begin_146 : decode (xMc m_A_begin) 146 = .ok (.iload 5, 2) := by decide +kernel
theorem d_A_begin_148 : decode (xMc m_A_begin) 148 = .ok (.aaload, 1) := by decide +kernel
theorem d_A_begin_149 : decode (xMc m_A_begin) 149 = .ok (.getfield 126, 3) := by decide +kernel
theorem d_A_begin_152 : decode (xMc m_A_begin) 152 = .ok (.iadd, 1) := by decide +kernel
theorem d_A_begin_153 : decode (xMc m_A_begin) 153 = .ok (.iconst 0, 1) := by decide +kernel
theorem d_A_begin_154 : decode (xMc m_A_begin) 154 = .ok (.invokevirtual 118, 3) := by decide +kernel
theorem d_A_begin_157 : decode (xMc m_A_begin) 157 = .ok (.iinc 5 1, 3) := by decide +kernel
theorem d_A_begin_160 : decode (xMc m_A_begin) 160 = .ok (.goto (-35), 3) := by decide +kernel
theorem d_A_begin_163 : decode (xMc m_A_begin) 163 = .ok (.aload_n 0, 1) := by decide +kernel
theorem d_A_begin_164 : decode (xMc m_A_begin) 164 = .ok (.getfield 53, 3) := by decide +kernel
theorem d_A_begin_167 : decode (xMc m_A_begin) 167 = .ok (.ireturn, 1) := by decide +kernel
theorem d_A_mapChunk_0 : decode (xMc m_A_mapChunk) 0 = .ok (.iconst 0, 1) := by decide +kernel
theorem d_A_mapChunk_1 : decode (xMc m_A_mapChunk) 1 = .ok (.istore_n 2, 1) := by decide +kernel
theorem d_A_mapChunk_2 : decode (xMc m_A_mapChunk) 2 = .ok (.iconst 0, 1) := by decide +kernel
theorem d_A_mapChunk_3 : decode (xMc m_A_mapChunk) 3 = .ok (.istore_n 3, 1) := by decide +kernel
theorem d_A_mapChunk_4 : decode (xMc m_A_mapChunk) 4 = .ok (.iload_n 3, 1) := by decide +kernel
theorem d_A_mapChunk_5 : decode (xMc m_A_mapChunk) 5 = .ok (.aload_n 0, 1) := by decide +kernel
theorem d_A_mapChunk_6 : decode (xMc m_A_mapChunk) 6 = .ok (.getfield 17, 3) := by decide +kernel
theorem d_A_mapChunk_9 : decode (xMc m_A_mapChunk) 9 = .ok (.iload_n 1, 1) := by decide +kernel
theorem d_A_mapChunk_10 : decode (xMc m_A_mapChunk) 10 = .ok (.aaload, 1) := by decide +kernel
theorem d_A_mapChunk_11 : decode (xMc m_A_mapChunk) 11 = .ok (.getfield 107, 3) := by decide +kernel
theorem d_A_mapChunk_14 : decode (xMc m_A_mapChunk) 14 = .ok (.if_icmp .ge 52, 3) := by decide +kernel
theorem d_A_mapChunk_17 : decode (xMc m_A_mapChunk) 17 = .ok (.aload_n 0, 1) := by decide +kernel
theorem d_A_mapChunk_18 : decode (xMc m_A_mapChunk) 18 = .ok (.getfield 57, 3) := by decide +kernel
theorem d_A_mapChunk_21 : decode (xMc m_A_mapChunk) 21 = .ok (.aload_n 0, 1) := by decide +kernel
theorem d_A_mapChunk_22 : decode (xMc m_A_mapChunk) 22 = .ok (.getfield 17, 3) := by decide +kernel
theorem d_A_mapChunk_25 : decode (xMc m_A_mapChunk) 25 = .ok (.iload_n 1, 1) := by decide +kernel
theorem d_A_mapChunk_26 : decode (xMc m_A_mapChunk) 26 = .ok (.aaload, 1) := by decide +kernel
theorem d_A_mapChunk_27 : decode (xMc m_A_mapChunk) 27 = .ok (.getfield 210, 3) := by decide +kernel
theorem d_A_mapChunk_30 : decode (xMc m_A_mapChunk) 30 = .ok (.iload_n 3, 1) := by decide +kernel
theorem d_A_mapChunk_31 : decode (xMc m_A_mapChunk) 31 = .ok (.iaload, 1) := by decide +kernel
theorem d_A_mapChunk_32 : decode (xMc m_A_mapChunk) 32 = .ok (.aload_n 0, 1) := by decide +kernel
theorem d_A_mapChunk_33 : decode (xMc m_A_mapChunk) 33 = .ok (.getfield 35, 3) := by decide +kernel
theorem d_A_mapChunk_36 : decode (xMc m_A_mapChunk) 36 = .ok (.invokestatic 213, 3) := by decide +kernel
theorem d_A_mapChunk_39 : decode (xMc m_A_mapChunk) 39 = .ok (.aload_n 0, 1) := by decide +kernel
theorem d_A_mapChunk_40 : decode (xMc m_A_mapChunk) 40 = .ok (.getfield 42, 3) := by decide +kernel
theorem d_A_mapChunk_43 : decode (xMc m_A_mapChunk) 43 = .ok (.aload_n 0, 1) := by decide +kernel
theorem d_A_mapChunk_44 : decode (xMc m_A_mapChunk) 44 = .ok (.getfield 35, 3) := by decide +kernel
theorem d_A_mapChunk_47 : decode (xMc m_A_mapChunk) 47 = .ok (.invokevirtual 217, 3) := by decide +kernel
theorem d_A_mapChunk_50 : decode (xMc m_A_mapChunk) 50 = .ok (.iload_n 2, 1) := by decide +kernel
theorem d_A_mapChunk_51 : decode (xMc m_A_mapChunk) 51 = .ok (.aload_n 0, 1) := by decide +kernel
theorem d_A_mapChunk_52 : decode (xMc m_A_mapChunk) 52 = .ok (.getfield 35, 3) := by decide +kernel
theorem d_A_mapChunk_55 : decode (xMc m_A_mapChunk) 55 = .ok (.getfield 126, 3) := by decide +kernel
theorem d_A_mapChunk_58 : decode (xMc m_A_mapChunk) 58 = .ok (.iadd, 1) := by decide +kernel
theorem d_A_mapChunk_59 : decode (xMc m_A_mapChunk) 59 = .ok (.istore_n 2, 1) := by decide +kernel
theorem d_A_mapChunk_60 : decode (xMc m_A_mapChunk) 60 = .ok (.iinc 3 1, 3) := by decide +kernel
theorem d_A_mapChunk_63 : decode (xMc m_A_mapChunk) 63 = .ok (.goto (-59), 3) := by decide +kernel
theorem d_A_mapChunk_66 : decode (xMc m_A_mapChunk) 66 = .ok (.iload_n 2, 1) := by decide +kernel
theorem d_A_mapChunk_67 : decode (xMc m_A_mapChunk) 67 = .ok (.ireturn, 1) := by decide +kernel
theorem d_A_runsOf_0 : decode (xMc m_A_runsOf) 0 = .ok (.iload_n 0, 1) := by decide +kernel
theorem d_A_runsOf_1 : decode (xMc m_A_runsOf) 1 = .ok (.iload_n 1, 1) := by decide +kernel
theorem d_A_runsOf_2 : decode (xMc m_A_runsOf) 2 = .ok (.iadd, 1) := by decide +kernel
theorem d_A_runsOf_3 : decode (xMc m_A_runsOf) 3 = .ok (.iconst 1, 1) := by decide +kernel
theorem d_A_runsOf_4 : decode (xMc m_A_runsOf) 4 = .ok (.isub, 1) := by decide +kernel
theorem d_A_runsOf_5 : decode (xMc m_A_runsOf) 5 = .ok (.iload_n 1, 1) := by decide +kernel
theorem d_A_runsOf_6 : decode (xMc m_A_runsOf) 6 = .ok (.iconst 1, 1) := by decide +kernel
theorem d_A_runsOf_7 : decode (xMc m_A_runsOf) 7 = .ok (.invokestatic 205, 3) := by decide +kernel
theorem d_A_runsOf_10 : decode (xMc m_A_runsOf) 10 = .ok (.idiv, 1) := by decide +kernel
theorem d_A_runsOf_11 : decode (xMc m_A_runsOf) 11 = .ok (.ireturn, 1) := by decide +kernel
theorem d_A_run_0 : decode (xMc m_A_run) 0 = .ok (.iload_n 1, 1) := by decide +kernel
theorem d_A_run_1 : decode (xMc m_A_run) 1 = .ok (.iconst 1, 1) := by decide +kernel
theorem d_A_run_2 : decode (xMc m_A_run) 2 = .ok (.bipush 100, 2) := by decide +kernel
theorem d_A_run_4 : decode (xMc m_A_run) 4 = .ok (.invokestatic 81, 3) := by decide +kernel
theorem d_A_run_7 : decode (xMc m_A_run) 7 = .ok (.aload_n 0, 1) := by decide +kernel
theorem d_A_run_8 : decode (xMc m_A_run) 8 = .ok (.invokevirtual 127, 3) := by decide +kernel
theorem d_A_run_11 : decode (xMc m_A_run) 11 = .ok (.iconst 0, 1) := by decide +kernel
theorem d_A_run_12 : decode (xMc m_A_run) 12 = .ok (.istore_n 2, 1) := by decide +kernel
theorem d_A_run_13 : decode (xMc m_A_run) 13 = .ok (.iload_n 2, 1) := by decide +kernel
theorem d_A_run_14 : decode (xMc m_A_run) 14 = .ok (.iload_n 1, 1) := by decide +kernel
theorem d_A_run_15 : decode (xMc m_A_run) 15 = .ok (.if_icmp .ge 47, 3) := by decide +kernel
theorem d_A_run_18 : decode (xMc m_A_run) 18 = .ok (.aload_n 0, 1) := by decide +kernel
theorem d_A_run_19 : decode (xMc m_A_run) 19 = .ok (.getfield 49, 3) := by decide +kernel
theorem d_A_run_22 : decode (xMc m_A_run) 22 = .ok (.ifCond .eq 40, 3) := by decide +kernel
theorem d_A_run_25 : decode (xMc m_A_run) 25 = .ok (.aload_n 0, 1) := by decide +kernel
theorem d_A_run_26 : decode (xMc m_A_run) 26 = .ok (.invokevirtual 130, 3) := by decide +kernel
theorem d_A_run_29 : decode (xMc m_A_run) 29 = .ok (.istore_n 3, 1) := by decide +kernel
theorem d_A_run_30 : decode (xMc m_A_run) 30 = .ok (.iload_n 3, 1) := by decide +kernel
theorem d_A_run_31 : decode (xMc m_A_run) 31 = .ok (.iconst 1, 1) := by decide +kernel
theorem d_A_run_32 : decode (xMc m_A_run) 32 = .ok (.if_icmp .ne 11, 3) := by decide +kernel
theorem d_A_run_35 : decode (xMc m_A_run) 35 = .ok (.new 85, 3) := by decide +kernel
theorem d_A_run_38 : decode (xMc m_A_run) 38 = .ok (.dup, 1) := by decide +kernel
theorem d_A_run_39 : decode (xMc m_A_run) 39 = .ok (.invokespecial 87, 3) := by decide +kernel
theorem d_A_run_42 : decode (xMc m_A_run) 42 = .ok (.athrow, 1) := by decide +kernel
theorem d_A_run_43 : decode (xMc m_A_run) 43 = .ok (.iload_n 3, 1) := by decide +kernel
theorem d_A_run_44 : decode (xMc m_A_run) 44 = .ok (.iconst 2, 1) := by decide +kernel
theorem d_A_run_45 : decode (xMc m_A_run) 45 = .ok (.if_icmp .ne 11, 3) := by decide +kernel
theorem d_A_run_48 : decode (xMc m_A_run) 48 = .ok (.new 134, 3) := by decide +kernel
theorem d_A_run_51 : decode (xMc m_A_run) 51 = .ok (.dup, 1) := by decide +kernel
theorem d_A_run_52 : decode (xMc m_A_run) 52 = .ok (.invokespecial 136, 3) := by decide +kernel
theorem d_A_run_55 : decode (xMc m_A_run) 55 = .ok (.athrow, 1) := by decide +kernel
theorem d_A_run_56 : decode (xMc m_A_run) 56 = .ok (.iinc 2 1, 3) := by decide +kernel
theorem d_A_run_59 : decode (xMc m_A_run) 59 = .ok (.goto (-46), 3) := by decide +kernel
theorem d_A_run_62 : decode (xMc m_A_run) 62 = .ok (.iload_n 2, 1) := by decide +kernel
theorem d_A_run_63 : decode (xMc m_A_run) 63 = .ok (.ireturn, 1) := by decide +kernel
theorem d_A_demandJob_0 : decode (xMc m_A_demandJob) 0 = .ok (.aload_n 0, 1) := by decide +kernel
theorem d_A_demandJob_1 : decode (xMc m_A_demandJob) 1 = .ok (.getfield 49, 3) := by decide +kernel
theorem d_A_demandJob_4 : decode (xMc m_A_demandJob) 4 = .ok (.ifCond .ne 11, 3) := by decide +kernel
theorem d_A_demandJob_7 : decode (xMc m_A_demandJob) 7 = .ok (.new 85, 3) := by decide +kernel
theorem d_A_demandJob_10 : decode (xMc m_A_demandJob) 10 = .ok (.dup, 1) := by decide +kernel
theorem d_A_demandJob_11 : decode (xMc m_A_demandJob) 11 = .ok (.invokespecial 87, 3) := by decide +kernel
theorem d_A_demandJob_14 : decode (xMc m_A_demandJob) 14 = .ok (.athrow, 1) := by decide +kernel
theorem d_A_demandJob_15 : decode (xMc m_A_demandJob) 15 = .ok (.return_, 1) := by decide +kernel
theorem d_A_passTick_0 : decode (xMc m_A_passTick) 0 = .ok (.aload_n 0, 1) := by decide +kernel
theorem d_A_passTick_1 : decode (xMc m_A_passTick) 1 = .ok (.dup, 1) := by decide +kernel
theorem d_A_passTick_2 : decode (xMc m_A_passTick) 2 = .ok (.getfield 64, 3) := by decide +kernel
theorem d_A_passTick_5 : decode (xMc m_A_passTick) 5 = .ok (.iconst 1, 1) := by decide +kernel
theorem d_A_passTick_6 : decode (xMc m_A_passTick) 6 = .ok (.iadd, 1) := by decide +kernel
theorem d_A_passTick_7 : decode (xMc m_A_passTick) 7 = .ok (.putfield 64, 3) := by decide +kernel
theorem d_A_passTick_10 : decode (xMc m_A_passTick) 10 = .ok (.iconst 0, 1) := by decide +kernel
theorem d_A_passTick_11 : decode (xMc m_A_passTick) 11 = .ok (.istore_n 1, 1) := by decide +kernel
theorem d_A_passTick_12 : decode (xMc m_A_passTick) 12 = .ok (.iconst 0, 1) := by decide +kernel
theorem d_A_passTick_13 : decode (xMc m_A_passTick) 13 = .ok (.istore_n 2, 1) := by decide +kernel
theorem d_A_passTick_14 : decode (xMc m_A_passTick) 14 = .ok (.iload_n 2, 1) := by decide +kernel
theorem d_A_passTick_15 : decode (xMc m_A_passTick) 15 = .ok (.iconst 4, 1) := by decide +kernel
theorem d_A_passTick_16 : decode (xMc m_A_passTick) 16 = .ok (.if_icmp .ge 69, 3) := by decide +kernel
theorem d_A_passTick_19 : decode (xMc m_A_passTick) 19 = .ok (.aload_n 0, 1) := by decide +kernel
theorem d_A_passTick_20 : decode (xMc m_A_passTick) 20 = .ok (.getfield 11, 3) := by decide +kernel
theorem d_A_passTick_23 : decode (xMc m_A_passTick) 23 = .ok (.iload_n 2, 1) := by decide +kernel
theorem d_A_passTick_24 : decode (xMc m_A_passTick) 24 = .ok (.aaload, 1) := by decide +kernel
theorem d_A_passTick_25 : decode (xMc m_A_passTick) 25 = .ok (.getfield 92, 3) := by decide +kernel
theorem d_A_passTick_28 : decode (xMc m_A_passTick) 28 = .ok (.ifCond .ne 6, 3) := by decide +kernel
theorem d_A_passTick_31 : decode (xMc m_A_passTick) 31 = .ok (.goto 48, 3) := by decide +kernel
theorem d_A_passTick_34 : decode (xMc m_A_passTick) 34 = .ok (.aload_n 0, 1) := by decide +kernel
theorem d_A_passTick_35 : decode (xMc m_A_passTick) 35 = .ok (.getfield 11, 3) := by decide +kernel
theorem d_A_passTick_38 : decode (xMc m_A_passTick) 38 = .ok (.iload_n 2, 1) := by decide +kernel
theorem d_A_passTick_39 : decode (xMc m_A_passTick) 39 = .ok (.aaload, 1) := by decide +kernel
theorem d_A_passTick_40 : decode (xMc m_A_passTick) 40 = .ok (.getfield 237, 3) := by decide +kernel
theorem d_A_passTick_43 : decode (xMc m_A_passTick) 43 = .ok (.ifnonnull 8, 3) := by decide +kernel
theorem d_A_passTick_46 : decode (xMc m_A_passTick) 46 = .ok (.aload_n 0, 1) := by decide +kernel
theorem d_A_passTick_47 : decode (xMc m_A_passTick) 47 = .ok (.iload_n 2, 1) := by decide +kernel
theorem d_A_passTick_48 : decode (xMc m_A_passTick) 48 = .ok (.invokevirtual 241, 3) := by decide +kernel
theorem d_A_passTick_51 : decode (xMc m_A_passTick) 51 = .ok (.aload_n 0, 1) := by decide +kernel
theorem d_A_passTick_52 : decode (xMc m_A_passTick) 52 = .ok (.getfield 11, 3) := by decide +kernel
theorem d_A_passTick_55 : decode (xMc m_A_passTick) 55 = .ok (.iload_n 2, 1) := by decide +kernel
theorem d_A_passTick_56 : decode (xMc m_A_passTick) 56 = .ok (.aaload, 1) := by decide +kernel
theorem d_A_passTick_57 : decode (xMc m_A_passTick) 57 = .ok (.invokevirtual 244, 3) := by decide +kernel
theorem d_A_passTick_60 : decode (xMc m_A_passTick) 60 = .ok (.ifCond .eq 19, 3) := by decide +kernel
theorem d_A_passTick_63 : decode (xMc m_A_passTick) 63 = .ok (.iconst 1, 1) := by decide +kernel
theorem d_A_passTick_64 : decode (xMc m_A_passTick) 64 = .ok (.istore_n 1, 1) := by decide +kernel
theorem d_A_passTick_65 : decode (xMc m_A_passTick) 65 = .ok (.aload_n 0, 1) := by decide +kernel
theorem d_A_passTick_66 : decode (xMc m_A_passTick) 66 = .ok (.iload_n 2, 1) := by decide +kernel
theorem d_A_passTick_67 : decode (xMc m_A_passTick) 67 = .ok (.invokevirtual 247, 3) := by decide +kernel
theorem d_A_passTick_70 : decode (xMc m_A_passTick) 70 = .ok (.ifCond .ne 9, 3) := by decide +kernel
theorem d_A_passTick_73 : decode (xMc m_A_passTick) 73 = .ok (.aload_n 0, 1) := by decide +kernel
theorem d_A_passTick_74 : decode (xMc m_A_passTick) 74 = .ok (.invokevirtual 137, 3) := by decide +kernel
theorem d_A_passTick_77 : decode (xMc m_A_passTick) 77 = .ok (.iconst 2, 1) := by decide +kernel
theorem d_A_passTick_78 : decode (xMc m_A_passTick) 78 = .ok (.ireturn, 1) := by decide +kernel
theorem d_A_passTick_79 : decode (xMc m_A_passTick) 79 = .ok (.iinc 2 1, 3) := by decide +kernel
theorem d_A_passTick_82 : decode (xMc m_A_passTick) 82 = .ok (.goto (-68), 3) := by decide +kernel
theorem d_A_passTick_85 : decode (xMc m_A_passTick) 85 = .ok (.aload_n 0, 1) := by decide +kernel
theorem d_A_passTick_86 : decode (xMc m_A_passTick) 86 = .ok (.iconst 1, 1) := by decide +kernel
theorem d_A_passTick_87 : decode (xMc m_A_passTick) 87 = .ok (.invokevirtual 170, 3) := by decide +kernel
theorem d_A_passTick_90 : decode (xMc m_A_passTick) 90 = .ok (.ifCond .eq 17, 3) := by decide +kernel
theorem d_A_passTick_93 : decode (xMc m_A_passTick) 93 = .ok (.aload_n 0, 1) := by decide +kernel
theorem d_A_passTick_94 : decode (xMc m_A_passTick) 94 = .ok (.iconst 0, 1) := by decide +kernel
theorem d_A_passTick_95 : decode (xMc m_A_passTick) 95 = .ok (.invokevirtual 170, 3) := by decide +kernel
theorem d_A_passTick_98 : decode (xMc m_A_passTick) 98 = .ok (.ifCond .eq 9, 3) := by decide +kernel
theorem d_A_passTick_101 : decode (xMc m_A_passTick) 101 = .ok (.aload_n 0, 1) := by decide +kernel
theorem d_A_passTick_102 : decode (xMc m_A_passTick) 102 = .ok (.invokevirtual 251, 3) := by decide +kernel
theorem d_A_passTick_105 : decode (xMc m_A_passTick) 105 = .ok (.iconst 0, 1) := by decide +kernel
theorem d_A_passTick_106 : decode (xMc m_A_passTick) 106 = .ok (.ireturn, 1) := by decide +kernel
theorem d_A_passTick_107 : decode (xMc m_A_passTick) 107 = .ok (.iload_n 1, 1) := by decide +kernel
theorem d_A_passTick_108 : decode (xMc m_A_passTick) 108 = .ok (.ifCond .ne 10, 3) := by decide +kernel
theorem d_A_passTick_111 : decode (xMc m_A_passTick) 111 = .ok (.aload_n 0, 1) := by decide +kernel
theorem d_A_passTick_112 : decode (xMc m_A_passTick) 112 = .ok (.invokevirtual 254, 3) := by decide +kernel
theorem d_A_passTick_115 : decode (xMc m_A_passTick) 115 = .ok (.ifCond .eq 7, 3) := by decide +kernel
theorem d_A_passTick_118 : decode (xMc m_A_passTick) 118 = .ok (.iconst 0, 1) := by decide +kernel
theorem d_A_passTick_119 : decode (xMc m_A_passTick) 119 = .ok (.goto 4, 3) := by decide +kernel
theorem d_A_passTick_122 : decode (xMc m_A_passTick) 122 = .ok (.iconst 1, 1) := by decide +kernel
theorem d_A_passTick_123 : decode (xMc m_A_passTick) 123 = .ok (.ireturn, 1) := by decide +kernel
theorem d_A_giveTask_0 : decode (xMc m_A_giveTask) 0 = .ok (.aload_n 0, 1) := by decide +kernel
theorem d_A_giveTask_1 : decode (xMc m_A_giveTask) 1 = .ok (.iconst 1, 1) := by decide +kernel
theorem d_A_giveTask_2 : decode (xMc m_A_giveTask) 2 = .ok (.invokevirtual 170, 3) := by decide +kernel
theorem d_A_giveTask_5 : decode (xMc m_A_giveTask) 5 = .ok (.ifCond .ne 7, 3) := by decide +kernel
theorem d_A_giveTask_8 : decode (xMc m_A_giveTask) 8 = .ok (.iconst 1, 1) := by decide +kernel
theorem d_A_giveTask_9 : decode (xMc m_A_giveTask) 9 = .ok (.goto 4, 3) := by decide +kernel
theorem d_A_giveTask_12 : decode (xMc m_A_giveTask) 12 = .ok (.iconst 0, 1) := by decide +kernel
theorem d_A_giveTask_13 : decode (xMc m_A_giveTask) 13 = .ok (.istore_n 2, 1) := by decide +kernel
theorem d_A_giveTask_14 : decode (xMc m_A_giveTask) 14 = .ok (.aload_n 0, 1) := by decide +kernel
theorem d_A_giveTask_15 : decode (xMc m_A_giveTask) 15 = .ok (.iload_n 2, 1) := by decide +kernel
theorem d_A_giveTask_16 : decode (xMc m_A_giveTask) 16 = .ok (.iload_n 1, 1) := by decide +kernel
theorem d_A_giveTask_17 : decode (xMc m_A_giveTask) 17 = .ok (.invokevirtual 266, 3) := by decide +kernel
theorem d_A_giveTask_20 : decode (xMc m_A_giveTask) 20 = .ok (.astore_n 3, 1) := by decide +kernel
theorem d_A_giveTask_21 : decode (xMc m_A_giveTask) 21 = .ok (.aload_n 3, 1) := by decide +kernel
theorem d_A_giveTask_22 : decode (xMc m_A_giveTask) 22 = .ok (.ifnonnull 24, 3) := by decide +kernel
theorem d_A_giveTask_25 : decode (xMc m_A_giveTask) 25 = .ok (.aload_n 0, 1) := by decide +kernel
theorem d_A_giveTask_26 : decode (xMc m_A_giveTask) 26 = .ok (.iload_n 2, 1) := by decide +kernel
theorem d_A_giveTask_27 : decode (xMc m_A_giveTask) 27 = .ok (.invokevirtual 270, 3) := by decide +kernel
theorem d_A_giveTask_30 : decode (xMc m_A_giveTask) 30 = .ok (.astore_n 3, 1) := by decide +kernel
theorem d_A_giveTask_31 : decode (xMc m_A_giveTask) 31 = .ok (.aload_n 3, 1) := by decide +kernel
theorem d_A_giveTask_32 : decode (xMc m_A_giveTask) 32 = .ok (.ifnonnull 4, 3) := by decide +kernel
theorem d_A_giveTask_35 : decode (xMc m_A_giveTask) 35 = .ok (.return_, 1) := by decide +kernel
theorem d_A_giveTask_36 : decode (xMc m_A_giveTask) 36 = .ok (.aload_n 0, 1) := by decide +kernel
theorem d_A_giveTask_37 : decode (xMc m_A_giveTask) 37 = .ok (.dup, 1) := by decide +kernel
theorem d_A_giveTask_38 : decode (xMc m_A_giveTask) 38 = .ok (.getfield 70, 3) := by decide +kernel
theorem d_A_giveTask_41 : decode (xMc m_A_giveTask) 41 = .ok (.iconst 1, 1) := by decide +kernel
theorem d_A_giveTask_42 : decode (xMc m_A_giveTask) 42 = .ok (.iadd, 1) := by decide +kernel
theorem d_A_giveTask_43 : decode (xMc m_A_giveTask) 43 = .ok (.putfield 70, 3) := by decide +kernel
theorem d_A_giveTask_46 : decode (xMc m_A_giveTask) 46 = .ok (.aload_n 0, 1) := by decide +kernel
theorem d_A_giveTask_47 : decode (xMc m_A_giveTask) 47 = .ok (.getfield 11, 3) := by decide +kernel
theorem d_A_giveTask_50 : decode (xMc m_A_giveTask) 50 = .ok (.iload_n 1, 1) := by decide +kernel
theorem d_A_giveTask_51 : decode (xMc m_A_giveTask) 51 = .ok (.aaload, 1) := by decide +kernel
theorem d_A_giveTask_52 : decode (xMc m_A_giveTask) 52 = .ok (.aload_n 3, 1) := by decide +kernel
theorem d_A_giveTask_53 : decode (xMc m_A_giveTask) 53 = .ok (.invokevirtual 274, 3) := by decide +kernel
theorem d_A_giveTask_56 : decode (xMc m_A_giveTask) 56 = .ok (.return_, 1) := by decide +kernel
theorem d_A_allDone_0 : decode (xMc m_A_allDone) 0 = .ok (.iload_n 1, 1) := by decide +kernel
theorem d_A_allDone_1 : decode (xMc m_A_allDone) 1 = .ok (.ifCond .eq 10, 3) := by decide +kernel
theorem d_A_allDone_4 : decode (xMc m_A_allDone) 4 = .ok (.aload_n 0, 1) := by decide +kernel
theorem d_A_allDone_5 : decode (xMc m_A_allDone) 5 = .ok (.getfield 23, 3) := by decide +kernel
theorem d_A_allDone_8 : decode (xMc m_A_allDone) 8 = .ok (.goto 7, 3) := by decide +kernel
theorem d_A_allDone_11 : decode (xMc m_A_allDone) 11 = .ok (.aload_n 0, 1) := by decide +kernel
theorem d_A_allDone_12 : decode (xMc m_A_allDone) 12 = .ok (.getfield 27, 3) := by decide +kernel
theorem d_A_allDone_15 : decode (xMc m_A_allDone) 15 = .ok (.astore_n 2, 1) := by decide +kernel
theorem d_A_allDone_16 : decode (xMc m_A_allDone) 16 = .ok (.iconst 0, 1) := by decide +kernel
theorem d_A_allDone_17 : decode (xMc m_A_allDone) 17 = .ok (.istore_n 3, 1) := by decide +kernel
theorem d_A_allDone_18 : decode (xMc m_A_allDone) 18 = .ok (.iload_n 3, 1) := by decide +kernel
theorem d_A_allDone_19 : decode (xMc m_A_allDone) 19 = .ok (.aload_n 0, 1) := by decide +kernel
theorem d_A_allDone_20 : decode (xMc m_A_allDone) 20 = .ok (.iload_n 1, 1) := by decide +kernel
theorem d_A_allDone_21 : decode (xMc m_A_allDone) 21 = .ok (.invokevirtual 162, 3) := by decide +kernel
theorem d_A_allDone_24 : decode (xMc m_A_allDone) 24 = .ok (.if_icmp .ge 20, 3) := by decide +kernel
theorem d_A_allDone_27 : decode (xMc m_A_allDone) 27 = .ok (.aload_n 2, 1) := by decide +kernel
theorem d_A_allDone_28 : decode (xMc m_A_allDone) 28 = .ok (.iload_n 3, 1) := by decide +kernel
theorem d_A_allDone_29 : decode (xMc m_A_allDone) 29 = .ok (.aaload, 1) := by decide +kernel
theorem d_A_allDone_30 : decode (xMc m_A_allDone) 30 = .ok (.invokevirtual 180, 3) := by decide +kernel
theorem d_A_allDone_33 : decode (xMc m_A_allDone) 33 = .ok (.ifCond .ne 5, 3) := by decide +kernel
theorem d_A_allDone_36 : decode (xMc m_A_allDone) 36 = .ok (.iconst 0, 1) := by decide +kernel
theorem d_A_allDone_37 : decode (xMc m_A_allDone) 37 = .ok (.ireturn, 1) := by decide +kernel
theorem d_A_allDone_38 : decode (xMc m_A_allDone) 38 = .ok (.iinc 3 1, 3) := by decide +kernel
theorem d_A_allDone_41 : decode (xMc m_A_allDone) 41 = .ok (.goto (-23), 3) := by decide +kernel
theorem d_A_allDone_44 : decode (xMc m_A_allDone) 44 = .ok (.iconst 1, 1) := by decide +kernel
theorem d_A_allDone_45 : decode (xMc m_A_allDone) 45 = .ok (.ireturn, 1) := by decide +kernel
theorem d_A_taskCount_0 : decode (xMc m_A_taskCount) 0 = .ok (.iload_n 1, 1) := by decide +kernel
theorem d_A_taskCount_1 : decode (xMc m_A_taskCount) 1 = .ok (.ifCond .eq 10, 3) := by decide +kernel
theorem d_A_taskCount_4 : decode (xMc m_A_taskCount) 4 = .ok (.aload_n 0, 1) := by decide +kernel
theorem d_A_taskCount_5 : decode (xMc m_A_taskCount) 5 = .ok (.getfield 53, 3) := by decide +kernel
theorem d_A_taskCount_8 : decode (xMc m_A_taskCount) 8 = .ok (.goto 10, 3) := by decide +kernel
theorem d_A_taskCount_11 : decode (xMc m_A_taskCount) 11 = .ok (.aload_n 0, 1) := by decide +kernel
theorem d_A_taskCount_12 : decode (xMc m_A_taskCount) 12 = .ok (.getfield 42, 3) := by decide +kernel
theorem d_A_taskCount_15 : decode (xMc m_A_taskCount) 15 = .ok (.getfield 140, 3) := by decide +kernel
theorem d_A_taskCount_18 : decode (xMc m_A_taskCount) 18 = .ok (.ireturn, 1) := by decide +kernel
theorem d_A_freshTask_0 : decode (xMc m_A_freshTask) 0 = .ok (.iload_n 1, 1) := by decide +kernel
theorem d_A_freshTask_1 : decode (xMc m_A_freshTask) 1 = .ok (.ifCond .eq 10, 3) := by decide +kernel
theorem d_A_freshTask_4 : decode (xMc m_A_freshTask) 4 = .ok (.aload_n 0, 1) := by decide +kernel
theorem d_A_freshTask_5 : decode (xMc m_A_freshTask) 5 = .ok (.getfield 23, 3) := by decide +kernel
theorem d_A_freshTask_8 : decode (xMc m_A_freshTask) 8 = .ok (.goto 7, 3) := by decide +kernel
theorem d_A_freshTask_11 : decode (xMc m_A_freshTask) 11 = .ok (.aload_n 0, 1) := by decide +kernel
theorem d_A_freshTask_12 : decode (xMc m_A_freshTask) 12 = .ok (.getfield 27, 3) := by decide +kernel
theorem d_A_freshTask_15 : decode (xMc m_A_freshTask) 15 = .ok (.astore_n 3, 1) := by decide +kernel
theorem d_A_freshTask_16 : decode (xMc m_A_freshTask) 16 = .ok (.aconst_null, 1) := by decide +kernel
theorem d_A_freshTask_17 : decode (xMc m_A_freshTask) 17 = .ok (.astore 4, 2) := by decide +kernel
theorem d_A_freshTask_19 : decode (xMc m_A_freshTask) 19 = .ok (.iconst 0, 1) := by decide +kernel
theorem d_A_freshTask_20 : decode (xMc m_A_freshTask) 20 = .ok (.istore 5, 2) := by decide +kernel
theorem d_A_freshTask_22 : decode (xMc m_A_freshTask) 22 = .ok (.iload 5, 2) := by decide +kernel
theorem d_A_freshTask_24 : decode (xMc m_A_freshTask) 24 = .ok (.aload_n 0, 1) := by decide +kernel
theorem d_A_freshTask_25 : decode (xMc m_A_freshTask) 25 = .ok (.iload_n 1, 1) := by decide +kernel
theorem d_A_freshTask_26 : decode (xMc m_A_freshTask) 26 = .ok (.invokevirtual 162, 3) := by decide +kernel
theorem d_A_freshTask_29 : decode (xMc m_A_freshTask) 29 = .ok (.if_icmp .ge 69, 3) := by decide +kernel
theorem d_A_freshTask_32 : decode (xMc m_A_freshTask) 32 = .ok (.aload_n 3, 1) := by decide +kernel
theorem d_A_freshTask_33 : decode (xMc m_A_freshTask) 33 = .ok (.iload 5, 2) := by decide +kernel
theorem d_A_freshTask_35 : decode (xMc m_A_freshTask) 35 = .ok (.aaload, 1) := by decide +kernel
theorem d_A_freshTask_36 : decode (xMc m_A_freshTask) 36 = .ok (.astore 6, 2) := by decide +kernel
theorem d_A_freshTask_38 : decode (xMc m_A_freshTask) 38 = .ok (.aload 6, 2) := by decide +kernel
theorem d_A_freshTask_40 : decode (xMc m_A_freshTask) 40 = .ok (.invokevirtual 180, 3) := by decide +kernel
theorem d_A_freshTask_43 : decode (xMc m_A_freshTask) 43 = .ok (.ifCond .ne 49, 3) := by decide +kernel
theorem d_A_freshTask_46 : decode (xMc m_A_freshTask) 46 = .ok (.aload_n 0, 1) := by decide +kernel
theorem d_A_freshTask_47 : decode (xMc m_A_freshTask) 47 = .ok (.aload 6, 2) := by decide +kernel
theorem d_A_freshTask_49 : decode (xMc m_A_freshTask) 49 = .ok (.invokevirtual 277, 3) := by decide +kernel
theorem d_A_freshTask_52 : decode (xMc m_A_freshTask) 52 = .ok (.ifCond .gt 40, 3) := by decide +kernel
theorem d_A_freshTask_55 : decode (xMc m_A_freshTask) 55 = .ok (.aload_n 0, 1) := by decide +kernel
theorem d_A_freshTask_56 : decode (xMc m_A_freshTask) 56 = .ok (.aload 6, 2) := by decide +kernel
theorem d_A_freshTask_58 : decode (xMc m_A_freshTask) 58 = .ok (.invokevirtual 280, 3) := by decide +kernel
theorem d_A_freshTask_61 : decode (xMc m_A_freshTask) 61 = .ok (.ifCond .ne 6, 3) := by decide +kernel
theorem d_A_freshTask_64 : decode (xMc m_A_freshTask) 64 = .ok (.goto 28, 3) := by decide +kernel
theorem d_A_freshTask_67 : decode (xMc m_A_freshTask) 67 = .ok (.iload_n 1, 1) := by decide +kernel
theorem d_A_freshTask_68 : decode (xMc m_A_freshTask) 68 = .ok (.ifCond .eq 15, 3) := by decide +kernel
theorem d_A_freshTask_71 : decode (xMc m_A_freshTask) 71 = .ok (.iload 5, 2) := by decide +kernel
theorem d_A_freshTask_73 : decode (xMc m_A_freshTask) 73 = .ok (.iload_n 2, 1) := by decide +kernel
theorem d_A_freshTask_74 : decode (xMc m_A_freshTask) 74 = .ok (.invokestatic 284, 3) := by decide +kernel
theorem d_A_freshTask_77 : decode (xMc m_A_freshTask) 77 = .ok (.ifCond .eq 6, 3) := by decide +kernel
theorem d_A_freshTask_80 : decode (xMc m_A_freshTask) 80 = .ok (.aload 6, 2) := by decide +kernel
theorem d_A_freshTask_82 : decode (xMc m_A_freshTask) 82 = .ok (.areturn, 1) := by decide +kernel
theorem d_A_freshTask_83 : decode (xMc m_A_freshTask) 83 = .ok (.aload 4, 2) := by decide +kernel
theorem d_A_freshTask_85 : decode (xMc m_A_freshTask) 85 = .ok (.ifnonnull 7, 3) := by decide +kernel
theorem d_A_freshTask_88 : decode (xMc m_A_freshTask) 88 = .ok (.aload 6, 2) := by decide +kernel
theorem d_A_freshTask_90 : decode (xMc m_A_freshTask) 90 = .ok (.astore 4, 2) := by decide +kernel
theorem d_A_freshTask_92 : decode (xMc m_A_freshTask) 92 = .ok (.iinc 5 1, 3) := by decide +kernel
theorem d_A_freshTask_95 : decode (xMc m_A_freshTask) 95 = .ok (.goto (-73), 3) := by decide +kernel
theorem d_A_freshTask_98 : decode (xMc m_A_freshTask) 98 = .ok (.aload 4, 2) := by decide +kernel
theorem d_A_freshTask_100 : decode (xMc m_A_freshTask) 100 = .ok (.areturn, 1) := by decide +kernel
theorem d_A_doers_0 : decode (xMc m_A_doers) 0 = .ok (.iconst 0, 1) := by decide +kernel
theorem d_A_doers_1 : decode (xMc m_A_doers) 1 = .ok (.istore_n 2, 1) := by decide +kernel
theorem d_A_doers_2 : decode (xMc m_A_doers) 2 = .ok (.iconst 0, 1) := by decide +kernel
theorem d_A_doers_3 : decode (xMc m_A_doers) 3 = .ok (.istore_n 3, 1) := by decide +kernel
theorem d_A_doers_4 : decode (xMc m_A_doers) 4 = .ok (.iload_n 3, 1) := by decide +kernel
theorem d_A_doers_5 : decode (xMc m_A_doers) 5 = .ok (.iconst 4, 1) := by decide +kernel
theorem d_A_doers_6 : decode (xMc m_A_doers) 6 = .ok (.if_icmp .ge 25, 3) := by decide +kernel
theorem d_A_doers_9 : decode (xMc m_A_doers) 9 = .ok (.aload_n 0, 1) := by decide +kernel
theorem d_A_doers_10 : decode (xMc m_A_doers) 10 = .ok (.getfield 11, 3) := by decide +kernel
theorem d_A_doers_13 : decode (xMc m_A_doers) 13 = .ok (.iload_n 3, 1) := by decide +kernel
theorem d_A_doers_14 : decode (xMc m_A_doers) 14 = .ok (.aaload, 1) := by decide +kernel
theorem d_A_doers_15 : decode (xMc m_A_doers) 15 = .ok (.getfield 237, 3) := by decide +kernel
theorem d_A_doers_18 : decode (xMc m_A_doers) 18 = .ok (.aload_n 1, 1) := by decide +kernel
theorem d_A_doers_19 : decode (xMc m_A_doers) 19 = .ok (.if_acmp .ne 6, 3) := by decide +kernel
theorem d_A_doers_22 : decode (xMc m_A_doers) 22 = .ok (.iinc 2 1, 3) := by decide +kernel
theorem d_A_doers_25 : decode (xMc m_A_doers) 25 = .ok (.iinc 3 1, 3) := by decide +kernel
theorem d_A_doers_28 : decode (xMc m_A_doers) 28 = .ok (.goto (-24), 3) := by decide +kernel
theorem d_A_doers_31 : decode (xMc m_A_doers) 31 = .ok (.iload_n 2, 1) := by decide +kernel
theorem d_A_doers_32 : decode (xMc m_A_doers) 32 = .ok (.ireturn, 1) := by decide +kernel
theorem d_A_canBeDone_0 : decode (xMc m_A_canBeDone) 0 = .ok (.aload_n 1, 1) := by decide +kernel
theorem d_A_canBeDone_1 : decode (xMc m_A_canBeDone) 1 = .ok (.getfield 260, 3) := by decide +kernel
theorem d_A_canBeDone_4 : decode (xMc m_A_canBeDone) 4 = .ok (.istore_n 2, 1) := by decide +kernel
theorem d_A_canBeDone_5 : decode (xMc m_A_canBeDone) 5 = .ok (.aload_n 1, 1) := by decide +kernel
theorem d_A_canBeDone_6 : decode (xMc m_A_canBeDone) 6 = .ok (.getfield 257, 3) := by decide +kernel
theorem d_A_canBeDone_9 : decode (xMc m_A_canBeDone) 9 = .ok (.ifCond .eq 33, 3) := by decide +kernel
theorem d_A_canBeDone_12 : decode (xMc m_A_canBeDone) 12 = .ok (.aload_n 0, 1) := by decide +kernel
theorem d_A_canBeDone_13 : decode (xMc m_A_canBeDone) 13 = .ok (.getfield 11, 3) := by decide +kernel
theorem d_A_canBeDone_16 : decode (xMc m_A_canBeDone) 16 = .ok (.iload_n 2, 1) := by decide +kernel
theorem d_A_canBeDone_17 : decode (xMc m_A_canBeDone) 17 = .ok (.iconst 4, 1) := by decide +kernel
theorem d_A_canBeDone_18 : decode (xMc m_A_canBeDone) 18 = .ok (.irem, 1) := by decide +kernel
theorem d_A_canBeDone_19 : decode (xMc m_A_canBeDone) 19 = .ok (.aaload, 1) := by decide +kernel
theorem d_A_canBeDone_20 : decode (xMc m_A_canBeDone) 20 = .ok (.getfield 92, 3) := by decide +kernel
theorem d_A_canBeDone_23 : decode (xMc m_A_canBeDone) 23 = .ok (.ifCond .ne 19, 3) := by decide +kernel
theorem d_A_canBeDone_26 : decode (xMc m_A_canBeDone) 26 = .ok (.aload_n 0, 1) := by decide +kernel
theorem d_A_canBeDone_27 : decode (xMc m_A_canBeDone) 27 = .ok (.getfield 11, 3) := by decide +kernel
theorem d_A_canBeDone_30 : decode (xMc m_A_canBeDone) 30 = .ok (.iload_n 2, 1) := by decide +kernel
theorem d_A_canBeDone_31 : decode (xMc m_A_canBeDone) 31 = .ok (.iconst 1, 1) := by decide +kernel
theorem d_A_canBeDone_32 : decode (xMc m_A_canBeDone) 32 = .ok (.iadd, 1) := by decide +kernel
theorem d_A_canBeDone_33 : decode (xMc m_A_canBeDone) 33 = .ok (.iconst 4, 1) := by decide +kernel
theorem d_A_canBeDone_34 : decode (xMc m_A_canBeDone) 34 = .ok (.irem, 1) := by decide +kernel
theorem d_A_canBeDone_35 : decode (xMc m_A_canBeDone) 35 = .ok (.aaload, 1) := by decide +kernel
theorem d_A_canBeDone_36 : decode (xMc m_A_canBeDone) 36 = .ok (.getfield 92, 3) := by decide +kernel
theorem d_A_canBeDone_39 : decode (xMc m_A_canBeDone) 39 = .ok (.ifCond .eq 7, 3) := by decide +kernel
theorem d_A_canBeDone_42 : decode (xMc m_A_canBeDone) 42 = .ok (.iconst 1, 1) := by decide +kernel
theorem d_A_canBeDone_43 : decode (xMc m_A_canBeDone) 43 = .ok (.goto 4, 3) := by decide +kernel
theorem d_A_canBeDone_46 : decode (xMc m_A_canBeDone) 46 = .ok (.iconst 0, 1) := by decide +kernel
theorem d_A_canBeDone_47 : decode (xMc m_A_canBeDone) 47 = .ok (.ireturn, 1) := by decide +kernel
theorem d_A_isHome_0 : decode (xMc m_A_isHome) 0 = .ok (.iload_n 1, 1) := by decide +kernel
theorem d_A_isHome_1 : decode (xMc m_A_isHome) 1 = .ok (.iload_n 0, 1) := by decide +kernel
theorem d_A_isHome_2 : decode (xMc m_A_isHome) 2 = .ok (.iconst 4, 1) := by decide +kernel
theorem d_A_isHome_3 : decode (xMc m_A_isHome) 3 = .ok (.irem, 1) := by decide +kernel
theorem d_A_isHome_4 : decode (xMc m_A_isHome) 4 = .ok (.if_icmp .eq 12, 3) := by decide +kernel
theorem d_A_isHome_7 : decode (xMc m_A_isHome) 7 = .ok (.iload_n 1, 1) := by decide +kernel
theorem d_A_isHome_8 : decode (xMc m_A_isHome) 8 = .ok (.iload_n 0, 1) := by decide +kernel
theorem d_A_isHome_9 : decode (xMc m_A_isHome) 9 = .ok (.iconst 1, 1) := by decide +kernel
theorem d_A_isHome_10 : decode (xMc m_A_isHome) 10 = .ok (.iadd, 1) := by decide +kernel
theorem d_A_isHome_11 : decode (xMc m_A_isHome) 11 = .ok (.iconst 4, 1) := by decide +kernel
theorem d_A_isHome_12 : decode (xMc m_A_isHome) 12 = .ok (.irem, 1) := by decide +kernel
theorem d_A_isHome_13 : decode (xMc m_A_isHome) 13 = .ok (.if_icmp .ne 7, 3) := by decide +kernel
theorem d_A_isHome_16 : decode (xMc m_A_isHome) 16 = .ok (.iconst 1, 1) := by decide +kernel
theorem d_A_isHome_17 : decode (xMc m_A_isHome) 17 = .ok (.goto 4, 3) := by decide +kernel
theorem d_A_isHome_20 : decode (xMc m_A_isHome) 20 = .ok (.iconst 0, 1) := by decide +kernel
theorem d_A_isHome_21 : decode (xMc m_A_isHome) 21 = .ok (.ireturn, 1) := by decide +kernel
theorem d_A_taskForSecondTime_0 : decode (xMc m_A_taskForSecondTime) 0 = .ok (.iload_n 1, 1) := by decide +kernel
theorem d_A_taskForSecondTime_1 : decode (xMc m_A_taskForSecondTime) 1 = .ok (.ifCond .eq 10, 3) := by decide +kernel
theorem d_A_taskForSecondTime_4 : decode (xMc m_A_taskForSecondTime) 4 = .ok (.aload_n 0, 1) := by decide +kernel
theorem d_A_taskForSecondTime_5 : decode (xMc m_A_taskForSecondTime) 5 = .ok (.getfield 23, 3) := by decide +kernel
theorem d_A_taskForSecondTime_8 : decode (xMc m_A_taskForSecondTime) 8 = .ok (.goto 7, 3) := by decide +kernel
theorem d_A_taskForSecondTime_11 : decode (xMc m_A_taskForSecondTime) 11 = .ok (.aload_n 0, 1) := by decide +kernel
theorem d_A_taskForSecondTime_12 : decode (xMc m_A_taskForSecondTime) 12 = .ok (.getfield 27, 3) := by decide +kernel
theorem d_A_taskForSecondTime_15 : decode (xMc m_A_taskForSecondTime) 15 = .ok (.astore_n 2, 1) := by decide +kernel
theorem d_A_taskForSecondTime_16 : decode (xMc m_A_taskForSecondTime) 16 = .ok (.aconst_null, 1) := by decide +kernel
theorem d_A_taskForSecondTime_17 : decode (xMc m_A_taskForSecondTime) 17 = .ok (.astore_n 3, 1) := by decide +kernel
theorem d_A_taskForSecondTime_18 : decode (xMc m_A_taskForSecondTime) 18 = .ok (.iconst 0, 1) := by decide +kernel
theorem d_A_taskForSecondTime_19 : decode (xMc m_A_taskForSecondTime) 19 = .ok (.istore 4, 2) := by decide +kernel
theorem d_A_taskForSecondTime_21 : decode (xMc m_A_taskForSecondTime) 21 = .ok (.iconst 0, 1) := by decide +kernel
theorem d_A_taskForSecondTime_22 : decode (xMc m_A_taskForSecondTime) 22 = .ok (.istore 5, 2) := by decide +kernel
theorem d_A_taskForSecondTime_24 : decode (xMc m_A_taskForSecondTime) 24 = .ok (.iload 5, 2) := by decide +kernel
theorem d_A_taskForSecondTime_26 : decode (xMc m_A_taskForSecondTime) 26 = .ok (.aload_n 0, 1) := by decide +kernel
theorem d_A_taskForSecondTime_27 : decode (xMc m_A_taskForSecondTime) 27 = .ok (.iload_n 1, 1) := by decide +kernel
theorem d_A_taskForSecondTime_28 : decode (xMc m_A_taskForSecondTime) 28 = .ok (.invokevirtual 162, 3) := by decide +kernel
theorem d_A_taskForSecondTime_31 : decode (xMc m_A_taskForSecondTime) 31 = .ok (.if_icmp .ge 81, 3) := by decide +kernel
theorem d_A_taskForSecondTime_34 : decode (xMc m_A_taskForSecondTime) 34 = .ok (.aload_n 2, 1) := by decide +kernel
theorem d_A_taskForSecondTime_35 : decode (xMc m_A_taskForSecondTime) 35 = .ok (.iload 5, 2) := by decide +kernel
theorem d_A_taskForSecondTime_37 : decode (xMc m_A_taskForSecondTime) 37 = .ok (.aaload, 1) := by decide +kernel
theorem d_A_taskForSecondTime_38 : decode (xMc m_A_taskForSecondTime) 38 = .ok (.astore 6, 2) := by decide +kernel
theorem d_A_taskForSecondTime_40 : decode (xMc m_A_taskForSecondTime) 40 = .ok (.aload_n 0, 1) := by decide +kernel
theorem d_A_taskForSecondTime_41 : decode (xMc m_A_taskForSecondTime) 41 = .ok (.aload 6, 2) := by decide +kernel
theorem d_A_taskForSecondTime_43 : decode (xMc m_A_taskForSecondTime) 43 = .ok (.invokevirtual 187, 3) := by decide +kernel
theorem d_A_taskForSecondTime_46 : decode (xMc m_A_taskForSecondTime) 46 = .ok (.istore 7, 2) := by decide +kernel
theorem d_A_taskForSecondTime_48 : decode (xMc m_A_taskForSecondTime) 48 = .ok (.iload 7, 2) := by decide +kernel
theorem d_A_taskForSecondTime_50 : decode (xMc m_A_taskForSecondTime) 50 = .ok (.iconst (-1), 1) := by decide +kernel
theorem d_A_taskForSecondTime_51 : decode (xMc m_A_taskForSecondTime) 51 = .ok (.if_icmp .eq 55, 3) := by decide +kernel
theorem d_A_taskForSecondTime_54 : decode (xMc m_A_taskForSecondTime) 54 = .ok (.aload_n 0, 1) := by decide +kernel
theorem d_A_taskForSecondTime_55 : decode (xMc m_A_taskForSecondTime) 55 = .ok (.aload 6, 2) := by decide +kernel
theorem d_A_taskForSecondTime_57 : decode (xMc m_A_taskForSecondTime) 57 = .ok (.invokevirtual 277, 3) := by decide +kernel
theorem d_A_taskForSecondTime_60 : decode (xMc m_A_taskForSecondTime) 60 = .ok (.iconst 1, 1) := by decide +kernel
theorem d_A_taskForSecondTime_61 : decode (xMc m_A_taskForSecondTime) 61 = .ok (.if_icmp .gt 45, 3) := by decide +kernel
theorem d_A_taskForSecondTime_64 : decode (xMc m_A_taskForSecondTime) 64 = .ok (.aload_n 0, 1) := by decide +kernel
theorem d_A_taskForSecondTime_65 : decode (xMc m_A_taskForSecondTime) 65 = .ok (.aload 6, 2) := by decide +kernel
theorem d_A_taskForSecondTime_67 : decode (xMc m_A_taskForSecondTime) 67 = .ok (.invokevirtual 280, 3) := by decide +kernel
theorem d_A_taskForSecondTime_70 : decode (xMc m_A_taskForSecondTime) 70 = .ok (.ifCond .ne 6, 3) := by decide +kernel
theorem d_A_taskForSecondTime_73 : decode (xMc m_A_taskForSecondTime) 73 = .ok (.goto 33, 3) := by decide +kernel
theorem d_A_taskForSecondTime_76 : decode (xMc m_A_taskForSecondTime) 76 = .ok (.aload_n 0, 1) := by decide +kernel
theorem d_A_taskForSecondTime_77 : decode (xMc m_A_taskForSecondTime) 77 = .ok (.getfield 11, 3) := by decide +kernel
theorem d_A_taskForSecondTime_80 : decode (xMc m_A_taskForSecondTime) 80 = .ok (.iload 7, 2) := by decide +kernel
theorem d_A_taskForSecondTime_82 : decode (xMc m_A_taskForSecondTime) 82 = .ok (.aaload, 1) := by decide +kernel
theorem d_A_taskForSecondTime_83 : decode (xMc m_A_taskForSecondTime) 83 = .ok (.getfield 193, 3) := by decide +kernel
theorem d_A_taskForSecondTime_86 : decode (xMc m_A_taskForSecondTime) 86 = .ok (.iload 4, 2) := by decide +kernel
theorem d_A_taskForSecondTime_88 : decode (xMc m_A_taskForSecondTime) 88 = .ok (.if_icmp .le 18, 3) := by decide +kernel
theorem d_A_taskForSecondTime_91 : decode (xMc m_A_taskForSecondTime) 91 = .ok (.aload 6, 2) := by decide +kernel
theorem d_A_taskForSecondTime_93 : decode (xMc m_A_taskForSecondTime) 93 = .ok (.astore_n 3, 1) := by decide +kernel
theorem d_A_taskForSecondTime_94 : decode (xMc m_A_taskForSecondTime) 94 = .ok (.aload_n 0, 1) := by decide +kernel
theorem d_A_taskForSecondTime_95 : decode (xMc m_A_taskForSecondTime) 95 = .ok (.getfield 11, 3) := by decide +kernel
theorem d_A_taskForSecondTime_98 : decode (xMc m_A_taskForSecondTime) 98 = .ok (.iload 7, 2) := by decide +kernel
theorem d_A_taskForSecondTime_100 : decode (xMc m_A_taskForSecondTime) 100 = .ok (.aaload, 1) := by decide +kernel
theorem d_A_taskForSecondTime_101 : decode (xMc m_A_taskForSecondTime) 101 = .ok (.getfield 193, 3) := by decide +kernel
theorem d_A_taskForSecondTime_104 : decode (xMc m_A_taskForSecondTime) 104 = .ok (.istore 4, 2) := by decide +kernel
theorem d_A_taskForSecondTime_106 : decode (xMc m_A_taskForSecondTime) 106 = .ok (.iinc 5 1, 3) := by decide +kernel
theorem d_A_taskForSecondTime_109 : decode (xMc m_A_taskForSecondTime) 109 = .ok (.goto (-85), 3) := by decide +kernel
theorem d_A_taskForSecondTime_112 : decode (xMc m_A_taskForSecondTime) 112 = .ok (.aload_n 3, 1) := by decide +kernel
theorem d_A_taskForSecondTime_113 : decode (xMc m_A_taskForSecondTime) 113 = .ok (.areturn, 1) := by decide +kernel
theorem d_A_leastDoer_0 : decode (xMc m_A_leastDoer) 0 = .ok (.iconst 0, 1) := by decide +kernel
theorem d_A_leastDoer_1 : decode (xMc m_A_leastDoer) 1 = .ok (.istore_n 2, 1) := by decide +kernel
theorem d_A_leastDoer_2 : decode (xMc m_A_leastDoer) 2 = .ok (.iload_n 2, 1) := by decide +kernel
theorem d_A_leastDoer_3 : decode (xMc m_A_leastDoer) 3 = .ok (.iconst 4, 1) := by decide +kernel
theorem d_A_leastDoer_4 : decode (xMc m_A_leastDoer) 4 = .ok (.if_icmp .ge 24, 3) := by decide +kernel
theorem d_A_leastDoer_7 : decode (xMc m_A_leastDoer) 7 = .ok (.aload_n 0, 1) := by decide +kernel
theorem d_A_leastDoer_8 : decode (xMc m_A_leastDoer) 8 = .ok (.getfield 11, 3) := by decide +kernel
theorem d_A_leastDoer_11 : decode (xMc m_A_leastDoer) 11 = .ok (.iload_n 2, 1) := by decide +kernel
theorem d_A_leastDoer_12 : decode (xMc m_A_leastDoer) 12 = .ok (.aaload, 1) := by decide +kernel
theorem d_A_leastDoer_13 : decode (xMc m_A_leastDoer) 13 = .ok (.getfield 237, 3) := by decide +kernel
theorem d_A_leastDoer_16 : decode (xMc m_A_leastDoer) 16 = .ok (.aload_n 1, 1) := by decide +kernel
theorem d_A_leastDoer_17 : decode (xMc m_A_leastDoer) 17 = .ok (.if_acmp .ne 5, 3) := by decide +kernel
theorem d_A_leastDoer_20 : decode (xMc m_A_leastDoer) 20 = .ok (.iload_n 2, 1) := by decide +kernel
theorem d_A_leastDoer_21 : decode (xMc m_A_leastDoer) 21 = .ok (.ireturn, 1) := by decide +kernel
theorem d_A_leastDoer_22 : decode (xMc m_A_leastDoer) 22 = .ok (.iinc 2 1, 3) := by decide +kernel
theorem d_A_leastDoer_25 : decode (xMc m_A_leastDoer) 25 = .ok (.goto (-23), 3) := by decide +kernel
theorem d_A_leastDoer_28 : decode (xMc m_A_leastDoer) 28 = .ok (.iconst (-1), 1) := by decide +kernel
theorem d_A_leastDoer_29 : decode (xMc m_A_leastDoer) 29 = .ok (.ireturn, 1) := by decide +kernel
theorem d_A_completeTask_0 : decode (xMc m_A_completeTask) 0 = .ok (.aload_n 0, 1) := by decide +kernel
theorem d_A_completeTask_1 : decode (xMc m_A_completeTask) 1 = .ok (.getfield 11, 3) := by decide +kernel
theorem d_A_completeTask_4 : decode (xMc m_A_completeTask) 4 = .ok (.iload_n 1, 1) := by decide +kernel
theorem d_A_completeTask_5 : decode (xMc m_A_completeTask) 5 = .ok (.aaload, 1) := by decide +kernel
theorem d_A_completeTask_6 : decode (xMc m_A_completeTask) 6 = .ok (.getfield 237, 3) := by decide +kernel
theorem d_A_completeTask_9 : decode (xMc m_A_completeTask) 9 = .ok (.astore_n 2, 1) := by decide +kernel
theorem d_A_completeTask_10 : decode (xMc m_A_completeTask) 10 = .ok (.aload_n 2, 1) := by decide +kernel
theorem d_A_completeTask_11 : decode (xMc m_A_completeTask) 11 = .ok (.ifnonnull 5, 3) := by decide +kernel
theorem d_A_completeTask_14 : decode (xMc m_A_completeTask) 14 = .ok (.iconst 1, 1) := by decide +kernel
theorem d_A_completeTask_15 : decode (xMc m_A_completeTask) 15 = .ok (.ireturn, 1) := by decide +kernel
theorem d_A_completeTask_16 : decode (xMc m_A_completeTask) 16 = .ok (.aload_n 2, 1) := by decide +kernel
theorem d_A_completeTask_17 : decode (xMc m_A_completeTask) 17 = .ok (.iload_n 1, 1) := by decide +kernel
theorem d_A_completeTask_18 : decode (xMc m_A_completeTask) 18 = .ok (.putfield 184, 3) := by decide +kernel
theorem d_A_completeTask_21 : decode (xMc m_A_completeTask) 21 = .ok (.iconst 0, 1) := by decide +kernel
theorem d_A_completeTask_22 : decode (xMc m_A_completeTask) 22 = .ok (.istore_n 3, 1) := by decide +kernel
theorem d_A_completeTask_23 : decode (xMc m_A_completeTask) 23 = .ok (.iload_n 3, 1) := by decide +kernel
theorem d_A_completeTask_24 : decode (xMc m_A_completeTask) 24 = .ok (.iconst 4, 1) := by decide +kernel
theorem d_A_completeTask_25 : decode (xMc m_A_completeTask) 25 = .ok (.if_icmp .ge 31, 3) := by decide +kernel
theorem d_A_completeTask_28 : decode (xMc m_A_completeTask) 28 = .ok (.aload_n 0, 1) := by decide +kernel
theorem d_A_completeTask_29 : decode (xMc m_A_completeTask) 29 = .ok (.getfield 11, 3) := by decide +kernel
theorem d_A_completeTask_32 : decode (xMc m_A_completeTask) 32 = .ok (.iload_n 3, 1) := by decide +kernel
theorem d_A_completeTask_33 : decode (xMc m_A_completeTask) 33 = .ok (.aaload, 1) := by decide +kernel
theorem d_A_completeTask_34 : decode (xMc m_A_completeTask) 34 = .ok (.getfield 237, 3) := by decide +kernel
theorem d_A_completeTask_37 : decode (xMc m_A_completeTask) 37 = .ok (.aload_n 2, 1) := by decide +kernel
theorem d_A_completeTask_38 : decode (xMc m_A_completeTask) 38 = .ok (.if_acmp .ne 12, 3) := by decide +kernel
theorem d_A_completeTask_41 : decode (xMc m_A_completeTask) 41 = .ok (.aload_n 0, 1) := by decide +kernel
theorem d_A_completeTask_42 : decode (xMc m_A_completeTask) 42 = .ok (.getfield 11, 3) := by decide +kernel
theorem d_A_completeTask_45 : decode (xMc m_A_completeTask) 45 = .ok (.iload_n 3, 1) := by decide +kernel
theorem d_A_completeTask_46 : decode (xMc m_A_completeTask) 46 = .ok (.aaload, 1) := by decide +kernel
theorem d_A_completeTask_47 : decode (xMc m_A_completeTask) 47 = .ok (.invokevirtual 95, 3) := by decide +kernel
theorem d_A_completeTask_50 : decode (xMc m_A_completeTask) 50 = .ok (.iinc 3 1, 3) := by decide +kernel
theorem d_A_completeTask_53 : decode (xMc m_A_completeTask) 53 = .ok (.goto (-30), 3) := by decide +kernel
theorem d_A_completeTask_56 : decode (xMc m_A_completeTask) 56 = .ok (.aload_n 2, 1) := by decide +kernel
theorem d_A_completeTask_57 : decode (xMc m_A_completeTask) 57 = .ok (.getfield 257, 3) := by decide +kernel
theorem d_A_completeTask_60 : decode (xMc m_A_completeTask) 60 = .ok (.ifCond .ne 17, 3) := by decide +kernel
theorem d_A_completeTask_63 : decode (xMc m_A_completeTask) 63 = .ok (.aload_n 0, 1) := by decide +kernel
theorem d_A_completeTask_64 : decode (xMc m_A_completeTask) 64 = .ok (.getfield 42, 3) := by decide +kernel
theorem d_A_completeTask_67 : decode (xMc m_A_completeTask) 67 = .ok (.aload_n 2, 1) := by decide +kernel
theorem d_A_completeTask_68 : decode (xMc m_A_completeTask) 68 = .ok (.getfield 260, 3) := by decide +kernel
theorem d_A_completeTask_71 : decode (xMc m_A_completeTask) 71 = .ok (.invokevirtual 263, 3) := by decide +kernel
theorem d_A_completeTask_74 : decode (xMc m_A_completeTask) 74 = .ok (.ifCond .eq 7, 3) := by decide +kernel
theorem d_A_completeTask_77 : decode (xMc m_A_completeTask) 77 = .ok (.iconst 1, 1) := by decide +kernel
theorem d_A_completeTask_78 : decode (xMc m_A_completeTask) 78 = .ok (.goto 4, 3) := by decide +kernel
theorem d_A_completeTask_81 : decode (xMc m_A_completeTask) 81 = .ok (.iconst 0, 1) := by decide +kernel
theorem d_A_completeTask_82 : decode (xMc m_A_completeTask) 82 = .ok (.ireturn, 1) := by decide +kernel
theorem d_A_giveUpJob_0 : decode (xMc m_A_giveUpJob) 0 = .ok (.aload_n 0, 1) := by decide +kernel
theorem d_A_giveUpJob_1 : decode (xMc m_A_giveUpJob) 1 = .ok (.iconst 0, 1) := by decide +kernel
theorem d_A_giveUpJob_2 : decode (xMc m_A_giveUpJob) 2 = .ok (.putfield 49, 3) := by decide +kernel
theorem d_A_giveUpJob_5 : decode (xMc m_A_giveUpJob) 5 = .ok (.iconst 0, 1) := by decide +kernel
theorem d_A_giveUpJob_6 : decode (xMc m_A_giveUpJob) 6 = .ok (.istore_n 1, 1) := by decide +kernel
theorem d_A_giveUpJob_7 : decode (xMc m_A_giveUpJob) 7 = .ok (.iload_n 1, 1) := by decide +kernel
theorem d_A_giveUpJob_8 : decode (xMc m_A_giveUpJob) 8 = .ok (.iconst 4, 1) := by decide +kernel
theorem d_A_giveUpJob_9 : decode (xMc m_A_giveUpJob) 9 = .ok (.if_icmp .ge 18, 3) := by decide +kernel
theorem d_A_giveUpJob_12 : decode (xMc m_A_giveUpJob) 12 = .ok (.aload_n 0, 1) := by decide +kernel
theorem d_A_giveUpJob_13 : decode (xMc m_A_giveUpJob) 13 = .ok (.getfield 11, 3) := by decide +kernel
theorem d_A_giveUpJob_16 : decode (xMc m_A_giveUpJob) 16 = .ok (.iload_n 1, 1) := by decide +kernel
theorem d_A_giveUpJob_17 : decode (xMc m_A_giveUpJob) 17 = .ok (.aaload, 1) := by decide +kernel
theorem d_A_giveUpJob_18 : decode (xMc m_A_giveUpJob) 18 = .ok (.invokevirtual 95, 3) := by decide +kernel
theorem d_A_giveUpJob_21 : decode (xMc m_A_giveUpJob) 21 = .ok (.iinc 1 1, 3) := by decide +kernel
theorem d_A_giveUpJob_24 : decode (xMc m_A_giveUpJob) 24 = .ok (.goto (-17), 3) := by decide +kernel
theorem d_A_giveUpJob_27 : decode (xMc m_A_giveUpJob) 27 = .ok (.return_, 1) := by decide +kernel
theorem d_A_endJob_0 : decode (xMc m_A_endJob) 0 = .ok (.aload_n 0, 1) := by decide +kernel
theorem d_A_endJob_1 : decode (xMc m_A_endJob) 1 = .ok (.getfield 42, 3) := by decide +kernel
theorem d_A_endJob_4 : decode (xMc m_A_endJob) 4 = .ok (.astore_n 1, 1) := by decide +kernel
theorem d_A_endJob_5 : decode (xMc m_A_endJob) 5 = .ok (.aload_n 0, 1) := by decide +kernel
theorem d_A_endJob_6 : decode (xMc m_A_endJob) 6 = .ok (.aload_n 0, 1) := by decide +kernel
theorem d_A_endJob_7 : decode (xMc m_A_endJob) 7 = .ok (.getfield 46, 3) := by decide +kernel
theorem d_A_endJob_10 : decode (xMc m_A_endJob) 10 = .ok (.putfield 42, 3) := by decide +kernel
theorem d_A_endJob_13 : decode (xMc m_A_endJob) 13 = .ok (.aload_n 0, 1) := by decide +kernel
theorem d_A_endJob_14 : decode (xMc m_A_endJob) 14 = .ok (.aload_n 1, 1) := by decide +kernel
theorem d_A_endJob_15 : decode (xMc m_A_endJob) 15 = .ok (.putfield 46, 3) := by decide +kernel
theorem d_A_endJob_18 : decode (xMc m_A_endJob) 18 = .ok (.aload_n 0, 1) := by decide +kernel
theorem d_A_endJob_19 : decode (xMc m_A_endJob) 19 = .ok (.iconst 0, 1) := by decide +kernel
theorem d_A_endJob_20 : decode (xMc m_A_endJob) 20 = .ok (.putfield 49, 3) := by decide +kernel
theorem d_A_endJob_23 : decode (xMc m_A_endJob) 23 = .ok (.aload_n 0, 1) := by decide +kernel
theorem d_A_endJob_24 : decode (xMc m_A_endJob) 24 = .ok (.dup, 1) := by decide +kernel
theorem d_A_endJob_25 : decode (xMc m_A_endJob) 25 = .ok (.getfield 67, 3) := by decide +kernel
theorem d_A_endJob_28 : decode (xMc m_A_endJob) 28 = .ok (.iconst 1, 1) := by decide +kernel
theorem d_A_endJob_29 : decode (xMc m_A_endJob) 29 = .ok (.iadd, 1) := by decide +kernel
theorem d_A_endJob_30 : decode (xMc m_A_endJob) 30 = .ok (.putfield 67, 3) := by decide +kernel
theorem d_A_endJob_33 : decode (xMc m_A_endJob) 33 = .ok (.return_, 1) := by decide +kernel
theorem d_A_anyoneWorks_0 : decode (xMc m_A_anyoneWorks) 0 = .ok (.iconst 0, 1) := by decide +kernel
theorem d_A_anyoneWorks_1 : decode (xMc m_A_anyoneWorks) 1 = .ok (.istore_n 1, 1) := by decide +kernel
theorem d_A_anyoneWorks_2 : decode (xMc m_A_anyoneWorks) 2 = .ok (.iload_n 1, 1) := by decide +kernel
theorem d_A_anyoneWorks_3 : decode (xMc m_A_anyoneWorks) 3 = .ok (.iconst 4, 1) := by decide +kernel
theorem d_A_anyoneWorks_4 : decode (xMc m_A_anyoneWorks) 4 = .ok (.if_icmp .ge 23, 3) := by decide +kernel
theorem d_A_anyoneWorks_7 : decode (xMc m_A_anyoneWorks) 7 = .ok (.aload_n 0, 1) := by decide +kernel
theorem d_A_anyoneWorks_8 : decode (xMc m_A_anyoneWorks) 8 = .ok (.getfield 11, 3) := by decide +kernel
theorem d_A_anyoneWorks_11 : decode (xMc m_A_anyoneWorks) 11 = .ok (.iload_n 1, 1) := by decide +kernel
theorem d_A_anyoneWorks_12 : decode (xMc m_A_anyoneWorks) 12 = .ok (.aaload, 1) := by decide +kernel
theorem d_A_anyoneWorks_13 : decode (xMc m_A_anyoneWorks) 13 = .ok (.getfield 237, 3) := by decide +kernel
theorem d_A_anyoneWorks_16 : decode (xMc m_A_anyoneWorks) 16 = .ok (.ifnull 5, 3) := by decide +kernel
theorem d_A_anyoneWorks_19 : decode (xMc m_A_anyoneWorks) 19 = .ok (.iconst 1, 1) := by decide +kernel
theorem d_A_anyoneWorks_20 : decode (xMc m_A_anyoneWorks) 20 = .ok (.ireturn, 1) := by decide +kernel
theorem d_A_anyoneWorks_21 : decode (xMc m_A_anyoneWorks) 21 = .ok (.iinc 1 1, 3) := by decide +kernel
theorem d_A_anyoneWorks_24 : decode (xMc m_A_anyoneWorks) 24 = .ok (.goto (-22), 3) := by decide +kernel
theorem d_A_anyoneWorks_27 : decode (xMc m_A_anyoneWorks) 27 = .ok (.iconst 0, 1) := by decide +kernel
theorem d_A_anyoneWorks_28 : decode (xMc m_A_anyoneWorks) 28 = .ok (.ireturn, 1) := by decide +kernel
theorem d_A_stop_0 : decode (xMc m_A_stop) 0 = .ok (.aload_n 0, 1) := by decide +kernel
theorem d_A_stop_1 : decode (xMc m_A_stop) 1 = .ok (.invokevirtual 127, 3) := by decide +kernel
theorem d_A_stop_4 : decode (xMc m_A_stop) 4 = .ok (.aload_n 0, 1) := by decide +kernel
theorem d_A_stop_5 : decode (xMc m_A_stop) 5 = .ok (.invokevirtual 137, 3) := by decide +kernel
theorem d_A_stop_8 : decode (xMc m_A_stop) 8 = .ok (.return_, 1) := by decide +kernel
theorem d_A_output_0 : decode (xMc m_A_output) 0 = .ok (.iload_n 1, 1) := by decide +kernel
theorem d_A_output_1 : decode (xMc m_A_output) 1 = .ok (.iconst 0, 1) := by decide +kernel
theorem d_A_output_2 : decode (xMc m_A_output) 2 = .ok (.iconst 2, 1) := by decide +kernel
theorem d_A_output_3 : decode (xMc m_A_output) 3 = .ok (.invokestatic 81, 3) := by decide +kernel
theorem d_A_output_6 : decode (xMc m_A_output) 6 = .ok (.iload_n 3, 1) := by decide +kernel
theorem d_A_output_7 : decode (xMc m_A_output) 7 = .ok (.iconst 0, 1) := by decide +kernel
theorem d_A_output_8 : decode (xMc m_A_output) 8 = .ok (.iconst 1, 1) := by decide +kernel
theorem d_A_output_9 : decode (xMc m_A_output) 9 = .ok (.invokestatic 81, 3) := by decide +kernel
theorem d_A_output_12 : decode (xMc m_A_output) 12 = .ok (.iload_n 1, 1) := by decide +kernel
theorem d_A_output_13 : decode (xMc m_A_output) 13 = .ok (.aload_n 0, 1) := by decide +kernel
theorem d_A_output_14 : decode (xMc m_A_output) 14 = .ok (.getfield 46, 3) := by decide +kernel
theorem d_A_output_17 : decode (xMc m_A_output) 17 = .ok (.getfield 140, 3) := by decide +kernel
theorem d_A_output_20 : decode (xMc m_A_output) 20 = .ok (.if_icmp .lt 11, 3) := by decide +kernel
theorem d_A_output_23 : decode (xMc m_A_output) 23 = .ok (.new 143, 3) := by decide +kernel
theorem d_A_output_26 : decode (xMc m_A_output) 26 = .ok (.dup, 1) := by decide +kernel
theorem d_A_output_27 : decode (xMc m_A_output) 27 = .ok (.invokespecial 145, 3) := by decide +kernel
theorem d_A_output_30 : decode (xMc m_A_output) 30 = .ok (.athrow, 1) := by decide +kernel
theorem d_A_output_31 : decode (xMc m_A_output) 31 = .ok (.aload_n 0, 1) := by decide +kernel
theorem d_A_output_32 : decode (xMc m_A_output) 32 = .ok (.getfield 46, 3) := by decide +kernel
theorem d_A_output_35 : decode (xMc m_A_output) 35 = .ok (.getfield 146, 3) := by decide +kernel
theorem d_A_output_38 : decode (xMc m_A_output) 38 = .ok (.iload_n 1, 1) := by decide +kernel
theorem d_A_output_39 : decode (xMc m_A_output) 39 = .ok (.aaload, 1) := by decide +kernel
theorem d_A_output_40 : decode (xMc m_A_output) 40 = .ok (.astore 4, 2) := by decide +kernel
theorem d_A_output_42 : decode (xMc m_A_output) 42 = .ok (.iload_n 2, 1) := by decide +kernel
theorem d_A_output_43 : decode (xMc m_A_output) 43 = .ok (.iconst (-1), 1) := by decide +kernel
theorem d_A_output_44 : decode (xMc m_A_output) 44 = .ok (.if_icmp .ne 9, 3) := by decide +kernel
theorem d_A_output_47 : decode (xMc m_A_output) 47 = .ok (.aload 4, 2) := by decide +kernel
theorem d_A_output_49 : decode (xMc m_A_output) 49 = .ok (.getfield 126, 3) := by decide +kernel
theorem d_A_output_52 : decode (xMc m_A_output) 52 = .ok (.ireturn, 1) := by decide +kernel
theorem d_A_output_53 : decode (xMc m_A_output) 53 = .ok (.iload_n 2, 1) := by decide +kernel
theorem d_A_output_54 : decode (xMc m_A_output) 54 = .ok (.ifCond .lt 12, 3) := by decide +kernel
theorem d_A_output_57 : decode (xMc m_A_output) 57 = .ok (.iload_n 2, 1) := by decide +kernel
theorem d_A_output_58 : decode (xMc m_A_output) 58 = .ok (.aload 4, 2) := by decide +kernel
theorem d_A_output_60 : decode (xMc m_A_output) 60 = .ok (.getfield 126, 3) := by decide +kernel
theorem d_A_output_63 : decode (xMc m_A_output) 63 = .ok (.if_icmp .lt 11, 3) := by decide +kernel
theorem d_A_output_66 : decode (xMc m_A_output) 66 = .ok (.new 143, 3) := by decide +kernel
theorem d_A_output_69 : decode (xMc m_A_output) 69 = .ok (.dup, 1) := by decide +kernel
theorem d_A_output_70 : decode (xMc m_A_output) 70 = .ok (.invokespecial 145, 3) := by decide +kernel
theorem d_A_output_73 : decode (xMc m_A_output) 73 = .ok (.athrow, 1) := by decide +kernel
theorem d_A_output_74 : decode (xMc m_A_output) 74 = .ok (.iload_n 3, 1) := by decide +kernel
theorem d_A_output_75 : decode (xMc m_A_output) 75 = .ok (.ifCond .ne 13, 3) := by decide +kernel
theorem d_A_output_78 : decode (xMc m_A_output) 78 = .ok (.aload 4, 2) := by decide +kernel
theorem d_A_output_80 : decode (xMc m_A_output) 80 = .ok (.getfield 149, 3) := by decide +kernel
theorem d_A_output_83 : decode (xMc m_A_output) 83 = .ok (.iload_n 2, 1) := by decide +kernel
theorem d_A_output_84 : decode (xMc m_A_output) 84 = .ok (.iaload, 1) := by decide +kernel
theorem d_A_output_85 : decode (xMc m_A_output) 85 = .ok (.goto 10, 3) := by decide +kernel
theorem d_A_output_88 : decode (xMc m_A_output) 88 = .ok (.aload 4, 2) := by decide +kernel
theorem d_A_output_90 : decode (xMc m_A_output) 90 = .ok (.getfield 153, 3) := by decide +kernel
theorem d_A_output_93 : decode (xMc m_A_output) 93 = .ok (.iload_n 2, 1) := by decide +kernel
theorem d_A_output_94 : decode (xMc m_A_output) 94 = .ok (.iaload, 1) := by decide +kernel
theorem d_A_output_95 : decode (xMc m_A_output) 95 = .ok (.ireturn, 1) := by decide +kernel
theorem d_A_find_0 : decode (xMc m_A_find) 0 = .ok (.aload_n 0, 1) := by decide +kernel
theorem d_A_find_1 : decode (xMc m_A_find) 1 = .ok (.getfield 46, 3) := by decide +kernel
theorem d_A_find_4 : decode (xMc m_A_find) 4 = .ok (.getfield 146, 3) := by decide +kernel
theorem d_A_find_7 : decode (xMc m_A_find) 7 = .ok (.aload_n 0, 1) := by decide +kernel
theorem d_A_find_8 : decode (xMc m_A_find) 8 = .ok (.getfield 46, 3) := by decide +kernel
theorem d_A_find_11 : decode (xMc m_A_find) 11 = .ok (.iload_n 1, 1) := by decide +kernel
theorem d_A_find_12 : decode (xMc m_A_find) 12 = .ok (.invokevirtual 156, 3) := by decide +kernel
theorem d_A_find_15 : decode (xMc m_A_find) 15 = .ok (.aaload, 1) := by decide +kernel
theorem d_A_find_16 : decode (xMc m_A_find) 16 = .ok (.astore_n 2, 1) := by decide +kernel
theorem d_A_find_17 : decode (xMc m_A_find) 17 = .ok (.aload_n 2, 1) := by decide +kernel
theorem d_A_find_18 : decode (xMc m_A_find) 18 = .ok (.iload_n 1, 1) := by decide +kernel
theorem d_A_find_19 : decode (xMc m_A_find) 19 = .ok (.invokevirtual 159, 3) := by decide +kernel
theorem d_A_find_22 : decode (xMc m_A_find) 22 = .ok (.istore_n 3, 1) := by decide +kernel
theorem d_A_find_23 : decode (xMc m_A_find) 23 = .ok (.iload_n 3, 1) := by decide +kernel
theorem d_A_find_24 : decode (xMc m_A_find) 24 = .ok (.iconst (-1), 1) := by decide +kernel
theorem d_A_find_25 : decode (xMc m_A_find) 25 = .ok (.if_icmp .ne 11, 3) := by decide +kernel
theorem d_A_find_28 : decode (xMc m_A_find) 28 = .ok (.new 143, 3) := by decide +kernel
theorem d_A_find_31 : decode (xMc m_A_find) 31 = .ok (.dup, 1) := by decide +kernel
theorem d_A_find_32 : decode (xMc m_A_find) 32 = .ok (.invokespecial 145, 3) := by decide +kernel
theorem d_A_find_35 : decode (xMc m_A_find) 35 = .ok (.athrow, 1) := by decide +kernel
theorem d_A_find_36 : decode (xMc m_A_find) 36 = .ok (.aload_n 2, 1) := by decide +kernel
theorem d_A_find_37 : decode (xMc m_A_find) 37 = .ok (.getfield 153, 3) := by decide +kernel
theorem d_A_find_40 : decode (xMc m_A_find) 40 = .ok (.iload_n 3, 1) := by decide +kernel
theorem d_A_find_41 : decode (xMc m_A_find) 41 = .ok (.iaload, 1) := by decide +kernel
theorem d_A_find_42 : decode (xMc m_A_find) 42 = .ok (.ireturn, 1) := by decide +kernel
theorem d_A_task_0 : decode (xMc m_A_task) 0 = .ok (.iload_n 2, 1) := by decide +kernel
theorem d_A_task_1 : decode (xMc m_A_task) 1 = .ok (.iconst 0, 1) := by decide +kernel
theorem d_A_task_2 : decode (xMc m_A_task) 2 = .ok (.iload_n 1, 1) := by decide +kernel
theorem d_A_task_3 : decode (xMc m_A_task) 3 = .ok (.ifCond .eq 8, 3) := by decide +kernel
theorem d_A_task_6 : decode (xMc m_A_task) 6 = .ok (.bipush 6, 2) := by decide +kernel
theorem d_A_task_8 : decode (xMc m_A_task) 8 = .ok (.goto 4, 3) := by decide +kernel
theorem d_A_task_11 : decode (xMc m_A_task) 11 = .ok (.iconst 3, 1) := by decide +kernel
theorem d_A_task_12 : decode (xMc m_A_task) 12 = .ok (.iconst 1, 1) := by decide +kernel
theorem d_A_task_13 : decode (xMc m_A_task) 13 = .ok (.isub, 1) := by decide +kernel
theorem d_A_task_14 : decode (xMc m_A_task) 14 = .ok (.invokestatic 81, 3) := by decide +kernel
theorem d_A_task_17 : decode (xMc m_A_task) 17 = .ok (.iload_n 3, 1) := by decide +kernel
theorem d_A_task_18 : decode (xMc m_A_task) 18 = .ok (.iconst 0, 1) := by decide +kernel
theorem d_A_task_19 : decode (xMc m_A_task) 19 = .ok (.iconst 3, 1) := by decide +kernel
theorem d_A_task_20 : decode (xMc m_A_task) 20 = .ok (.invokestatic 81, 3) := by decide +kernel
theorem d_A_task_23 : decode (xMc m_A_task) 23 = .ok (.aload_n 0, 1) := by decide +kernel
theorem d_A_task_24 : decode (xMc m_A_task) 24 = .ok (.invokevirtual 127, 3) := by decide +kernel
theorem d_A_task_27 : decode (xMc m_A_task) 27 = .ok (.iload_n 2, 1) := by decide +kernel
theorem d_A_task_28 : decode (xMc m_A_task) 28 = .ok (.aload_n 0, 1) := by decide +kernel
theorem d_A_task_29 : decode (xMc m_A_task) 29 = .ok (.iload_n 1, 1) := by decide +kernel
theorem d_A_task_30 : decode (xMc m_A_task) 30 = .ok (.invokevirtual 162, 3) := by decide +kernel
theorem d_A_task_33 : decode (xMc m_A_task) 33 = .ok (.if_icmp .lt 11, 3) := by decide +kernel
theorem d_A_task_36 : decode (xMc m_A_task) 36 = .ok (.new 143, 3) := by decide +kernel
theorem d_A_task_39 : decode (xMc m_A_task) 39 = .ok (.dup, 1) := by decide +kernel
theorem d_A_task_40 : decode (xMc m_A_task) 40 = .ok (.invokespecial 145, 3) := by decide +kernel
theorem d_A_task_43 : decode (xMc m_A_task) 43 = .ok (.athrow, 1) := by decide +kernel
theorem d_A_task_44 : decode (xMc m_A_task) 44 = .ok (.iload_n 1, 1) := by decide +kernel
theorem d_A_task_45 : decode (xMc m_A_task) 45 = .ok (.ifCond .eq 12, 3) := by decide +kernel
theorem d_A_task_48 : decode (xMc m_A_task) 48 = .ok (.aload_n 0, 1) := by decide +kernel
theorem d_A_task_49 : decode (xMc m_A_task) 49 = .ok (.getfield 23, 3) := by decide +kernel
theorem d_A_task_52 : decode (xMc m_A_task) 52 = .ok (.iload_n 2, 1) := by decide +kernel
theorem d_A_task_53 : decode (xMc m_A_task) 53 = .ok (.aaload, 1) := by decide +kernel
theorem d_A_task_54 : decode (xMc m_A_task) 54 = .ok (.goto 9, 3) := by decide +kernel
theorem d_A_task_57 : decode (xMc m_A_task) 57 = .ok (.aload_n 0, 1) := by decide +kernel
theorem d_A_task_58 : decode (xMc m_A_task) 58 = .ok (.getfield 27, 3) := by decide +kernel
theorem d_A_task_61 : decode (xMc m_A_task) 61 = .ok (.iload_n 2, 1) := by decide +kernel
theorem d_A_task_62 : decode (xMc m_A_task) 62 = .ok (.aaload, 1) := by decide +kernel
theorem d_A_task_63 : decode (xMc m_A_task) 63 = .ok (.astore 4, 2) := by decide +kernel
theorem d_A_task_65 : decode (xMc m_A_task) 65 = .ok (.iload_n 3, 1) := by decide +kernel
theorem d_A_task_66 : decode (xMc m_A_task) 66 = .ok (.tableswitch 61 0 2 #[26, 33, 55], 26) := by decide +kernel
theorem d_A_task_92 : decode (xMc m_A_task) 92 = .ok (.aload_n 0, 1) := by decide +kernel
theorem d_A_task_93 : decode (xMc m_A_task) 93 = .ok (.aload 4, 2) := by decide +kernel
theorem d_A_task_95 : decode (xMc m_A_task) 95 = .ok (.invokevirtual 166, 3) := by decide +kernel
theorem d_A_task_98 : decode (xMc m_A_task) 98 = .ok (.ireturn, 1) := by decide +kernel
theorem d_A_task_99 : decode (xMc m_A_task) 99 = .ok (.iload_n 1, 1) := by decide +kernel
theorem d_A_task_100 : decode (xMc m_A_task) 100 = .ok (.ifCond .ne 11, 3) := by decide +kernel
theorem d_A_task_103 : decode (xMc m_A_task) 103 = .ok (.aload_n 0, 1) := by decide +kernel
theorem d_A_task_104 : decode (xMc m_A_task) 104 = .ok (.iconst 1, 1) := by decide +kernel
theorem d_A_task_105 : decode (xMc m_A_task) 105 = .ok (.invokevirtual 170, 3) := by decide +kernel
theorem d_A_task_108 : decode (xMc m_A_task) 108 = .ok (.ifCond .eq 11, 3) := by decide +kernel
theorem d_A_task_111 : decode (xMc m_A_task) 111 = .ok (.aload 4, 2) := by decide +kernel
theorem d_A_task_113 : decode (xMc m_A_task) 113 = .ok (.getfield 174, 3) := by decide +kernel
theorem d_A_task_116 : decode (xMc m_A_task) 116 = .ok (.goto 4, 3) := by decide +kernel
theorem d_A_task_119 : decode (xMc m_A_task) 119 = .ok (.iconst 0, 1) := by decide +kernel
theorem d_A_task_120 : decode (xMc m_A_task) 120 = .ok (.ireturn, 1) := by decide +kernel
theorem d_A_task_121 : decode (xMc m_A_task) 121 = .ok (.aload 4, 2) := by decide +kernel
theorem d_A_task_123 : decode (xMc m_A_task) 123 = .ok (.getfield 177, 3) := by decide +kernel
theorem d_A_task_126 : decode (xMc m_A_task) 126 = .ok (.ireturn, 1) := by decide +kernel
theorem d_A_task_127 : decode (xMc m_A_task) 127 = .ok (.aload 4, 2) := by decide +kernel
theorem d_A_task_129 : decode (xMc m_A_task) 129 = .ok (.invokevirtual 180, 3) := by decide +kernel
theorem d_A_task_132 : decode (xMc m_A_task) 132 = .ok (.ifCond .eq 11, 3) := by decide +kernel
theorem d_A_task_135 : decode (xMc m_A_task) 135 = .ok (.aload 4, 2) := by decide +kernel
theorem d_A_task_137 : decode (xMc m_A_task) 137 = .ok (.getfield 184, 3) := by decide +kernel
theorem d_A_task_140 : decode (xMc m_A_task) 140 = .ok (.goto 9, 3) := by decide +kernel
theorem d_A_task_143 : decode (xMc m_A_task) 143 = .ok (.aload_n 0, 1) := by decide +kernel
theorem d_A_task_144 : decode (xMc m_A_task) 144 = .ok (.aload 4, 2) := by decide +kernel
theorem d_A_task_146 : decode (xMc m_A_task) 146 = .ok (.invokevirtual 187, 3) := by decide +kernel
theorem d_A_task_149 : decode (xMc m_A_task) 149 = .ok (.ireturn, 1) := by decide +kernel
theorem d_A_stateOf_0 : decode (xMc m_A_stateOf) 0 = .ok (.aload_n 1, 1) := by decide +kernel
theorem d_A_stateOf_1 : decode (xMc m_A_stateOf) 1 = .ok (.invokevirtual 180, 3) := by decide +kernel
theorem d_A_stateOf_4 : decode (xMc m_A_stateOf) 4 = .ok (.ifCond .eq 5, 3) := by decide +kernel
theorem d_A_stateOf_7 : decode (xMc m_A_stateOf) 7 = .ok (.iconst 2, 1) := by decide +kernel
theorem d_A_stateOf_8 : decode (xMc m_A_stateOf) 8 = .ok (.ireturn, 1) := by decide +kernel
theorem d_A_stateOf_9 : decode (xMc m_A_stateOf) 9 = .ok (.aload_n 0, 1) := by decide +kernel
theorem d_A_stateOf_10 : decode (xMc m_A_stateOf) 10 = .ok (.aload_n 1, 1) := by decide +kernel
theorem d_A_stateOf_11 : decode (xMc m_A_stateOf) 11 = .ok (.invokevirtual 277, 3) := by decide +kernel
theorem d_A_stateOf_14 : decode (xMc m_A_stateOf) 14 = .ok (.ifCond .le 7, 3) := by decide +kernel
theorem d_A_stateOf_17 : decode (xMc m_A_stateOf) 17 = .ok (.iconst 1, 1) := by decide +kernel
theorem d_A_stateOf_18 : decode (xMc m_A_stateOf) 18 = .ok (.goto 4, 3) := by decide +kernel
theorem d_A_stateOf_21 : decode (xMc m_A_stateOf) 21 = .ok (.iconst 0, 1) := by decide +kernel
theorem d_A_stateOf_22 : decode (xMc m_A_stateOf) 22 = .ok (.ireturn, 1) := by decide +kernel
theorem d_A_ofWorker_0 : decode (xMc m_A_ofWorker) 0 = .ok (.iload_n 1, 1) := by decide +kernel
theorem d_A_ofWorker_1 : decode (xMc m_A_ofWorker) 1 = .ok (.iconst 0, 1) := by decide +kernel
theorem d_A_ofWorker_2 : decode (xMc m_A_ofWorker) 2 = .ok (.iconst 3, 1) := by decide +kernel
theorem d_A_ofWorker_3 : decode (xMc m_A_ofWorker) 3 = .ok (.invokestatic 81, 3) := by decide +kernel
theorem d_A_ofWorker_6 : decode (xMc m_A_ofWorker) 6 = .ok (.iload_n 2, 1) := by decide +kernel
theorem d_A_ofWorker_7 : decode (xMc m_A_ofWorker) 7 = .ok (.iconst 0, 1) := by decide +kernel
theorem d_A_ofWorker_8 : decode (xMc m_A_ofWorker) 8 = .ok (.iconst 3, 1) := by decide +kernel
theorem d_A_ofWorker_9 : decode (xMc m_A_ofWorker) 9 = .ok (.invokestatic 81, 3) := by decide +kernel
theorem d_A_ofWorker_12 : decode (xMc m_A_ofWorker) 12 = .ok (.iload_n 2, 1) := by decide +kernel
theorem d_A_ofWorker_13 : decode (xMc m_A_ofWorker) 13 = .ok (.tableswitch 65 0 2 #[27, 45, 55], 27) := by decide +kernel
theorem d_A_ofWorker_40 : decode (xMc m_A_ofWorker) 40 = .ok (.aload_n 0, 1) := by decide +kernel
theorem d_A_ofWorker_41 : decode (xMc m_A_ofWorker) 41 = .ok (.getfield 11, 3) := by decide +kernel
theorem d_A_ofWorker_44 : decode (xMc m_A_ofWorker) 44 = .ok (.iload_n 1, 1) := by decide +kernel
theorem d_A_ofWorker_45 : decode (xMc m_A_ofWorker) 45 = .ok (.aaload, 1) := by decide +kernel
theorem d_A_ofWorker_46 : decode (xMc m_A_ofWorker) 46 = .ok (.getfield 92, 3) := by decide +kernel
theorem d_A_ofWorker_49 : decode (xMc m_A_ofWorker) 49 = .ok (.ifCond .eq 7, 3) := by decide +kernel
theorem d_A_ofWorker_52 : decode (xMc m_A_ofWorker) 52 = .ok (.iconst 1, 1) := by decide +kernel
theorem d_A_ofWorker_53 : decode (xMc m_A_ofWorker) 53 = .ok (.goto 4, 3) := by decide +kernel
theorem d_A_ofWorker_56 : decode (xMc m_A_ofWorker) 56 = .ok (.iconst 0, 1) := by decide +kernel
theorem d_A_ofWorker_57 : decode (xMc m_A_ofWorker) 57 = .ok (.ireturn, 1) := by decide +kernel
theorem d_A_ofWorker_58 : decode (xMc m_A_ofWorker) 58 = .ok (.aload_n 0, 1) := by decide +kernel
theorem d_A_ofWorker_59 : decode (xMc m_A_ofWorker) 59 = .ok (.getfield 11, 3) := by decide +kernel
theorem d_A_ofWorker_62 : decode (xMc m_A_ofWorker) 62 = .ok (.iload_n 1, 1) := by decide +kernel
theorem d_A_ofWorker_63 : decode (xMc m_A_ofWorker) 63 = .ok (.aaload, 1) := by decide +kernel
theorem d_A_ofWorker_64 : decode (xMc m_A_ofWorker) 64 = .ok (.invokevirtual 190, 3) := by decide +kernel
theorem d_A_ofWorker_67 : decode (xMc m_A_ofWorker) 67 = .ok (.ireturn, 1) := by decide +kernel
theorem d_A_ofWorker_68 : decode (xMc m_A_ofWorker) 68 = .ok (.aload_n 0, 1) := by decide +kernel
theorem d_A_ofWorker_69 : decode (xMc m_A_ofWorker) 69 = .ok (.getfield 11, 3) := by decide +kernel
theorem d_A_ofWorker_72 : decode (xMc m_A_ofWorker) 72 = .ok (.iload_n 1, 1) := by decide +kernel
theorem d_A_ofWorker_73 : decode (xMc m_A_ofWorker) 73 = .ok (.aaload, 1) := by decide +kernel
theorem d_A_ofWorker_74 : decode (xMc m_A_ofWorker) 74 = .ok (.getfield 193, 3) := by decide +kernel
theorem d_A_ofWorker_77 : decode (xMc m_A_ofWorker) 77 = .ok (.ireturn, 1) := by decide +kernel
theorem d_A_ofWorker_78 : decode (xMc m_A_ofWorker) 78 = .ok (.aload_n 0, 1) := by decide +kernel
theorem d_A_ofWorker_79 : decode (xMc m_A_ofWorker) 79 = .ok (.getfield 11, 3) := by decide +kernel
theorem d_A_ofWorker_82 : decode (xMc m_A_ofWorker) 82 = .ok (.iload_n 1, 1) := by decide +kernel
theorem d_A_ofWorker_83 : decode (xMc m_A_ofWorker) 83 = .ok (.aaload, 1) := by decide +kernel
theorem d_A_ofWorker_84 : decode (xMc m_A_ofWorker) 84 = .ok (.getfield 196, 3) := by decide +kernel
theorem d_A_ofWorker_87 : decode (xMc m_A_ofWorker) 87 = .ok (.ireturn, 1) := by decide +kernel
