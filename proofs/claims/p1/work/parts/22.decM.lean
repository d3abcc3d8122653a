theorem d_M_init_0 : decode (xMc m_M_init) 0 = .ok (.aload_n 0, 1) := by decide +kernel
theorem d_M_init_1 : decode (xMc m_M_init) 1 = .ok (.invokespecial 1, 3) := by decide +kernel
theorem d_M_init_4 : decode (xMc m_M_init) 4 = .ok (.aload_n 0, 1) := by decide +kernel
theorem d_M_init_5 : decode (xMc m_M_init) 5 = .ok (.bipush 6, 2) := by decide +kernel
theorem d_M_init_7 : decode (xMc m_M_init) 7 = .ok (.newarray .int, 2) := by decide +kernel
theorem d_M_init_9 : decode (xMc m_M_init) 9 = .ok (.putfield 7, 3) := by decide +kernel
theorem d_M_init_12 : decode (xMc m_M_init) 12 = .ok (.aload_n 0, 1) := by decide +kernel
theorem d_M_init_13 : decode (xMc m_M_init) 13 = .ok (.bipush 36, 2) := by decide +kernel
theorem d_M_init_15 : decode (xMc m_M_init) 15 = .ok (.newarray .int, 2) := by decide +kernel
theorem d_M_init_17 : decode (xMc m_M_init) 17 = .ok (.putfield 13, 3) := by decide +kernel
theorem d_M_init_20 : decode (xMc m_M_init) 20 = .ok (.aload_n 0, 1) := by decide +kernel
theorem d_M_init_21 : decode (xMc m_M_init) 21 = .ok (.iconst 4, 1) := by decide +kernel
theorem d_M_init_22 : decode (xMc m_M_init) 22 = .ok (.newarray .int, 2) := by decide +kernel
theorem d_M_init_24 : decode (xMc m_M_init) 24 = .ok (.dup, 1) := by decide +kernel
theorem d_M_init_25 : decode (xMc m_M_init) 25 = .ok (.iconst 0, 1) := by decide +kernel
theorem d_M_init_26 : decode (xMc m_M_init) 26 = .ok (.iconst 1, 1) := by decide +kernel
theorem d_M_init_27 : decode (xMc m_M_init) 27 = .ok (.iastore, 1) := by decide +kernel
theorem d_M_init_28 : decode (xMc m_M_init) 28 = .ok (.dup, 1) := by decide +kernel
theorem d_M_init_29 : decode (xMc m_M_init) 29 = .ok (.iconst 1, 1) := by decide +kernel
theorem d_M_init_30 : decode (xMc m_M_init) 30 = .ok (.iconst 1, 1) := by decide +kernel
theorem d_M_init_31 : decode (xMc m_M_init) 31 = .ok (.iastore, 1) := by decide +kernel
theorem d_M_init_32 : decode (xMc m_M_init) 32 = .ok (.dup, 1) := by decide +kernel
theorem d_M_init_33 : decode (xMc m_M_init) 33 = .ok (.iconst 2, 1) := by decide +kernel
theorem d_M_init_34 : decode (xMc m_M_init) 34 = .ok (.iconst 1, 1) := by decide +kernel
theorem d_M_init_35 : decode (xMc m_M_init) 35 = .ok (.iastore, 1) := by decide +kernel
theorem d_M_init_36 : decode (xMc m_M_init) 36 = .ok (.dup, 1) := by decide +kernel
theorem d_M_init_37 : decode (xMc m_M_init) 37 = .ok (.iconst 3, 1) := by decide +kernel
theorem d_M_init_38 : decode (xMc m_M_init) 38 = .ok (.iconst 1, 1) := by decide +kernel
theorem d_M_init_39 : decode (xMc m_M_init) 39 = .ok (.iastore, 1) := by decide +kernel
theorem d_M_init_40 : decode (xMc m_M_init) 40 = .ok (.putfield 16, 3) := by decide +kernel
theorem d_M_init_43 : decode (xMc m_M_init) 43 = .ok (.aload_n 0, 1) := by decide +kernel
theorem d_M_init_44 : decode (xMc m_M_init) 44 = .ok (.iconst 4, 1) := by decide +kernel
theorem d_M_init_45 : decode (xMc m_M_init) 45 = .ok (.newarray .int, 2) := by decide +kernel
theorem d_M_init_47 : decode (xMc m_M_init) 47 = .ok (.dup, 1) := by decide +kernel
theorem d_M_init_48 : decode (xMc m_M_init) 48 = .ok (.iconst 0, 1) := by decide +kernel
theorem d_M_init_49 : decode (xMc m_M_init) 49 = .ok (.iconst (-1), 1) := by decide +kernel
theorem d_M_init_50 : decode (xMc m_M_init) 50 = .ok (.iastore, 1) := by decide +kernel
theorem d_M_init_51 : decode (xMc m_M_init) 51 = .ok (.dup, 1) := by decide +kernel
theorem d_M_init_52 : decode (xMc m_M_init) 52 = .ok (.iconst 1, 1) := by decide +kernel
theorem d_M_init_53 : decode (xMc m_M_init) 53 = .ok (.iconst (-1), 1) := by decide +kernel
theorem d_M_init_54 : decode (xMc m_M_init) 54 = .ok (.iastore, 1) := by decide +kernel
theorem d_M_init_55 : decode (xMc m_M_init) 55 = .ok (.dup, 1) := by decide +kernel
theorem d_M_init_56 : decode (xMc m_M_init) 56 = .ok (.iconst 2, 1) := by decide +kernel
theorem d_M_init_57 : decode (xMc m_M_init) 57 = .ok (.iconst (-1), 1) := by decide +kernel
theorem d_M_init_58 : decode (xMc m_M_init) 58 = .ok (.iastore, 1) := by decide +kernel
theorem d_M_init_59 : decode (xMc m_M_init) 59 = .ok (.dup, 1) := by decide +kernel
theorem d_M_init_60 : decode (xMc m_M_init) 60 = .ok (.iconst 3, 1) := by decide +kernel
theorem d_M_init_61 : decode (xMc m_M_init) 61 = .ok (.iconst (-1), 1) := by decide +kernel
theorem d_M_init_62 : decode (xMc m_M_init) 62 = .ok (.iastore, 1) := by decide +kernel
theorem d_M_init_63 : decode (xMc m_M_init) 63 = .ok (.putfield 19, 3) := by decide +kernel
theorem d_M_init_66 : decode (xMc m_M_init) 66 = .ok (.aload_n 0, 1) := by decide +kernel
theorem d_M_init_67 : decode (xMc m_M_init) 67 = .ok (.iconst 4, 1) := by decide +kernel
theorem d_M_init_68 : decode (xMc m_M_init) 68 = .ok (.newarray .int, 2) := by decide +kernel
theorem d_M_init_70 : decode (xMc m_M_init) 70 = .ok (.putfield 22, 3) := by decide +kernel
theorem d_M_init_73 : decode (xMc m_M_init) 73 = .ok (.aload_n 0, 1) := by decide +kernel
theorem d_M_init_74 : decode (xMc m_M_init) 74 = .ok (.iconst 4, 1) := by decide +kernel
theorem d_M_init_75 : decode (xMc m_M_init) 75 = .ok (.newarray .int, 2) := by decide +kernel
theorem d_M_init_77 : decode (xMc m_M_init) 77 = .ok (.putfield 25, 3) := by decide +kernel
theorem d_M_init_80 : decode (xMc m_M_init) 80 = .ok (.aload_n 0, 1) := by decide +kernel
theorem d_M_init_81 : decode (xMc m_M_init) 81 = .ok (.iconst 4, 1) := by decide +kernel
theorem d_M_init_82 : decode (xMc m_M_init) 82 = .ok (.newarray .boolean, 2) := by decide +kernel
theorem d_M_init_84 : decode (xMc m_M_init) 84 = .ok (.dup, 1) := by decide +kernel
theorem d_M_init_85 : decode (xMc m_M_init) 85 = .ok (.iconst 0, 1) := by decide +kernel
theorem d_M_init_86 : decode (xMc m_M_init) 86 = .ok (.iconst 1, 1) := by decide +kernel
theorem d_M_init_87 : decode (xMc m_M_init) 87 = .ok (.bastore, 1) := by decide +kernel
theorem d_M_init_88 : decode (xMc m_M_init) 88 = .ok (.dup, 1) := by decide +kernel
theorem d_M_init_89 : decode (xMc m_M_init) 89 = .ok (.iconst 1, 1) := by decide +kernel
theorem d_M_init_90 : decode (xMc m_M_init) 90 = .ok (.iconst 1, 1) := by decide +kernel
theorem d_M_init_91 : decode (xMc m_M_init) 91 = .ok (.bastore, 1) := by decide +kernel
theorem d_M_init_92 : decode (xMc m_M_init) 92 = .ok (.dup, 1) := by decide +kernel
theorem d_M_init_93 : decode (xMc m_M_init) 93 = .ok (.iconst 2, 1) := by decide +kernel
theorem d_M_init_94 : decode (xMc m_M_init) 94 = .ok (.iconst 1, 1) := by decide +kernel
theorem d_M_init_95 : decode (xMc m_M_init) 95 = .ok (.bastore, 1) := by decide +kernel
theorem d_M_init_96 : decode (xMc m_M_init) 96 = .ok (.dup, 1) := by decide +kernel
theorem d_M_init_97 : decode (xMc m_M_init) 97 = .ok (.iconst 3, 1) := by decide +kernel
theorem d_M_init_98 : decode (xMc m_M_init) 98 = .ok (.iconst 1, 1) := by decide +kernel
theorem d_M_init_99 : decode (xMc m_M_init) 99 = .ok (.bastore, 1) := by decide +kernel
theorem d_M_init_100 : decode (xMc m_M_init) 100 = .ok (.putfield 28, 3) := by decide +kernel
theorem d_M_init_103 : decode (xMc m_M_init) 103 = .ok (.aload_n 0, 1) := by decide +kernel
theorem d_M_init_104 : decode (xMc m_M_init) 104 = .ok (.bipush 11, 2) := by decide +kernel
theorem d_M_init_106 : decode (xMc m_M_init) 106 = .ok (.newarray .boolean, 2) := by decide +kernel
theorem d_M_init_108 : decode (xMc m_M_init) 108 = .ok (.putfield 32, 3) := by decide +kernel
theorem d_M_init_111 : decode (xMc m_M_init) 111 = .ok (.aload_n 0, 1) := by decide +kernel
theorem d_M_init_112 : decode (xMc m_M_init) 112 = .ok (.bipush 11, 2) := by decide +kernel
theorem d_M_init_114 : decode (xMc m_M_init) 114 = .ok (.newarray .int, 2) := by decide +kernel
theorem d_M_init_116 : decode (xMc m_M_init) 116 = .ok (.putfield 35, 3) := by decide +kernel
theorem d_M_init_119 : decode (xMc m_M_init) 119 = .ok (.aload_n 0, 1) := by decide +kernel
theorem d_M_init_120 : decode (xMc m_M_init) 120 = .ok (.sipush 300, 3) := by decide +kernel
theorem d_M_init_123 : decode (xMc m_M_init) 123 = .ok (.newarray .int, 2) := by decide +kernel
theorem d_M_init_125 : decode (xMc m_M_init) 125 = .ok (.putfield 38, 3) := by decide +kernel
theorem d_M_init_128 : decode (xMc m_M_init) 128 = .ok (.aload_n 0, 1) := by decide +kernel
theorem d_M_init_129 : decode (xMc m_M_init) 129 = .ok (.sipush 300, 3) := by decide +kernel
theorem d_M_init_132 : decode (xMc m_M_init) 132 = .ok (.newarray .int, 2) := by decide +kernel
theorem d_M_init_134 : decode (xMc m_M_init) 134 = .ok (.putfield 41, 3) := by decide +kernel
theorem d_M_init_137 : decode (xMc m_M_init) 137 = .ok (.aload_n 0, 1) := by decide +kernel
theorem d_M_init_138 : decode (xMc m_M_init) 138 = .ok (.bipush 6, 2) := by decide +kernel
theorem d_M_init_140 : decode (xMc m_M_init) 140 = .ok (.newarray .int, 2) := by decide +kernel
theorem d_M_init_142 : decode (xMc m_M_init) 142 = .ok (.putfield 44, 3) := by decide +kernel
theorem d_M_init_145 : decode (xMc m_M_init) 145 = .ok (.aload_n 0, 1) := by decide +kernel
theorem d_M_init_146 : decode (xMc m_M_init) 146 = .ok (.ldc 47, 2) := by decide +kernel
theorem d_M_init_148 : decode (xMc m_M_init) 148 = .ok (.putfield 48, 3) := by decide +kernel
theorem d_M_init_151 : decode (xMc m_M_init) 151 = .ok (.aload_n 0, 1) := by decide +kernel
theorem d_M_init_152 : decode (xMc m_M_init) 152 = .ok (.iconst (-1), 1) := by decide +kernel
theorem d_M_init_153 : decode (xMc m_M_init) 153 = .ok (.putfield 52, 3) := by decide +kernel
theorem d_M_init_156 : decode (xMc m_M_init) 156 = .ok (.aload_n 0, 1) := by decide +kernel
theorem d_M_init_157 : decode (xMc m_M_init) 157 = .ok (.sipush 300, 3) := by decide +kernel
theorem d_M_init_160 : decode (xMc m_M_init) 160 = .ok (.newarray .int, 2) := by decide +kernel
theorem d_M_init_162 : decode (xMc m_M_init) 162 = .ok (.putfield 55, 3) := by decide +kernel
theorem d_M_init_165 : decode (xMc m_M_init) 165 = .ok (.aload_n 0, 1) := by decide +kernel
theorem d_M_init_166 : decode (xMc m_M_init) 166 = .ok (.sipush 300, 3) := by decide +kernel
theorem d_M_init_169 : decode (xMc m_M_init) 169 = .ok (.newarray .int, 2) := by decide +kernel
theorem d_M_init_171 : decode (xMc m_M_init) 171 = .ok (.putfield 58, 3) := by decide +kernel
theorem d_M_init_174 : decode (xMc m_M_init) 174 = .ok (.aload_n 0, 1) := by decide +kernel
theorem d_M_init_175 : decode (xMc m_M_init) 175 = .ok (.iconst 3, 1) := by decide +kernel
theorem d_M_init_176 : decode (xMc m_M_init) 176 = .ok (.newarray .int, 2) := by decide +kernel
theorem d_M_init_178 : decode (xMc m_M_init) 178 = .ok (.putfield 61, 3) := by decide +kernel
theorem d_M_init_181 : decode (xMc m_M_init) 181 = .ok (.return_, 1) := by decide +kernel
theorem d_M_thrown_0 : decode (xMc m_M_thrown) 0 = .ok (.aload_n 0, 1) := by decide +kernel
theorem d_M_thrown_1 : decode (xMc m_M_thrown) 1 = .ok (.getfield 64, 3) := by decide +kernel
theorem d_M_thrown_4 : decode (xMc m_M_thrown) 4 = .ok (.ireturn, 1) := by decide +kernel
theorem d_M_chunk_0 : decode (xMc m_M_chunk) 0 = .ok (.aload_n 0, 1) := by decide +kernel
theorem d_M_chunk_1 : decode (xMc m_M_chunk) 1 = .ok (.iload_n 3, 1) := by decide +kernel
theorem d_M_chunk_2 : decode (xMc m_M_chunk) 2 = .ok (.iconst 1, 1) := by decide +kernel
theorem d_M_chunk_3 : decode (xMc m_M_chunk) 3 = .ok (.bipush 6, 2) := by decide +kernel
theorem d_M_chunk_5 : decode (xMc m_M_chunk) 5 = .ok (.invokestatic 67, 3) := by decide +kernel
theorem d_M_chunk_8 : decode (xMc m_M_chunk) 8 = .ok (.ifCond .eq 21, 3) := by decide +kernel
theorem d_M_chunk_11 : decode (xMc m_M_chunk) 11 = .ok (.iload 4, 2) := by decide +kernel
theorem d_M_chunk_13 : decode (xMc m_M_chunk) 13 = .ok (.sipush (-1000), 3) := by decide +kernel
theorem d_M_chunk_16 : decode (xMc m_M_chunk) 16 = .ok (.sipush 1000, 3) := by decide +kernel
theorem d_M_chunk_19 : decode (xMc m_M_chunk) 19 = .ok (.invokestatic 67, 3) := by decide +kernel
theorem d_M_chunk_22 : decode (xMc m_M_chunk) 22 = .ok (.ifCond .eq 7, 3) := by decide +kernel
theorem d_M_chunk_25 : decode (xMc m_M_chunk) 25 = .ok (.iconst 1, 1) := by decide +kernel
theorem d_M_chunk_26 : decode (xMc m_M_chunk) 26 = .ok (.goto 4, 3) := by decide +kernel
theorem d_M_chunk_29 : decode (xMc m_M_chunk) 29 = .ok (.iconst 0, 1) := by decide +kernel
theorem d_M_chunk_30 : decode (xMc m_M_chunk) 30 = .ok (.invokevirtual 71, 3) := by decide +kernel
theorem d_M_chunk_33 : decode (xMc m_M_chunk) 33 = .ok (.ifCond .eq 5, 3) := by decide +kernel
theorem d_M_chunk_36 : decode (xMc m_M_chunk) 36 = .ok (.iconst 0, 1) := by decide +kernel
theorem d_M_chunk_37 : decode (xMc m_M_chunk) 37 = .ok (.ireturn, 1) := by decide +kernel
theorem d_M_chunk_38 : decode (xMc m_M_chunk) 38 = .ok (.aload_n 0, 1) := by decide +kernel
theorem d_M_chunk_39 : decode (xMc m_M_chunk) 39 = .ok (.getfield 75, 3) := by decide +kernel
theorem d_M_chunk_42 : decode (xMc m_M_chunk) 42 = .ok (.ifCond .ne 12, 3) := by decide +kernel
theorem d_M_chunk_45 : decode (xMc m_M_chunk) 45 = .ok (.aload_n 0, 1) := by decide +kernel
theorem d_M_chunk_46 : decode (xMc m_M_chunk) 46 = .ok (.getfield 79, 3) := by decide +kernel
theorem d_M_chunk_49 : decode (xMc m_M_chunk) 49 = .ok (.bipush 6, 2) := by decide +kernel
theorem d_M_chunk_51 : decode (xMc m_M_chunk) 51 = .ok (.if_icmp .ne 9, 3) := by decide +kernel
theorem d_M_chunk_54 : decode (xMc m_M_chunk) 54 = .ok (.aload_n 0, 1) := by decide +kernel
theorem d_M_chunk_55 : decode (xMc m_M_chunk) 55 = .ok (.iconst 2, 1) := by decide +kernel
theorem d_M_chunk_56 : decode (xMc m_M_chunk) 56 = .ok (.invokevirtual 82, 3) := by decide +kernel
theorem d_M_chunk_59 : decode (xMc m_M_chunk) 59 = .ok (.ireturn, 1) := by decide +kernel
theorem d_M_chunk_60 : decode (xMc m_M_chunk) 60 = .ok (.iconst 0, 1) := by decide +kernel
theorem d_M_chunk_61 : decode (xMc m_M_chunk) 61 = .ok (.istore 5, 2) := by decide +kernel
theorem d_M_chunk_63 : decode (xMc m_M_chunk) 63 = .ok (.iload 5, 2) := by decide +kernel
theorem d_M_chunk_65 : decode (xMc m_M_chunk) 65 = .ok (.iload_n 3, 1) := by decide +kernel
theorem d_M_chunk_66 : decode (xMc m_M_chunk) 66 = .ok (.if_icmp .ge 36, 3) := by decide +kernel
theorem d_M_chunk_69 : decode (xMc m_M_chunk) 69 = .ok (.aload_n 0, 1) := by decide +kernel
theorem d_M_chunk_70 : decode (xMc m_M_chunk) 70 = .ok (.getfield 13, 3) := by decide +kernel
theorem d_M_chunk_73 : decode (xMc m_M_chunk) 73 = .ok (.aload_n 0, 1) := by decide +kernel
theorem d_M_chunk_74 : decode (xMc m_M_chunk) 74 = .ok (.getfield 79, 3) := by decide +kernel
theorem d_M_chunk_77 : decode (xMc m_M_chunk) 77 = .ok (.bipush 6, 2) := by decide +kernel
theorem d_M_chunk_79 : decode (xMc m_M_chunk) 79 = .ok (.imul, 1) := by decide +kernel
theorem d_M_chunk_80 : decode (xMc m_M_chunk) 80 = .ok (.iload 5, 2) := by decide +kernel
theorem d_M_chunk_82 : decode (xMc m_M_chunk) 82 = .ok (.iadd, 1) := by decide +kernel
theorem d_M_chunk_83 : decode (xMc m_M_chunk) 83 = .ok (.lload_n 1, 1) := by decide +kernel
theorem d_M_chunk_84 : decode (xMc m_M_chunk) 84 = .ok (.bipush 8, 2) := by decide +kernel
theorem d_M_chunk_86 : decode (xMc m_M_chunk) 86 = .ok (.iload 5, 2) := by decide +kernel
theorem d_M_chunk_88 : decode (xMc m_M_chunk) 88 = .ok (.imul, 1) := by decide +kernel
theorem d_M_chunk_89 : decode (xMc m_M_chunk) 89 = .ok (.lshr, 1) := by decide +kernel
theorem d_M_chunk_90 : decode (xMc m_M_chunk) 90 = .ok (.l2i, 1) := by decide +kernel
theorem d_M_chunk_91 : decode (xMc m_M_chunk) 91 = .ok (.i2b, 1) := by decide +kernel
theorem d_M_chunk_92 : decode (xMc m_M_chunk) 92 = .ok (.iload 4, 2) := by decide +kernel
theorem d_M_chunk_94 : decode (xMc m_M_chunk) 94 = .ok (.imul, 1) := by decide +kernel
theorem d_M_chunk_95 : decode (xMc m_M_chunk) 95 = .ok (.iastore, 1) := by decide +kernel
theorem d_M_chunk_96 : decode (xMc m_M_chunk) 96 = .ok (.iinc 5 1, 3) := by decide +kernel
theorem d_M_chunk_99 : decode (xMc m_M_chunk) 99 = .ok (.goto (-36), 3) := by decide +kernel
theorem d_M_chunk_102 : decode (xMc m_M_chunk) 102 = .ok (.aload_n 0, 1) := by decide +kernel
theorem d_M_chunk_103 : decode (xMc m_M_chunk) 103 = .ok (.getfield 7, 3) := by decide +kernel
theorem d_M_chunk_106 : decode (xMc m_M_chunk) 106 = .ok (.aload_n 0, 1) := by decide +kernel
theorem d_M_chunk_107 : decode (xMc m_M_chunk) 107 = .ok (.getfield 79, 3) := by decide +kernel
theorem d_M_chunk_110 : decode (xMc m_M_chunk) 110 = .ok (.iload_n 3, 1) := by decide +kernel
theorem d_M_chunk_111 : decode (xMc m_M_chunk) 111 = .ok (.iastore, 1) := by decide +kernel
theorem d_M_chunk_112 : decode (xMc m_M_chunk) 112 = .ok (.aload_n 0, 1) := by decide +kernel
theorem d_M_chunk_113 : decode (xMc m_M_chunk) 113 = .ok (.dup, 1) := by decide +kernel
theorem d_M_chunk_114 : decode (xMc m_M_chunk) 114 = .ok (.getfield 79, 3) := by decide +kernel
theorem d_M_chunk_117 : decode (xMc m_M_chunk) 117 = .ok (.iconst 1, 1) := by decide +kernel
theorem d_M_chunk_118 : decode (xMc m_M_chunk) 118 = .ok (.iadd, 1) := by decide +kernel
theorem d_M_chunk_119 : decode (xMc m_M_chunk) 119 = .ok (.putfield 79, 3) := by decide +kernel
theorem d_M_chunk_122 : decode (xMc m_M_chunk) 122 = .ok (.aload_n 0, 1) := by decide +kernel
theorem d_M_chunk_123 : decode (xMc m_M_chunk) 123 = .ok (.getfield 79, 3) := by decide +kernel
theorem d_M_chunk_126 : decode (xMc m_M_chunk) 126 = .ok (.iconst 1, 1) := by decide +kernel
theorem d_M_chunk_127 : decode (xMc m_M_chunk) 127 = .ok (.isub, 1) := by decide +kernel
theorem d_M_chunk_128 : decode (xMc m_M_chunk) 128 = .ok (.ireturn, 1) := by decide +kernel
theorem d_M_in_0 : decode (xMc m_M_in) 0 = .ok (.iload_n 0, 1) := by decide +kernel
theorem d_M_in_1 : decode (xMc m_M_in) 1 = .ok (.iload_n 1, 1) := by decide +kernel
theorem d_M_in_2 : decode (xMc m_M_in) 2 = .ok (.if_icmp .lt 12, 3) := by decide +kernel
theorem d_M_in_5 : decode (xMc m_M_in) 5 = .ok (.iload_n 0, 1) := by decide +kernel
theorem d_M_in_6 : decode (xMc m_M_in) 6 = .ok (.iload_n 2, 1) := by decide +kernel
theorem d_M_in_7 : decode (xMc m_M_in) 7 = .ok (.if_icmp .gt 7, 3) := by decide +kernel
theorem d_M_in_10 : decode (xMc m_M_in) 10 = .ok (.iconst 1, 1) := by decide +kernel
theorem d_M_in_11 : decode (xMc m_M_in) 11 = .ok (.goto 4, 3) := by decide +kernel
theorem d_M_in_14 : decode (xMc m_M_in) 14 = .ok (.iconst 0, 1) := by decide +kernel
theorem d_M_in_15 : decode (xMc m_M_in) 15 = .ok (.ireturn, 1) := by decide +kernel
theorem d_M_bad_0 : decode (xMc m_M_bad) 0 = .ok (.aload_n 0, 1) := by decide +kernel
theorem d_M_bad_1 : decode (xMc m_M_bad) 1 = .ok (.iload_n 1, 1) := by decide +kernel
theorem d_M_bad_2 : decode (xMc m_M_bad) 2 = .ok (.ifCond .eq 7, 3) := by decide +kernel
theorem d_M_bad_5 : decode (xMc m_M_bad) 5 = .ok (.iconst 0, 1) := by decide +kernel
theorem d_M_bad_6 : decode (xMc m_M_bad) 6 = .ok (.goto 4, 3) := by decide +kernel
theorem d_M_bad_9 : decode (xMc m_M_bad) 9 = .ok (.iconst 1, 1) := by decide +kernel
theorem d_M_bad_10 : decode (xMc m_M_bad) 10 = .ok (.putfield 64, 3) := by decide +kernel
theorem d_M_bad_13 : decode (xMc m_M_bad) 13 = .ok (.iload_n 1, 1) := by decide +kernel
theorem d_M_bad_14 : decode (xMc m_M_bad) 14 = .ok (.ifCond .ne 7, 3) := by decide +kernel
theorem d_M_bad_17 : decode (xMc m_M_bad) 17 = .ok (.iconst 1, 1) := by decide +kernel
theorem d_M_bad_18 : decode (xMc m_M_bad) 18 = .ok (.goto 4, 3) := by decide +kernel
theorem d_M_bad_21 : decode (xMc m_M_bad) 21 = .ok (.iconst 0, 1) := by decide +kernel
theorem d_M_bad_22 : decode (xMc m_M_bad) 22 = .ok (.ireturn, 1) := by decide +kernel
theorem d_M_fail_0 : decode (xMc m_M_fail) 0 = .ok (.aload_n 0, 1) := by decide +kernel
theorem d_M_fail_1 : decode (xMc m_M_fail) 1 = .ok (.iload_n 1, 1) := by decide +kernel
theorem d_M_fail_2 : decode (xMc m_M_fail) 2 = .ok (.putfield 64, 3) := by decide +kernel
theorem d_M_fail_5 : decode (xMc m_M_fail) 5 = .ok (.iconst 0, 1) := by decide +kernel
theorem d_M_fail_6 : decode (xMc m_M_fail) 6 = .ok (.ireturn, 1) := by decide +kernel
theorem d_M_worker_0 : decode (xMc m_M_worker) 0 = .ok (.aload_n 0, 1) := by decide +kernel
theorem d_M_worker_1 : decode (xMc m_M_worker) 1 = .ok (.iload_n 1, 1) := by decide +kernel
theorem d_M_worker_2 : decode (xMc m_M_worker) 2 = .ok (.iconst 0, 1) := by decide +kernel
theorem d_M_worker_3 : decode (xMc m_M_worker) 3 = .ok (.iconst 3, 1) := by decide +kernel
theorem d_M_worker_4 : decode (xMc m_M_worker) 4 = .ok (.invokestatic 67, 3) := by decide +kernel
theorem d_M_worker_7 : decode (xMc m_M_worker) 7 = .ok (.invokevirtual 71, 3) := by decide +kernel
theorem d_M_worker_10 : decode (xMc m_M_worker) 10 = .ok (.ifCond .ne 13, 3) := by decide +kernel
theorem d_M_worker_13 : decode (xMc m_M_worker) 13 = .ok (.aload_n 0, 1) := by decide +kernel
theorem d_M_worker_14 : decode (xMc m_M_worker) 14 = .ok (.getfield 28, 3) := by decide +kernel
theorem d_M_worker_17 : decode (xMc m_M_worker) 17 = .ok (.iload_n 1, 1) := by decide +kernel
theorem d_M_worker_18 : decode (xMc m_M_worker) 18 = .ok (.baload, 1) := by decide +kernel
theorem d_M_worker_19 : decode (xMc m_M_worker) 19 = .ok (.iload_n 2, 1) := by decide +kernel
theorem d_M_worker_20 : decode (xMc m_M_worker) 20 = .ok (.if_icmp .ne 4, 3) := by decide +kernel
theorem d_M_worker_23 : decode (xMc m_M_worker) 23 = .ok (.return_, 1) := by decide +kernel
theorem d_M_worker_24 : decode (xMc m_M_worker) 24 = .ok (.aload_n 0, 1) := by decide +kernel
theorem d_M_worker_25 : decode (xMc m_M_worker) 25 = .ok (.getfield 28, 3) := by decide +kernel
theorem d_M_worker_28 : decode (xMc m_M_worker) 28 = .ok (.iload_n 1, 1) := by decide +kernel
theorem d_M_worker_29 : decode (xMc m_M_worker) 29 = .ok (.iload_n 2, 1) := by decide +kernel
theorem d_M_worker_30 : decode (xMc m_M_worker) 30 = .ok (.bastore, 1) := by decide +kernel
theorem d_M_worker_31 : decode (xMc m_M_worker) 31 = .ok (.iload_n 2, 1) := by decide +kernel
theorem d_M_worker_32 : decode (xMc m_M_worker) 32 = .ok (.ifCond .eq 4, 3) := by decide +kernel
theorem d_M_worker_35 : decode (xMc m_M_worker) 35 = .ok (.return_, 1) := by decide +kernel
theorem d_M_worker_36 : decode (xMc m_M_worker) 36 = .ok (.aload_n 0, 1) := by decide +kernel
theorem d_M_worker_37 : decode (xMc m_M_worker) 37 = .ok (.getfield 19, 3) := by decide +kernel
theorem d_M_worker_40 : decode (xMc m_M_worker) 40 = .ok (.iload_n 1, 1) := by decide +kernel
theorem d_M_worker_41 : decode (xMc m_M_worker) 41 = .ok (.iconst (-1), 1) := by decide +kernel
theorem d_M_worker_42 : decode (xMc m_M_worker) 42 = .ok (.iastore, 1) := by decide +kernel
theorem d_M_worker_43 : decode (xMc m_M_worker) 43 = .ok (.aload_n 0, 1) := by decide +kernel
theorem d_M_worker_44 : decode (xMc m_M_worker) 44 = .ok (.getfield 22, 3) := by decide +kernel
theorem d_M_worker_47 : decode (xMc m_M_worker) 47 = .ok (.iload_n 1, 1) := by decide +kernel
theorem d_M_worker_48 : decode (xMc m_M_worker) 48 = .ok (.iconst 0, 1) := by decide +kernel
theorem d_M_worker_49 : decode (xMc m_M_worker) 49 = .ok (.iastore, 1) := by decide +kernel
theorem d_M_worker_50 : decode (xMc m_M_worker) 50 = .ok (.iconst 0, 1) := by decide +kernel
theorem d_M_worker_51 : decode (xMc m_M_worker) 51 = .ok (.istore_n 3, 1) := by decide +kernel
theorem d_M_worker_52 : decode (xMc m_M_worker) 52 = .ok (.iconst 0, 1) := by decide +kernel
theorem d_M_worker_53 : decode (xMc m_M_worker) 53 = .ok (.istore 4, 2) := by decide +kernel
theorem d_M_worker_55 : decode (xMc m_M_worker) 55 = .ok (.iload 4, 2) := by decide +kernel
theorem d_M_worker_57 : decode (xMc m_M_worker) 57 = .ok (.aload_n 0, 1) := by decide +kernel
theorem d_M_worker_58 : decode (xMc m_M_worker) 58 = .ok (.getfield 79, 3) := by decide +kernel
theorem d_M_worker_61 : decode (xMc m_M_worker) 61 = .ok (.if_icmp .ge 60, 3) := by decide +kernel
theorem d_M_worker_64 : decode (xMc m_M_worker) 64 = .ok (.aload_n 0, 1) := by decide +kernel
theorem d_M_worker_65 : decode (xMc m_M_worker) 65 = .ok (.getfield 75, 3) := by decide +kernel
theorem d_M_worker_68 : decode (xMc m_M_worker) 68 = .ok (.ifCond .eq 53, 3) := by decide +kernel
theorem d_M_worker_71 : decode (xMc m_M_worker) 71 = .ok (.aload_n 0, 1) := by decide +kernel
theorem d_M_worker_72 : decode (xMc m_M_worker) 72 = .ok (.getfield 32, 3) := by decide +kernel
theorem d_M_worker_75 : decode (xMc m_M_worker) 75 = .ok (.iload 4, 2) := by decide +kernel
theorem d_M_worker_77 : decode (xMc m_M_worker) 77 = .ok (.baload, 1) := by decide +kernel
theorem d_M_worker_78 : decode (xMc m_M_worker) 78 = .ok (.ifCond .eq 37, 3) := by decide +kernel
theorem d_M_worker_81 : decode (xMc m_M_worker) 81 = .ok (.aload_n 0, 1) := by decide +kernel
theorem d_M_worker_82 : decode (xMc m_M_worker) 82 = .ok (.getfield 35, 3) := by decide +kernel
theorem d_M_worker_85 : decode (xMc m_M_worker) 85 = .ok (.iload 4, 2) := by decide +kernel
theorem d_M_worker_87 : decode (xMc m_M_worker) 87 = .ok (.iaload, 1) := by decide +kernel
theorem d_M_worker_88 : decode (xMc m_M_worker) 88 = .ok (.iload_n 1, 1) := by decide +kernel
theorem d_M_worker_89 : decode (xMc m_M_worker) 89 = .ok (.if_icmp .eq 6, 3) := by decide +kernel
theorem d_M_worker_92 : decode (xMc m_M_worker) 92 = .ok (.goto 23, 3) := by decide +kernel
theorem d_M_worker_95 : decode (xMc m_M_worker) 95 = .ok (.aload_n 0, 1) := by decide +kernel
theorem d_M_worker_96 : decode (xMc m_M_worker) 96 = .ok (.getfield 32, 3) := by decide +kernel
theorem d_M_worker_99 : decode (xMc m_M_worker) 99 = .ok (.iload 4, 2) := by decide +kernel
theorem d_M_worker_101 : decode (xMc m_M_worker) 101 = .ok (.iconst 0, 1) := by decide +kernel
theorem d_M_worker_102 : decode (xMc m_M_worker) 102 = .ok (.bastore, 1) := by decide +kernel
theorem d_M_worker_103 : decode (xMc m_M_worker) 103 = .ok (.aload_n 0, 1) := by decide +kernel
theorem d_M_worker_104 : decode (xMc m_M_worker) 104 = .ok (.dup, 1) := by decide +kernel
theorem d_M_worker_105 : decode (xMc m_M_worker) 105 = .ok (.getfield 118, 3) := by decide +kernel
theorem d_M_worker_108 : decode (xMc m_M_worker) 108 = .ok (.iconst 1, 1) := by decide +kernel
theorem d_M_worker_109 : decode (xMc m_M_worker) 109 = .ok (.iadd, 1) := by decide +kernel
theorem d_M_worker_110 : decode (xMc m_M_worker) 110 = .ok (.putfield 118, 3) := by decide +kernel
theorem d_M_worker_113 : decode (xMc m_M_worker) 113 = .ok (.iconst 1, 1) := by decide +kernel
theorem d_M_worker_114 : decode (xMc m_M_worker) 114 = .ok (.istore_n 3, 1) := by decide +kernel
theorem d_M_worker_115 : decode (xMc m_M_worker) 115 = .ok (.iinc 4 1, 3) := by decide +kernel
theorem d_M_worker_118 : decode (xMc m_M_worker) 118 = .ok (.goto (-63), 3) := by decide +kernel
theorem d_M_worker_121 : decode (xMc m_M_worker) 121 = .ok (.iload_n 3, 1) := by decide +kernel
theorem d_M_worker_122 : decode (xMc m_M_worker) 122 = .ok (.ifCond .eq 8, 3) := by decide +kernel
theorem d_M_worker_125 : decode (xMc m_M_worker) 125 = .ok (.aload_n 0, 1) := by decide +kernel
theorem d_M_worker_126 : decode (xMc m_M_worker) 126 = .ok (.iconst 1, 1) := by decide +kernel
theorem d_M_worker_127 : decode (xMc m_M_worker) 127 = .ok (.invokevirtual 121, 3) := by decide +kernel
theorem d_M_worker_130 : decode (xMc m_M_worker) 130 = .ok (.return_, 1) := by decide +kernel
theorem d_M_giveUp_0 : decode (xMc m_M_giveUp) 0 = .ok (.iconst 0, 1) := by decide +kernel
theorem d_M_giveUp_1 : decode (xMc m_M_giveUp) 1 = .ok (.istore_n 2, 1) := by decide +kernel
theorem d_M_giveUp_2 : decode (xMc m_M_giveUp) 2 = .ok (.iload_n 2, 1) := by decide +kernel
theorem d_M_giveUp_3 : decode (xMc m_M_giveUp) 3 = .ok (.iconst 4, 1) := by decide +kernel
theorem d_M_giveUp_4 : decode (xMc m_M_giveUp) 4 = .ok (.if_icmp .ge 41, 3) := by decide +kernel
theorem d_M_giveUp_7 : decode (xMc m_M_giveUp) 7 = .ok (.iload_n 1, 1) := by decide +kernel
theorem d_M_giveUp_8 : decode (xMc m_M_giveUp) 8 = .ok (.ifCond .eq 17, 3) := by decide +kernel
theorem d_M_giveUp_11 : decode (xMc m_M_giveUp) 11 = .ok (.aload_n 0, 1) := by decide +kernel
theorem d_M_giveUp_12 : decode (xMc m_M_giveUp) 12 = .ok (.getfield 19, 3) := by decide +kernel
theorem d_M_giveUp_15 : decode (xMc m_M_giveUp) 15 = .ok (.iload_n 2, 1) := by decide +kernel
theorem d_M_giveUp_16 : decode (xMc m_M_giveUp) 16 = .ok (.iaload, 1) := by decide +kernel
theorem d_M_giveUp_17 : decode (xMc m_M_giveUp) 17 = .ok (.bipush 8, 2) := by decide +kernel
theorem d_M_giveUp_19 : decode (xMc m_M_giveUp) 19 = .ok (.if_icmp .ge 6, 3) := by decide +kernel
theorem d_M_giveUp_22 : decode (xMc m_M_giveUp) 22 = .ok (.goto 17, 3) := by decide +kernel
theorem d_M_giveUp_25 : decode (xMc m_M_giveUp) 25 = .ok (.aload_n 0, 1) := by decide +kernel
theorem d_M_giveUp_26 : decode (xMc m_M_giveUp) 26 = .ok (.getfield 19, 3) := by decide +kernel
theorem d_M_giveUp_29 : decode (xMc m_M_giveUp) 29 = .ok (.iload_n 2, 1) := by decide +kernel
theorem d_M_giveUp_30 : decode (xMc m_M_giveUp) 30 = .ok (.iconst (-1), 1) := by decide +kernel
theorem d_M_giveUp_31 : decode (xMc m_M_giveUp) 31 = .ok (.iastore, 1) := by decide +kernel
theorem d_M_giveUp_32 : decode (xMc m_M_giveUp) 32 = .ok (.aload_n 0, 1) := by decide +kernel
theorem d_M_giveUp_33 : decode (xMc m_M_giveUp) 33 = .ok (.getfield 22, 3) := by decide +kernel
theorem d_M_giveUp_36 : decode (xMc m_M_giveUp) 36 = .ok (.iload_n 2, 1) := by decide +kernel
theorem d_M_giveUp_37 : decode (xMc m_M_giveUp) 37 = .ok (.iconst 0, 1) := by decide +kernel
theorem d_M_giveUp_38 : decode (xMc m_M_giveUp) 38 = .ok (.iastore, 1) := by decide +kernel
theorem d_M_giveUp_39 : decode (xMc m_M_giveUp) 39 = .ok (.iinc 2 1, 3) := by decide +kernel
theorem d_M_giveUp_42 : decode (xMc m_M_giveUp) 42 = .ok (.goto (-40), 3) := by decide +kernel
theorem d_M_giveUp_45 : decode (xMc m_M_giveUp) 45 = .ok (.return_, 1) := by decide +kernel
theorem d_M_speed_0 : decode (xMc m_M_speed) 0 = .ok (.aload_n 0, 1) := by decide +kernel
theorem d_M_speed_1 : decode (xMc m_M_speed) 1 = .ok (.iload_n 1, 1) := by decide +kernel
theorem d_M_speed_2 : decode (xMc m_M_speed) 2 = .ok (.iconst 0, 1) := by decide +kernel
theorem d_M_speed_3 : decode (xMc m_M_speed) 3 = .ok (.iconst 3, 1) := by decide +kernel
theorem d_M_speed_4 : decode (xMc m_M_speed) 4 = .ok (.invokestatic 67, 3) := by decide +kernel
theorem d_M_speed_7 : decode (xMc m_M_speed) 7 = .ok (.ifCond .eq 16, 3) := by decide +kernel
theorem d_M_speed_10 : decode (xMc m_M_speed) 10 = .ok (.iload_n 2, 1) := by decide +kernel
theorem d_M_speed_11 : decode (xMc m_M_speed) 11 = .ok (.iconst 1, 1) := by decide +kernel
theorem d_M_speed_12 : decode (xMc m_M_speed) 12 = .ok (.iconst 4, 1) := by decide +kernel
theorem d_M_speed_13 : decode (xMc m_M_speed) 13 = .ok (.invokestatic 67, 3) := by decide +kernel
theorem d_M_speed_16 : decode (xMc m_M_speed) 16 = .ok (.ifCond .eq 7, 3) := by decide +kernel
theorem d_M_speed_19 : decode (xMc m_M_speed) 19 = .ok (.iconst 1, 1) := by decide +kernel
theorem d_M_speed_20 : decode (xMc m_M_speed) 20 = .ok (.goto 4, 3) := by decide +kernel
theorem d_M_speed_23 : decode (xMc m_M_speed) 23 = .ok (.iconst 0, 1) := by decide +kernel
theorem d_M_speed_24 : decode (xMc m_M_speed) 24 = .ok (.invokevirtual 71, 3) := by decide +kernel
theorem d_M_speed_27 : decode (xMc m_M_speed) 27 = .ok (.ifCond .eq 4, 3) := by decide +kernel
theorem d_M_speed_30 : decode (xMc m_M_speed) 30 = .ok (.return_, 1) := by decide +kernel
theorem d_M_speed_31 : decode (xMc m_M_speed) 31 = .ok (.aload_n 0, 1) := by decide +kernel
theorem d_M_speed_32 : decode (xMc m_M_speed) 32 = .ok (.getfield 16, 3) := by decide +kernel
theorem d_M_speed_35 : decode (xMc m_M_speed) 35 = .ok (.iload_n 1, 1) := by decide +kernel
theorem d_M_speed_36 : decode (xMc m_M_speed) 36 = .ok (.iload_n 2, 1) := by decide +kernel
theorem d_M_speed_37 : decode (xMc m_M_speed) 37 = .ok (.iastore, 1) := by decide +kernel
theorem d_M_speed_38 : decode (xMc m_M_speed) 38 = .ok (.return_, 1) := by decide +kernel
theorem d_M_filter_0 : decode (xMc m_M_filter) 0 = .ok (.aload_n 0, 1) := by decide +kernel
theorem d_M_filter_1 : decode (xMc m_M_filter) 1 = .ok (.iconst 0, 1) := by decide +kernel
theorem d_M_filter_2 : decode (xMc m_M_filter) 2 = .ok (.putfield 64, 3) := by decide +kernel
theorem d_M_filter_5 : decode (xMc m_M_filter) 5 = .ok (.aload_n 0, 1) := by decide +kernel
theorem d_M_filter_6 : decode (xMc m_M_filter) 6 = .ok (.iload_n 1, 1) := by decide +kernel
theorem d_M_filter_7 : decode (xMc m_M_filter) 7 = .ok (.putfield 48, 3) := by decide +kernel
theorem d_M_filter_10 : decode (xMc m_M_filter) 10 = .ok (.return_, 1) := by decide +kernel
theorem d_M_begin_0 : decode (xMc m_M_begin) 0 = .ok (.aload_n 0, 1) := by decide +kernel
theorem d_M_begin_1 : decode (xMc m_M_begin) 1 = .ok (.iload_n 1, 1) := by decide +kernel
theorem d_M_begin_2 : decode (xMc m_M_begin) 2 = .ok (.iconst 0, 1) := by decide +kernel
theorem d_M_begin_3 : decode (xMc m_M_begin) 3 = .ok (.iconst 4, 1) := by decide +kernel
theorem d_M_begin_4 : decode (xMc m_M_begin) 4 = .ok (.invokestatic 67, 3) := by decide +kernel
theorem d_M_begin_7 : decode (xMc m_M_begin) 7 = .ok (.ifCond .eq 36, 3) := by decide +kernel
theorem d_M_begin_10 : decode (xMc m_M_begin) 10 = .ok (.iload_n 2, 1) := by decide +kernel
theorem d_M_begin_11 : decode (xMc m_M_begin) 11 = .ok (.iconst 0, 1) := by decide +kernel
theorem d_M_begin_12 : decode (xMc m_M_begin) 12 = .ok (.iconst 4, 1) := by decide +kernel
theorem d_M_begin_13 : decode (xMc m_M_begin) 13 = .ok (.invokestatic 67, 3) := by decide +kernel
theorem d_M_begin_16 : decode (xMc m_M_begin) 16 = .ok (.ifCond .eq 27, 3) := by decide +kernel
theorem d_M_begin_19 : decode (xMc m_M_begin) 19 = .ok (.iload_n 3, 1) := by decide +kernel
theorem d_M_begin_20 : decode (xMc m_M_begin) 20 = .ok (.iconst 1, 1) := by decide +kernel
theorem d_M_begin_21 : decode (xMc m_M_begin) 21 = .ok (.iconst 3, 1) := by decide +kernel
theorem d_M_begin_22 : decode (xMc m_M_begin) 22 = .ok (.invokestatic 67, 3) := by decide +kernel
theorem d_M_begin_25 : decode (xMc m_M_begin) 25 = .ok (.ifCond .eq 18, 3) := by decide +kernel
theorem d_M_begin_28 : decode (xMc m_M_begin) 28 = .ok (.iload 4, 2) := by decide +kernel
theorem d_M_begin_30 : decode (xMc m_M_begin) 30 = .ok (.iconst 2, 1) := by decide +kernel
theorem d_M_begin_31 : decode (xMc m_M_begin) 31 = .ok (.bipush 6, 2) := by decide +kernel
theorem d_M_begin_33 : decode (xMc m_M_begin) 33 = .ok (.invokestatic 67, 3) := by decide +kernel
theorem d_M_begin_36 : decode (xMc m_M_begin) 36 = .ok (.ifCond .eq 7, 3) := by decide +kernel
theorem d_M_begin_39 : decode (xMc m_M_begin) 39 = .ok (.iconst 1, 1) := by decide +kernel
theorem d_M_begin_40 : decode (xMc m_M_begin) 40 = .ok (.goto 4, 3) := by decide +kernel
theorem d_M_begin_43 : decode (xMc m_M_begin) 43 = .ok (.iconst 0, 1) := by decide +kernel
theorem d_M_begin_44 : decode (xMc m_M_begin) 44 = .ok (.invokevirtual 71, 3) := by decide +kernel
theorem d_M_begin_47 : decode (xMc m_M_begin) 47 = .ok (.ifCond .eq 5, 3) := by decide +kernel
theorem d_M_begin_50 : decode (xMc m_M_begin) 50 = .ok (.iconst 0, 1) := by decide +kernel
theorem d_M_begin_51 : decode (xMc m_M_begin) 51 = .ok (.ireturn, 1) := by decide +kernel
theorem d_M_begin_52 : decode (xMc m_M_begin) 52 = .ok (.aload_n 0, 1) := by decide +kernel
theorem d_M_begin_53 : decode (xMc m_M_begin) 53 = .ok (.getfield 75, 3) := by decide +kernel
theorem d_M_begin_56 : decode (xMc m_M_begin) 56 = .ok (.ifCond .ne 10, 3) := by decide +kernel
theorem d_M_begin_59 : decode (xMc m_M_begin) 59 = .ok (.aload_n 0, 1) := by decide +kernel
theorem d_M_begin_60 : decode (xMc m_M_begin) 60 = .ok (.getfield 79, 3) := by decide +kernel
theorem d_M_begin_63 : decode (xMc m_M_begin) 63 = .ok (.ifCond .ne 9, 3) := by decide +kernel
theorem d_M_begin_66 : decode (xMc m_M_begin) 66 = .ok (.aload_n 0, 1) := by decide +kernel
theorem d_M_begin_67 : decode (xMc m_M_begin) 67 = .ok (.iconst 2, 1) := by decide +kernel
theorem d_M_begin_68 : decode (xMc m_M_begin) 68 = .ok (.invokevirtual 82, 3) := by decide +kernel
theorem d_M_begin_71 : decode (xMc m_M_begin) 71 = .ok (.ireturn, 1) := by decide +kernel
theorem d_M_begin_72 : decode (xMc m_M_begin) 72 = .ok (.aload_n 0, 1) := by decide +kernel
theorem d_M_begin_73 : decode (xMc m_M_begin) 73 = .ok (.iload_n 1, 1) := by decide +kernel
theorem d_M_begin_74 : decode (xMc m_M_begin) 74 = .ok (.putfield 52, 3) := by decide +kernel
theorem d_M_begin_77 : decode (xMc m_M_begin) 77 = .ok (.aload_n 0, 1) := by decide +kernel
theorem d_M_begin_78 : decode (xMc m_M_begin) 78 = .ok (.iload_n 2, 1) := by decide +kernel
theorem d_M_begin_79 : decode (xMc m_M_begin) 79 = .ok (.putfield 109, 3) := by decide +kernel
theorem d_M_begin_82 : decode (xMc m_M_begin) 82 = .ok (.aload_n 0, 1) := by decide +kernel
theorem d_M_begin_83 : decode (xMc m_M_begin) 83 = .ok (.iload_n 3, 1) := by decide +kernel
theorem d_M_begin_84 : decode (xMc m_M_begin) 84 = .ok (.putfield 103, 3) := by decide +kernel
theorem d_M_begin_87 : decode (xMc m_M_begin) 87 = .ok (.aload_n 0, 1) := by decide +kernel
theorem d_M_begin_88 : decode (xMc m_M_begin) 88 = .ok (.iload 4, 2) := by decide +kernel
theorem d_M_begin_90 : decode (xMc m_M_begin) 90 = .ok (.putfield 125, 3) := by decide +kernel
theorem d_M_begin_93 : decode (xMc m_M_begin) 93 = .ok (.aload_n 0, 1) := by decide +kernel
theorem d_M_begin_94 : decode (xMc m_M_begin) 94 = .ok (.aload_n 0, 1) := by decide +kernel
theorem d_M_begin_95 : decode (xMc m_M_begin) 95 = .ok (.getfield 48, 3) := by decide +kernel
theorem d_M_begin_98 : decode (xMc m_M_begin) 98 = .ok (.putfield 106, 3) := by decide +kernel
theorem d_M_begin_101 : decode (xMc m_M_begin) 101 = .ok (.aload_n 0, 1) := by decide +kernel
theorem d_M_begin_102 : decode (xMc m_M_begin) 102 = .ok (.invokevirtual 128, 3) := by decide +kernel
theorem d_M_begin_105 : decode (xMc m_M_begin) 105 = .ok (.aload_n 0, 1) := by decide +kernel
theorem d_M_begin_106 : decode (xMc m_M_begin) 106 = .ok (.invokevirtual 131, 3) := by decide +kernel
theorem d_M_begin_109 : decode (xMc m_M_begin) 109 = .ok (.iconst 0, 1) := by decide +kernel
theorem d_M_begin_110 : decode (xMc m_M_begin) 110 = .ok (.istore 5, 2) := by decide +kernel
theorem d_M_begin_112 : decode (xMc m_M_begin) 112 = .ok (.iload 5, 2) := by decide +kernel
theorem d_M_begin_114 : decode (xMc m_M_begin) 114 = .ok (.bipush 11, 2) := by decide +kernel
theorem d_M_begin_116 : decode (xMc m_M_begin) 116 = .ok (.if_icmp .ge 17, 3) := by decide +kernel
theorem d_M_begin_119 : decode (xMc m_M_begin) 119 = .ok (.aload_n 0, 1) := by decide +kernel
theorem d_M_begin_120 : decode (xMc m_M_begin) 120 = .ok (.getfield 32, 3) := by decide +kernel
theorem d_M_begin_123 : decode (xMc m_M_begin) 123 = .ok (.iload 5, 2) := by decide +kernel
theorem d_M_begin_125 : decode (xMc m_M_begin) 125 = .ok (.iconst 0, 1) := by decide +kernel
theorem d_M_begin_126 : decode (xMc m_M_begin) 126 = .ok (.bastore, 1) := by decide +kernel
theorem d_M_begin_127 : decode (xMc m_M_begin) 127 = .ok (.iinc 5 1, 3) := by decide +kernel
theorem d_M_begin_130 : decode (xMc m_M_begin) 130 = .ok (.goto (-18), 3) := by decide +kernel
theorem d_M_begin_133 : decode (xMc m_M_begin) 133 = .ok (.aload_n 0, 1) := by decide +kernel
theorem d_M_begin_134 : decode (xMc m_M_begin) 134 = .ok (.iconst 0, 1) := by decide +kernel
theorem d_M_begin_135 : decode (xMc m_M_begin) 135 = .ok (.invokevirtual 121, 3) := by decide +kernel
theorem d_M_begin_138 : decode (xMc m_M_begin) 138 = .ok (.aload_n 0, 1) := by decide +kernel
theorem d_M_begin_139 : decode (xMc m_M_begin) 139 = .ok (.iconst 1, 1) := by decide +kernel
theorem d_M_begin_140 : decode (xMc m_M_begin) 140 = .ok (.putfield 75, 3) := by decide +kernel
theorem d_M_begin_143 : decode (xMc m_M_begin) 143 = .ok (.aload_n 0, 1) := by decide +kernel
theorem d_M_begin_144 : decode (xMc m_M_begin) 144 = .ok (.getfield 79, 3) := by decide +kernel
theorem d_M_begin_147 : decode (xMc m_M_begin) 147 = .ok (.ireturn, 1) := by decide +kernel
theorem d_M_mapAll_0 : decode (xMc m_M_mapAll) 0 = .ok (.aload_n 0, 1) := by decide +kernel
theorem d_M_mapAll_1 : decode (xMc m_M_mapAll) 1 = .ok (.iconst 0, 1) := by decide +kernel
theorem d_M_mapAll_2 : decode (xMc m_M_mapAll) 2 = .ok (.putfield 86, 3) := by decide +kernel
theorem d_M_mapAll_5 : decode (xMc m_M_mapAll) 5 = .ok (.iconst 0, 1) := by decide +kernel
theorem d_M_mapAll_6 : decode (xMc m_M_mapAll) 6 = .ok (.istore_n 1, 1) := by decide +kernel
theorem d_M_mapAll_7 : decode (xMc m_M_mapAll) 7 = .ok (.iload_n 1, 1) := by decide +kernel
theorem d_M_mapAll_8 : decode (xMc m_M_mapAll) 8 = .ok (.aload_n 0, 1) := by decide +kernel
theorem d_M_mapAll_9 : decode (xMc m_M_mapAll) 9 = .ok (.getfield 79, 3) := by decide +kernel
theorem d_M_mapAll_12 : decode (xMc m_M_mapAll) 12 = .ok (.if_icmp .ge 59, 3) := by decide +kernel
theorem d_M_mapAll_15 : decode (xMc m_M_mapAll) 15 = .ok (.aload_n 0, 1) := by decide +kernel
theorem d_M_mapAll_16 : decode (xMc m_M_mapAll) 16 = .ok (.getfield 86, 3) := by decide +kernel
theorem d_M_mapAll_19 : decode (xMc m_M_mapAll) 19 = .ok (.istore_n 2, 1) := by decide +kernel
theorem d_M_mapAll_20 : decode (xMc m_M_mapAll) 20 = .ok (.iconst 0, 1) := by decide +kernel
theorem d_M_mapAll_21 : decode (xMc m_M_mapAll) 21 = .ok (.istore_n 3, 1) := by decide +kernel
theorem d_M_mapAll_22 : decode (xMc m_M_mapAll) 22 = .ok (.iload_n 3, 1) := by decide +kernel
theorem d_M_mapAll_23 : decode (xMc m_M_mapAll) 23 = .ok (.aload_n 0, 1) := by decide +kernel
theorem d_M_mapAll_24 : decode (xMc m_M_mapAll) 24 = .ok (.getfield 7, 3) := by decide +kernel
theorem d_M_mapAll_27 : decode (xMc m_M_mapAll) 27 = .ok (.iload_n 1, 1) := by decide +kernel
theorem d_M_mapAll_28 : decode (xMc m_M_mapAll) 28 = .ok (.iaload, 1) := by decide +kernel
theorem d_M_mapAll_29 : decode (xMc m_M_mapAll) 29 = .ok (.if_icmp .ge 24, 3) := by decide +kernel
theorem d_M_mapAll_32 : decode (xMc m_M_mapAll) 32 = .ok (.aload_n 0, 1) := by decide +kernel
theorem d_M_mapAll_33 : decode (xMc m_M_mapAll) 33 = .ok (.aload_n 0, 1) := by decide +kernel
theorem d_M_mapAll_34 : decode (xMc m_M_mapAll) 34 = .ok (.getfield 13, 3) := by decide +kernel
theorem d_M_mapAll_37 : decode (xMc m_M_mapAll) 37 = .ok (.iload_n 1, 1) := by decide +kernel
theorem d_M_mapAll_38 : decode (xMc m_M_mapAll) 38 = .ok (.bipush 6, 2) := by decide +kernel
theorem d_M_mapAll_40 : decode (xMc m_M_mapAll) 40 = .ok (.imul, 1) := by decide +kernel
theorem d_M_mapAll_41 : decode (xMc m_M_mapAll) 41 = .ok (.iload_n 3, 1) := by decide +kernel
theorem d_M_mapAll_42 : decode (xMc m_M_mapAll) 42 = .ok (.iadd, 1) := by decide +kernel
theorem d_M_mapAll_43 : decode (xMc m_M_mapAll) 43 = .ok (.iaload, 1) := by decide +kernel
theorem d_M_mapAll_44 : decode (xMc m_M_mapAll) 44 = .ok (.invokevirtual 99, 3) := by decide +kernel
theorem d_M_mapAll_47 : decode (xMc m_M_mapAll) 47 = .ok (.iinc 3 1, 3) := by decide +kernel
theorem d_M_mapAll_50 : decode (xMc m_M_mapAll) 50 = .ok (.goto (-28), 3) := by decide +kernel
theorem d_M_mapAll_53 : decode (xMc m_M_mapAll) 53 = .ok (.aload_n 0, 1) := by decide +kernel
theorem d_M_mapAll_54 : decode (xMc m_M_mapAll) 54 = .ok (.getfield 44, 3) := by decide +kernel
theorem d_M_mapAll_57 : decode (xMc m_M_mapAll) 57 = .ok (.iload_n 1, 1) := by decide +kernel
theorem d_M_mapAll_58 : decode (xMc m_M_mapAll) 58 = .ok (.aload_n 0, 1) := by decide +kernel
theorem d_M_mapAll_59 : decode (xMc m_M_mapAll) 59 = .ok (.getfield 86, 3) := by decide +kernel
theorem d_M_mapAll_62 : decode (xMc m_M_mapAll) 62 = .ok (.iload_n 2, 1) := by decide +kernel
theorem d_M_mapAll_63 : decode (xMc m_M_mapAll) 63 = .ok (.isub, 1) := by decide +kernel
theorem d_M_mapAll_64 : decode (xMc m_M_mapAll) 64 = .ok (.iastore, 1) := by decide +kernel
theorem d_M_mapAll_65 : decode (xMc m_M_mapAll) 65 = .ok (.iinc 1 1, 3) := by decide +kernel
theorem d_M_mapAll_68 : decode (xMc m_M_mapAll) 68 = .ok (.goto (-61), 3) := by decide +kernel
theorem d_M_mapAll_71 : decode (xMc m_M_mapAll) 71 = .ok (.return_, 1) := by decide +kernel
theorem d_M_map_0 : decode (xMc m_M_map) 0 = .ok (.iload_n 1, 1) := by decide +kernel
theorem d_M_map_1 : decode (xMc m_M_map) 1 = .ok (.ifCond .ge 9, 3) := by decide +kernel
theorem d_M_map_4 : decode (xMc m_M_map) 4 = .ok (.iload_n 1, 1) := by decide +kernel
theorem d_M_map_5 : decode (xMc m_M_map) 5 = .ok (.i2l, 1) := by decide +kernel
theorem d_M_map_6 : decode (xMc m_M_map) 6 = .ok (.lneg, 1) := by decide +kernel
theorem d_M_map_7 : decode (xMc m_M_map) 7 = .ok (.goto 5, 3) := by decide +kernel
theorem d_M_map_10 : decode (xMc m_M_map) 10 = .ok (.iload_n 1, 1) := by decide +kernel
theorem d_M_map_11 : decode (xMc m_M_map) 11 = .ok (.i2l, 1) := by decide +kernel
theorem d_M_map_12 : decode (xMc m_M_map) 12 = .ok (.lstore_n 2, 1) := by decide +kernel
theorem d_M_map_13 : decode (xMc m_M_map) 13 = .ok (.aload_n 0, 1) := by decide +kernel
theorem d_M_map_14 : decode (xMc m_M_map) 14 = .ok (.getfield 52, 3) := by decide +kernel
theorem d_M_map_17 : decode (xMc m_M_map) 17 = .ok (.tableswitch 100 0 3 #[31, 44, 70, 83], 31) := by decide +kernel
theorem d_M_map_48 : decode (xMc m_M_map) 48 = .ok (.aload_n 0, 1) := by decide +kernel
theorem d_M_map_49 : decode (xMc m_M_map) 49 = .ok (.iload_n 1, 1) := by decide +kernel
theorem d_M_map_50 : decode (xMc m_M_map) 50 = .ok (.iconst 5, 1) := by decide +kernel
theorem d_M_map_51 : decode (xMc m_M_map) 51 = .ok (.invokestatic 89, 3) := by decide +kernel
theorem d_M_map_54 : decode (xMc m_M_map) 54 = .ok (.iconst 1, 1) := by decide +kernel
theorem d_M_map_55 : decode (xMc m_M_map) 55 = .ok (.invokevirtual 93, 3) := by decide +kernel
theorem d_M_map_58 : decode (xMc m_M_map) 58 = .ok (.goto 91, 3) := by decide +kernel
theorem d_M_map_61 : decode (xMc m_M_map) 61 = .ok (.aload_n 0, 1) := by decide +kernel
theorem d_M_map_62 : decode (xMc m_M_map) 62 = .ok (.lload_n 2, 1) := by decide +kernel
theorem d_M_map_63 : decode (xMc m_M_map) 63 = .ok (.ldc2_w 97, 3) := by decide +kernel
theorem d_M_map_66 : decode (xMc m_M_map) 66 = .ok (.lrem, 1) := by decide +kernel
theorem d_M_map_67 : decode (xMc m_M_map) 67 = .ok (.l2i, 1) := by decide +kernel
theorem d_M_map_68 : decode (xMc m_M_map) 68 = .ok (.iconst 1, 1) := by decide +kernel
theorem d_M_map_69 : decode (xMc m_M_map) 69 = .ok (.invokevirtual 93, 3) := by decide +kernel
theorem d_M_map_72 : decode (xMc m_M_map) 72 = .ok (.lload_n 2, 1) := by decide +kernel
theorem d_M_map_73 : decode (xMc m_M_map) 73 = .ok (.ldc2_w 97, 3) := by decide +kernel
theorem d_M_map_76 : decode (xMc m_M_map) 76 = .ok (.ldiv, 1) := by decide +kernel
theorem d_M_map_77 : decode (xMc m_M_map) 77 = .ok (.lstore_n 2, 1) := by decide +kernel
theorem d_M_map_78 : decode (xMc m_M_map) 78 = .ok (.lload_n 2, 1) := by decide +kernel
theorem d_M_map_79 : decode (xMc m_M_map) 79 = .ok (.lconst 0, 1) := by decide +kernel
theorem d_M_map_80 : decode (xMc m_M_map) 80 = .ok (.lcmp, 1) := by decide +kernel
theorem d_M_map_81 : decode (xMc m_M_map) 81 = .ok (.ifCond .gt (-20), 3) := by decide +kernel
theorem d_M_map_84 : decode (xMc m_M_map) 84 = .ok (.goto 65, 3) := by decide +kernel
theorem d_M_map_87 : decode (xMc m_M_map) 87 = .ok (.aload_n 0, 1) := by decide +kernel
theorem d_M_map_88 : decode (xMc m_M_map) 88 = .ok (.iload_n 1, 1) := by decide +kernel
theorem d_M_map_89 : decode (xMc m_M_map) 89 = .ok (.iconst 3, 1) := by decide +kernel
theorem d_M_map_90 : decode (xMc m_M_map) 90 = .ok (.invokestatic 89, 3) := by decide +kernel
theorem d_M_map_93 : decode (xMc m_M_map) 93 = .ok (.iload_n 1, 1) := by decide +kernel
theorem d_M_map_94 : decode (xMc m_M_map) 94 = .ok (.invokevirtual 93, 3) := by decide +kernel
theorem d_M_map_97 : decode (xMc m_M_map) 97 = .ok (.goto 52, 3) := by decide +kernel
theorem d_M_map_100 : decode (xMc m_M_map) 100 = .ok (.iload_n 1, 1) := by decide +kernel
theorem d_M_map_101 : decode (xMc m_M_map) 101 = .ok (.iconst 2, 1) := by decide +kernel
theorem d_M_map_102 : decode (xMc m_M_map) 102 = .ok (.irem, 1) := by decide +kernel
theorem d_M_map_103 : decode (xMc m_M_map) 103 = .ok (.ifCond .ne 46, 3) := by decide +kernel
theorem d_M_map_106 : decode (xMc m_M_map) 106 = .ok (.aload_n 0, 1) := by decide +kernel
theorem d_M_map_107 : decode (xMc m_M_map) 107 = .ok (.iload_n 1, 1) := by decide +kernel
theorem d_M_map_108 : decode (xMc m_M_map) 108 = .ok (.iconst 2, 1) := by decide +kernel
theorem d_M_map_109 : decode (xMc m_M_map) 109 = .ok (.idiv, 1) := by decide +kernel
theorem d_M_map_110 : decode (xMc m_M_map) 110 = .ok (.iload_n 1, 1) := by decide +kernel
theorem d_M_map_111 : decode (xMc m_M_map) 111 = .ok (.invokevirtual 93, 3) := by decide +kernel
theorem d_M_map_114 : decode (xMc m_M_map) 114 = .ok (.goto 35, 3) := by decide +kernel
theorem d_M_map_117 : decode (xMc m_M_map) 117 = .ok (.aload_n 0, 1) := by decide +kernel
theorem d_M_map_118 : decode (xMc m_M_map) 118 = .ok (.iload_n 1, 1) := by decide +kernel
theorem d_M_map_119 : decode (xMc m_M_map) 119 = .ok (.ifCond .ge 7, 3) := by decide +kernel
theorem d_M_map_122 : decode (xMc m_M_map) 122 = .ok (.iconst (-1), 1) := by decide +kernel
theorem d_M_map_123 : decode (xMc m_M_map) 123 = .ok (.goto 12, 3) := by decide +kernel
theorem d_M_map_126 : decode (xMc m_M_map) 126 = .ok (.iload_n 1, 1) := by decide +kernel
theorem d_M_map_127 : decode (xMc m_M_map) 127 = .ok (.ifCond .le 7, 3) := by decide +kernel
theorem d_M_map_130 : decode (xMc m_M_map) 130 = .ok (.iconst 1, 1) := by decide +kernel
theorem d_M_map_131 : decode (xMc m_M_map) 131 = .ok (.goto 4, 3) := by decide +kernel
theorem d_M_map_134 : decode (xMc m_M_map) 134 = .ok (.iconst 0, 1) := by decide +kernel
theorem d_M_map_135 : decode (xMc m_M_map) 135 = .ok (.iload_n 1, 1) := by decide +kernel
theorem d_M_map_136 : decode (xMc m_M_map) 136 = .ok (.invokevirtual 93, 3) := by decide +kernel
theorem d_M_map_139 : decode (xMc m_M_map) 139 = .ok (.iload_n 1, 1) := by decide +kernel
theorem d_M_map_140 : decode (xMc m_M_map) 140 = .ok (.ifCond .eq 9, 3) := by decide +kernel
theorem d_M_map_143 : decode (xMc m_M_map) 143 = .ok (.aload_n 0, 1) := by decide +kernel
theorem d_M_map_144 : decode (xMc m_M_map) 144 = .ok (.iconst 2, 1) := by decide +kernel
theorem d_M_map_145 : decode (xMc m_M_map) 145 = .ok (.iconst 1, 1) := by decide +kernel
theorem d_M_map_146 : decode (xMc m_M_map) 146 = .ok (.invokevirtual 93, 3) := by decide +kernel
theorem d_M_map_149 : decode (xMc m_M_map) 149 = .ok (.return_, 1) := by decide +kernel
theorem d_M_modulo_0 : decode (xMc m_M_modulo) 0 = .ok (.iload_n 0, 1) := by decide +kernel
theorem d_M_modulo_1 : decode (xMc m_M_modulo) 1 = .ok (.iload_n 1, 1) := by decide +kernel
theorem d_M_modulo_2 : decode (xMc m_M_modulo) 2 = .ok (.irem, 1) := by decide +kernel
theorem d_M_modulo_3 : decode (xMc m_M_modulo) 3 = .ok (.iload_n 1, 1) := by decide +kernel
theorem d_M_modulo_4 : decode (xMc m_M_modulo) 4 = .ok (.iadd, 1) := by decide +kernel
theorem d_M_modulo_5 : decode (xMc m_M_modulo) 5 = .ok (.iload_n 1, 1) := by decide +kernel
theorem d_M_modulo_6 : decode (xMc m_M_modulo) 6 = .ok (.irem, 1) := by decide +kernel
theorem d_M_modulo_7 : decode (xMc m_M_modulo) 7 = .ok (.ireturn, 1) := by decide +kernel
theorem d_M_pair_0 : decode (xMc m_M_pair) 0 = .ok (.aload_n 0, 1) := by decide +kernel
theorem d_M_pair_1 : decode (xMc m_M_pair) 1 = .ok (.getfield 38, 3) := by decide +kernel
theorem d_M_pair_4 : decode (xMc m_M_pair) 4 = .ok (.aload_n 0, 1) := by decide +kernel
theorem d_M_pair_5 : decode (xMc m_M_pair) 5 = .ok (.getfield 86, 3) := by decide +kernel
theorem d_M_pair_8 : decode (xMc m_M_pair) 8 = .ok (.iload_n 1, 1) := by decide +kernel
theorem d_M_pair_9 : decode (xMc m_M_pair) 9 = .ok (.iastore, 1) := by decide +kernel
theorem d_M_pair_10 : decode (xMc m_M_pair) 10 = .ok (.aload_n 0, 1) := by decide +kernel
theorem d_M_pair_11 : decode (xMc m_M_pair) 11 = .ok (.getfield 41, 3) := by decide +kernel
theorem d_M_pair_14 : decode (xMc m_M_pair) 14 = .ok (.aload_n 0, 1) := by decide +kernel
theorem d_M_pair_15 : decode (xMc m_M_pair) 15 = .ok (.getfield 86, 3) := by decide +kernel
theorem d_M_pair_18 : decode (xMc m_M_pair) 18 = .ok (.iload_n 2, 1) := by decide +kernel
theorem d_M_pair_19 : decode (xMc m_M_pair) 19 = .ok (.iastore, 1) := by decide +kernel
theorem d_M_pair_20 : decode (xMc m_M_pair) 20 = .ok (.aload_n 0, 1) := by decide +kernel
theorem d_M_pair_21 : decode (xMc m_M_pair) 21 = .ok (.dup, 1) := by decide +kernel
theorem d_M_pair_22 : decode (xMc m_M_pair) 22 = .ok (.getfield 86, 3) := by decide +kernel
theorem d_M_pair_25 : decode (xMc m_M_pair) 25 = .ok (.iconst 1, 1) := by decide +kernel
theorem d_M_pair_26 : decode (xMc m_M_pair) 26 = .ok (.iadd, 1) := by decide +kernel
theorem d_M_pair_27 : decode (xMc m_M_pair) 27 = .ok (.putfield 86, 3) := by decide +kernel
theorem d_M_pair_30 : decode (xMc m_M_pair) 30 = .ok (.return_, 1) := by decide +kernel
theorem d_M_sort_0 : decode (xMc m_M_sort) 0 = .ok (.iconst 1, 1) := by decide +kernel
theorem d_M_sort_1 : decode (xMc m_M_sort) 1 = .ok (.istore_n 1, 1) := by decide +kernel
theorem d_M_sort_2 : decode (xMc m_M_sort) 2 = .ok (.iload_n 1, 1) := by decide +kernel
theorem d_M_sort_3 : decode (xMc m_M_sort) 3 = .ok (.aload_n 0, 1) := by decide +kernel
theorem d_M_sort_4 : decode (xMc m_M_sort) 4 = .ok (.getfield 86, 3) := by decide +kernel
theorem d_M_sort_7 : decode (xMc m_M_sort) 7 = .ok (.if_icmp .ge 98, 3) := by decide +kernel
theorem d_M_sort_10 : decode (xMc m_M_sort) 10 = .ok (.aload_n 0, 1) := by decide +kernel
theorem d_M_sort_11 : decode (xMc m_M_sort) 11 = .ok (.getfield 38, 3) := by decide +kernel
theorem d_M_sort_14 : decode (xMc m_M_sort) 14 = .ok (.iload_n 1, 1) := by decide +kernel
theorem d_M_sort_15 : decode (xMc m_M_sort) 15 = .ok (.iaload, 1) := by decide +kernel
theorem d_M_sort_16 : decode (xMc m_M_sort) 16 = .ok (.istore_n 2, 1) := by decide +kernel
theorem d_M_sort_17 : decode (xMc m_M_sort) 17 = .ok (.aload_n 0, 1) := by decide +kernel
theorem d_M_sort_18 : decode (xMc m_M_sort) 18 = .ok (.getfield 41, 3) := by decide +kernel
theorem d_M_sort_21 : decode (xMc m_M_sort) 21 = .ok (.iload_n 1, 1) := by decide +kernel
theorem d_M_sort_22 : decode (xMc m_M_sort) 22 = .ok (.iaload, 1) := by decide +kernel
theorem d_M_sort_23 : decode (xMc m_M_sort) 23 = .ok (.istore_n 3, 1) := by decide +kernel
theorem d_M_sort_24 : decode (xMc m_M_sort) 24 = .ok (.iload_n 1, 1) := by decide +kernel
theorem d_M_sort_25 : decode (xMc m_M_sort) 25 = .ok (.istore 4, 2) := by decide +kernel
theorem d_M_sort_27 : decode (xMc m_M_sort) 27 = .ok (.iload 4, 2) := by decide +kernel
theorem d_M_sort_29 : decode (xMc m_M_sort) 29 = .ok (.ifCond .le 54, 3) := by decide +kernel
theorem d_M_sort_32 : decode (xMc m_M_sort) 32 = .ok (.aload_n 0, 1) := by decide +kernel
theorem d_M_sort_33 : decode (xMc m_M_sort) 33 = .ok (.getfield 38, 3) := by decide +kernel
theorem d_M_sort_36 : decode (xMc m_M_sort) 36 = .ok (.iload 4, 2) := by decide +kernel
theorem d_M_sort_38 : decode (xMc m_M_sort) 38 = .ok (.iconst 1, 1) := by decide +kernel
theorem d_M_sort_39 : decode (xMc m_M_sort) 39 = .ok (.isub, 1) := by decide +kernel
theorem d_M_sort_40 : decode (xMc m_M_sort) 40 = .ok (.iaload, 1) := by decide +kernel
theorem d_M_sort_41 : decode (xMc m_M_sort) 41 = .ok (.iload_n 2, 1) := by decide +kernel
theorem d_M_sort_42 : decode (xMc m_M_sort) 42 = .ok (.if_icmp .le 41, 3) := by decide +kernel
theorem d_M_sort_45 : decode (xMc m_M_sort) 45 = .ok (.aload_n 0, 1) := by decide +kernel
theorem d_M_sort_46 : decode (xMc m_M_sort) 46 = .ok (.getfield 38, 3) := by decide +kernel
theorem d_M_sort_49 : decode (xMc m_M_sort) 49 = .ok (.iload 4, 2) := by decide +kernel
theorem d_M_sort_51 : decode (xMc m_M_sort) 51 = .ok (.aload_n 0, 1) := by decide +kernel
theorem d_M_sort_52 : decode (xMc m_M_sort) 52 = .ok (.getfield 38, 3) := by decide +kernel
theorem d_M_sort_55 : decode (xMc m_M_sort) 55 = .ok (.iload 4, 2) := by decide +kernel
theorem d_M_sort_57 : decode (xMc m_M_sort) 57 = .ok (.iconst 1, 1) := by decide +kernel
theorem d_M_sort_58 : decode (xMc m_M_sort) 58 = .ok (.isub, 1) := by decide +kernel
theorem d_M_sort_59 : decode (xMc m_M_sort) 59 = .ok (.iaload, 1) := by decide +kernel
theorem d_M_sort_60 : decode (xMc m_M_sort) 60 = .ok (.iastore, 1) := by decide +kernel
theorem d_M_sort_61 : decode (xMc m_M_sort) 61 = .ok (.aload_n 0, 1) := by decide +kernel
theorem d_M_sort_62 : decode (xMc m_M_sort) 62 = .ok (.getfield 41, 3) := by decide +kernel
theorem d_M_sort_65 : decode (xMc m_M_sort) 65 = .ok (.iload 4, 2) := by decide +kernel
theorem d_M_sort_67 : decode (xMc m_M_sort) 67 = .ok (.aload_n 0, 1) := by decide +kernel
theorem d_M_sort_68 : decode (xMc m_M_sort) 68 = .ok (.getfield 41, 3) := by decide +kernel
theorem d_M_sort_71 : decode (xMc m_M_sort) 71 = .ok (.iload 4, 2) := by decide +kernel
theorem d_M_sort_73 : decode (xMc m_M_sort) 73 = .ok (.iconst 1, 1) := by decide +kernel
theorem d_M_sort_74 : decode (xMc m_M_sort) 74 = .ok (.isub, 1) := by decide +kernel
theorem d_M_sort_75 : decode (xMc m_M_sort) 75 = .ok (.iaload, 1) := by decide +kernel
theorem d_M_sort_76 : decode (xMc m_M_sort) 76 = .ok (.iastore, 1) := by decide +kernel
theorem d_M_sort_77 : decode (xMc m_M_sort) 77 = .ok (.iinc 4 (-1), 3) := by decide +kernel
theorem d_M_sort_80 : decode (xMc m_M_sort) 80 = .ok (.goto (-53), 3) := by decide +kernel
theorem d_M_sort_83 : decode (xMc m_M_sort) 83 = .ok (.aload_n 0, 1) := by decide +kernel
theorem d_M_sort_84 : decode (xMc m_M_sort) 84 = .ok (.getfield 38, 3) := by decide +kernel
theorem d_M_sort_87 : decode (xMc m_M_sort) 87 = .ok (.iload 4, 2) := by decide +kernel
theorem d_M_sort_89 : decode (xMc m_M_sort) 89 = .ok (.iload_n 2, 1) := by decide +kernel
theorem d_M_sort_90 : decode (xMc m_M_sort) 90 = .ok (.iastore, 1) := by decide +kernel
theorem d_M_sort_91 : decode (xMc m_M_sort) 91 = .ok (.aload_n 0, 1) := by decide +kernel
theorem d_M_sort_92 : decode (xMc m_M_sort) 92 = .ok (.getfield 41, 3) := by decide +kernel
theorem d_M_sort_95 : decode (xMc m_M_sort) 95 = .ok (.iload 4, 2) := by decide +kernel
theorem d_M_sort_97 : decode (xMc m_M_sort) 97 = .ok (.iload_n 3, 1) := by decide +kernel
theorem d_M_sort_98 : decode (xMc m_M_sort) 98 = .ok (.iastore, 1) := by decide +kernel
theorem d_M_sort_99 : decode (xMc m_M_sort) 99 = .ok (.iinc 1 1, 3) := by decide +kernel
theorem d_M_sort_102 : decode (xMc m_M_sort) 102 = .ok (.goto (-100), 3) := by decide +kernel
theorem d_M_sort_105 : decode (xMc m_M_sort) 105 = .ok (.return_, 1) := by decide +kernel
theorem d_M_run_0 : decode (xMc m_M_run) 0 = .ok (.aload_n 0, 1) := by decide +kernel
theorem d_M_run_1 : decode (xMc m_M_run) 1 = .ok (.iload_n 1, 1) := by decide +kernel
theorem d_M_run_2 : decode (xMc m_M_run) 2 = .ok (.iconst 1, 1) := by decide +kernel
theorem d_M_run_3 : decode (xMc m_M_run) 3 = .ok (.bipush 100, 2) := by decide +kernel
theorem d_M_run_5 : decode (xMc m_M_run) 5 = .ok (.invokestatic 67, 3) := by decide +kernel
theorem d_M_run_8 : decode (xMc m_M_run) 8 = .ok (.invokevirtual 71, 3) := by decide +kernel
theorem d_M_run_11 : decode (xMc m_M_run) 11 = .ok (.ifCond .eq 5, 3) := by decide +kernel
theorem d_M_run_14 : decode (xMc m_M_run) 14 = .ok (.iconst 0, 1) := by decide +kernel
theorem d_M_run_15 : decode (xMc m_M_run) 15 = .ok (.ireturn, 1) := by decide +kernel
theorem d_M_run_16 : decode (xMc m_M_run) 16 = .ok (.aload_n 0, 1) := by decide +kernel
theorem d_M_run_17 : decode (xMc m_M_run) 17 = .ok (.getfield 75, 3) := by decide +kernel
theorem d_M_run_20 : decode (xMc m_M_run) 20 = .ok (.ifCond .ne 9, 3) := by decide +kernel
theorem d_M_run_23 : decode (xMc m_M_run) 23 = .ok (.aload_n 0, 1) := by decide +kernel
theorem d_M_run_24 : decode (xMc m_M_run) 24 = .ok (.iconst 2, 1) := by decide +kernel
theorem d_M_run_25 : decode (xMc m_M_run) 25 = .ok (.invokevirtual 82, 3) := by decide +kernel
theorem d_M_run_28 : decode (xMc m_M_run) 28 = .ok (.ireturn, 1) := by decide +kernel
theorem d_M_run_29 : decode (xMc m_M_run) 29 = .ok (.iconst 0, 1) := by decide +kernel
theorem d_M_run_30 : decode (xMc m_M_run) 30 = .ok (.istore_n 2, 1) := by decide +kernel
theorem d_M_run_31 : decode (xMc m_M_run) 31 = .ok (.iload_n 2, 1) := by decide +kernel
theorem d_M_run_32 : decode (xMc m_M_run) 32 = .ok (.iload_n 1, 1) := by decide +kernel
theorem d_M_run_33 : decode (xMc m_M_run) 33 = .ok (.if_icmp .ge 27, 3) := by decide +kernel
theorem d_M_run_36 : decode (xMc m_M_run) 36 = .ok (.aload_n 0, 1) := by decide +kernel
theorem d_M_run_37 : decode (xMc m_M_run) 37 = .ok (.getfield 75, 3) := by decide +kernel
theorem d_M_run_40 : decode (xMc m_M_run) 40 = .ok (.ifCond .eq 20, 3) := by decide +kernel
theorem d_M_run_43 : decode (xMc m_M_run) 43 = .ok (.aload_n 0, 1) := by decide +kernel
theorem d_M_run_44 : decode (xMc m_M_run) 44 = .ok (.getfield 64, 3) := by decide +kernel
theorem d_M_run_47 : decode (xMc m_M_run) 47 = .ok (.ifCond .ne 13, 3) := by decide +kernel
theorem d_M_run_50 : decode (xMc m_M_run) 50 = .ok (.aload_n 0, 1) := by decide +kernel
theorem d_M_run_51 : decode (xMc m_M_run) 51 = .ok (.invokevirtual 182, 3) := by decide +kernel
theorem d_M_run_54 : decode (xMc m_M_run) 54 = .ok (.iinc 2 1, 3) := by decide +kernel
theorem d_M_run_57 : decode (xMc m_M_run) 57 = .ok (.goto (-26), 3) := by decide +kernel
theorem d_M_run_60 : decode (xMc m_M_run) 60 = .ok (.aload_n 0, 1) := by decide +kernel
theorem d_M_run_61 : decode (xMc m_M_run) 61 = .ok (.getfield 64, 3) := by decide +kernel
theorem d_M_run_64 : decode (xMc m_M_run) 64 = .ok (.ifCond .le 7, 3) := by decide +kernel
theorem d_M_run_67 : decode (xMc m_M_run) 67 = .ok (.iconst 0, 1) := by decide +kernel
theorem d_M_run_68 : decode (xMc m_M_run) 68 = .ok (.goto 4, 3) := by decide +kernel
theorem d_M_run_71 : decode (xMc m_M_run) 71 = .ok (.iload_n 2, 1) := by decide +kernel
theorem d_M_run_72 : decode (xMc m_M_run) 72 = .ok (.ireturn, 1) := by decide +kernel
theorem d_M_tick_0 : decode (xMc m_M_tick) 0 = .ok (.iconst 0, 1) := by decide +kernel
theorem d_M_tick_1 : decode (xMc m_M_tick) 1 = .ok (.istore_n 1, 1) := by decide +kernel
theorem d_M_tick_2 : decode (xMc m_M_tick) 2 = .ok (.aload_n 0, 1) := by decide +kernel
theorem d_M_tick_3 : decode (xMc m_M_tick) 3 = .ok (.dup, 1) := by decide +kernel
theorem d_M_tick_4 : decode (xMc m_M_tick) 4 = .ok (.getfield 170, 3) := by decide +kernel
theorem d_M_tick_7 : decode (xMc m_M_tick) 7 = .ok (.iconst 1, 1) := by decide +kernel
theorem d_M_tick_8 : decode (xMc m_M_tick) 8 = .ok (.iadd, 1) := by decide +kernel
theorem d_M_tick_9 : decode (xMc m_M_tick) 9 = .ok (.putfield 170, 3) := by decide +kernel
theorem d_M_tick_12 : decode (xMc m_M_tick) 12 = .ok (.iconst 0, 1) := by decide +kernel
theorem d_M_tick_13 : decode (xMc m_M_tick) 13 = .ok (.istore_n 2, 1) := by decide +kernel
theorem d_M_tick_14 : decode (xMc m_M_tick) 14 = .ok (.iload_n 2, 1) := by decide +kernel
theorem d_M_tick_15 : decode (xMc m_M_tick) 15 = .ok (.iconst 4, 1) := by decide +kernel
theorem d_M_tick_16 : decode (xMc m_M_tick) 16 = .ok (.if_icmp .ge 124, 3) := by decide +kernel
theorem d_M_tick_19 : decode (xMc m_M_tick) 19 = .ok (.aload_n 0, 1) := by decide +kernel
theorem d_M_tick_20 : decode (xMc m_M_tick) 20 = .ok (.getfield 64, 3) := by decide +kernel
theorem d_M_tick_23 : decode (xMc m_M_tick) 23 = .ok (.ifCond .ne 117, 3) := by decide +kernel
theorem d_M_tick_26 : decode (xMc m_M_tick) 26 = .ok (.aload_n 0, 1) := by decide +kernel
theorem d_M_tick_27 : decode (xMc m_M_tick) 27 = .ok (.getfield 28, 3) := by decide +kernel
theorem d_M_tick_30 : decode (xMc m_M_tick) 30 = .ok (.iload_n 2, 1) := by decide +kernel
theorem d_M_tick_31 : decode (xMc m_M_tick) 31 = .ok (.baload, 1) := by decide +kernel
theorem d_M_tick_32 : decode (xMc m_M_tick) 32 = .ok (.ifCond .ne 6, 3) := by decide +kernel
theorem d_M_tick_35 : decode (xMc m_M_tick) 35 = .ok (.goto 99, 3) := by decide +kernel
theorem d_M_tick_38 : decode (xMc m_M_tick) 38 = .ok (.aload_n 0, 1) := by decide +kernel
theorem d_M_tick_39 : decode (xMc m_M_tick) 39 = .ok (.getfield 19, 3) := by decide +kernel
theorem d_M_tick_42 : decode (xMc m_M_tick) 42 = .ok (.iload_n 2, 1) := by decide +kernel
theorem d_M_tick_43 : decode (xMc m_M_tick) 43 = .ok (.iaload, 1) := by decide +kernel
theorem d_M_tick_44 : decode (xMc m_M_tick) 44 = .ok (.ifCond .ge 8, 3) := by decide +kernel
theorem d_M_tick_47 : decode (xMc m_M_tick) 47 = .ok (.aload_n 0, 1) := by decide +kernel
theorem d_M_tick_48 : decode (xMc m_M_tick) 48 = .ok (.iload_n 2, 1) := by decide +kernel
theorem d_M_tick_49 : decode (xMc m_M_tick) 49 = .ok (.invokevirtual 173, 3) := by decide +kernel
theorem d_M_tick_52 : decode (xMc m_M_tick) 52 = .ok (.aload_n 0, 1) := by decide +kernel
theorem d_M_tick_53 : decode (xMc m_M_tick) 53 = .ok (.getfield 19, 3) := by decide +kernel
theorem d_M_tick_56 : decode (xMc m_M_tick) 56 = .ok (.iload_n 2, 1) := by decide +kernel
theorem d_M_tick_57 : decode (xMc m_M_tick) 57 = .ok (.iaload, 1) := by decide +kernel
theorem d_M_tick_58 : decode (xMc m_M_tick) 58 = .ok (.ifCond .ge 6, 3) := by decide +kernel
theorem d_M_tick_61 : decode (xMc m_M_tick) 61 = .ok (.goto 73, 3) := by decide +kernel
theorem d_M_tick_64 : decode (xMc m_M_tick) 64 = .ok (.aload_n 0, 1) := by decide +kernel
theorem d_M_tick_65 : decode (xMc m_M_tick) 65 = .ok (.getfield 16, 3) := by decide +kernel
theorem d_M_tick_68 : decode (xMc m_M_tick) 68 = .ok (.iload_n 2, 1) := by decide +kernel
theorem d_M_tick_69 : decode (xMc m_M_tick) 69 = .ok (.iaload, 1) := by decide +kernel
theorem d_M_tick_70 : decode (xMc m_M_tick) 70 = .ok (.aload_n 0, 1) := by decide +kernel
theorem d_M_tick_71 : decode (xMc m_M_tick) 71 = .ok (.getfield 22, 3) := by decide +kernel
theorem d_M_tick_74 : decode (xMc m_M_tick) 74 = .ok (.iload_n 2, 1) := by decide +kernel
theorem d_M_tick_75 : decode (xMc m_M_tick) 75 = .ok (.iaload, 1) := by decide +kernel
theorem d_M_tick_76 : decode (xMc m_M_tick) 76 = .ok (.if_icmp .ge 12, 3) := by decide +kernel
theorem d_M_tick_79 : decode (xMc m_M_tick) 79 = .ok (.aload_n 0, 1) := by decide +kernel
theorem d_M_tick_80 : decode (xMc m_M_tick) 80 = .ok (.getfield 16, 3) := by decide +kernel
theorem d_M_tick_83 : decode (xMc m_M_tick) 83 = .ok (.iload_n 2, 1) := by decide +kernel
theorem d_M_tick_84 : decode (xMc m_M_tick) 84 = .ok (.iaload, 1) := by decide +kernel
theorem d_M_tick_85 : decode (xMc m_M_tick) 85 = .ok (.goto 9, 3) := by decide +kernel
theorem d_M_tick_88 : decode (xMc m_M_tick) 88 = .ok (.aload_n 0, 1) := by decide +kernel
theorem d_M_tick_89 : decode (xMc m_M_tick) 89 = .ok (.getfield 22, 3) := by decide +kernel
theorem d_M_tick_92 : decode (xMc m_M_tick) 92 = .ok (.iload_n 2, 1) := by decide +kernel
theorem d_M_tick_93 : decode (xMc m_M_tick) 93 = .ok (.iaload, 1) := by decide +kernel
theorem d_M_tick_94 : decode (xMc m_M_tick) 94 = .ok (.istore_n 3, 1) := by decide +kernel
theorem d_M_tick_95 : decode (xMc m_M_tick) 95 = .ok (.aload_n 0, 1) := by decide +kernel
theorem d_M_tick_96 : decode (xMc m_M_tick) 96 = .ok (.getfield 22, 3) := by decide +kernel
theorem d_M_tick_99 : decode (xMc m_M_tick) 99 = .ok (.iload_n 2, 1) := by decide +kernel
theorem d_M_tick_100 : decode (xMc m_M_tick) 100 = .ok (.dup2, 1) := by decide +kernel
theorem d_M_tick_101 : decode (xMc m_M_tick) 101 = .ok (.iaload, 1) := by decide +kernel
theorem d_M_tick_102 : decode (xMc m_M_tick) 102 = .ok (.iload_n 3, 1) := by decide +kernel
theorem d_M_tick_103 : decode (xMc m_M_tick) 103 = .ok (.isub, 1) := by decide +kernel
theorem d_M_tick_104 : decode (xMc m_M_tick) 104 = .ok (.iastore, 1) := by decide +kernel
theorem d_M_tick_105 : decode (xMc m_M_tick) 105 = .ok (.aload_n 0, 1) := by decide +kernel
theorem d_M_tick_106 : decode (xMc m_M_tick) 106 = .ok (.getfield 25, 3) := by decide +kernel
theorem d_M_tick_109 : decode (xMc m_M_tick) 109 = .ok (.iload_n 2, 1) := by decide +kernel
theorem d_M_tick_110 : decode (xMc m_M_tick) 110 = .ok (.dup2, 1) := by decide +kernel
theorem d_M_tick_111 : decode (xMc m_M_tick) 111 = .ok (.iaload, 1) := by decide +kernel
theorem d_M_tick_112 : decode (xMc m_M_tick) 112 = .ok (.iload_n 3, 1) := by decide +kernel
theorem d_M_tick_113 : decode (xMc m_M_tick) 113 = .ok (.iadd, 1) := by decide +kernel
theorem d_M_tick_114 : decode (xMc m_M_tick) 114 = .ok (.iastore, 1) := by decide +kernel
theorem d_M_tick_115 : decode (xMc m_M_tick) 115 = .ok (.aload_n 0, 1) := by decide +kernel
theorem d_M_tick_116 : decode (xMc m_M_tick) 116 = .ok (.getfield 22, 3) := by decide +kernel
theorem d_M_tick_119 : decode (xMc m_M_tick) 119 = .ok (.iload_n 2, 1) := by decide +kernel
theorem d_M_tick_120 : decode (xMc m_M_tick) 120 = .ok (.iaload, 1) := by decide +kernel
theorem d_M_tick_121 : decode (xMc m_M_tick) 121 = .ok (.ifCond .le 6, 3) := by decide +kernel
theorem d_M_tick_124 : decode (xMc m_M_tick) 124 = .ok (.goto 10, 3) := by decide +kernel
theorem d_M_tick_127 : decode (xMc m_M_tick) 127 = .ok (.iconst 1, 1) := by decide +kernel
theorem d_M_tick_128 : decode (xMc m_M_tick) 128 = .ok (.istore_n 1, 1) := by decide +kernel
theorem d_M_tick_129 : decode (xMc m_M_tick) 129 = .ok (.aload_n 0, 1) := by decide +kernel
theorem d_M_tick_130 : decode (xMc m_M_tick) 130 = .ok (.iload_n 2, 1) := by decide +kernel
theorem d_M_tick_131 : decode (xMc m_M_tick) 131 = .ok (.invokevirtual 176, 3) := by decide +kernel
theorem d_M_tick_134 : decode (xMc m_M_tick) 134 = .ok (.iinc 2 1, 3) := by decide +kernel
theorem d_M_tick_137 : decode (xMc m_M_tick) 137 = .ok (.goto (-123), 3) := by decide +kernel
theorem d_M_tick_140 : decode (xMc m_M_tick) 140 = .ok (.aload_n 0, 1) := by decide +kernel
theorem d_M_tick_141 : decode (xMc m_M_tick) 141 = .ok (.getfield 64, 3) := by decide +kernel
theorem d_M_tick_144 : decode (xMc m_M_tick) 144 = .ok (.ifCond .le 4, 3) := by decide +kernel
theorem d_M_tick_147 : decode (xMc m_M_tick) 147 = .ok (.return_, 1) := by decide +kernel
theorem d_M_tick_148 : decode (xMc m_M_tick) 148 = .ok (.aload_n 0, 1) := by decide +kernel
theorem d_M_tick_149 : decode (xMc m_M_tick) 149 = .ok (.invokevirtual 140, 3) := by decide +kernel
theorem d_M_tick_152 : decode (xMc m_M_tick) 152 = .ok (.istore_n 2, 1) := by decide +kernel
theorem d_M_tick_153 : decode (xMc m_M_tick) 153 = .ok (.iconst 0, 1) := by decide +kernel
theorem d_M_tick_154 : decode (xMc m_M_tick) 154 = .ok (.istore_n 3, 1) := by decide +kernel
theorem d_M_tick_155 : decode (xMc m_M_tick) 155 = .ok (.iload_n 3, 1) := by decide +kernel
theorem d_M_tick_156 : decode (xMc m_M_tick) 156 = .ok (.aload_n 0, 1) := by decide +kernel
theorem d_M_tick_157 : decode (xMc m_M_tick) 157 = .ok (.getfield 103, 3) := by decide +kernel
theorem d_M_tick_160 : decode (xMc m_M_tick) 160 = .ok (.if_icmp .ge 23, 3) := by decide +kernel
theorem d_M_tick_163 : decode (xMc m_M_tick) 163 = .ok (.aload_n 0, 1) := by decide +kernel
theorem d_M_tick_164 : decode (xMc m_M_tick) 164 = .ok (.getfield 32, 3) := by decide +kernel
theorem d_M_tick_167 : decode (xMc m_M_tick) 167 = .ok (.bipush 8, 2) := by decide +kernel
theorem d_M_tick_169 : decode (xMc m_M_tick) 169 = .ok (.iload_n 3, 1) := by decide +kernel
theorem d_M_tick_170 : decode (xMc m_M_tick) 170 = .ok (.iadd, 1) := by decide +kernel
theorem d_M_tick_171 : decode (xMc m_M_tick) 171 = .ok (.baload, 1) := by decide +kernel
theorem d_M_tick_172 : decode (xMc m_M_tick) 172 = .ok (.ifCond .ne 5, 3) := by decide +kernel
theorem d_M_tick_175 : decode (xMc m_M_tick) 175 = .ok (.iconst 0, 1) := by decide +kernel
theorem d_M_tick_176 : decode (xMc m_M_tick) 176 = .ok (.istore_n 2, 1) := by decide +kernel
theorem d_M_tick_177 : decode (xMc m_M_tick) 177 = .ok (.iinc 3 1, 3) := by decide +kernel
theorem d_M_tick_180 : decode (xMc m_M_tick) 180 = .ok (.goto (-25), 3) := by decide +kernel
theorem d_M_tick_183 : decode (xMc m_M_tick) 183 = .ok (.iload_n 2, 1) := by decide +kernel
theorem d_M_tick_184 : decode (xMc m_M_tick) 184 = .ok (.ifCond .eq 8, 3) := by decide +kernel
theorem d_M_tick_187 : decode (xMc m_M_tick) 187 = .ok (.aload_n 0, 1) := by decide +kernel
theorem d_M_tick_188 : decode (xMc m_M_tick) 188 = .ok (.invokevirtual 179, 3) := by decide +kernel
theorem d_M_tick_191 : decode (xMc m_M_tick) 191 = .ok (.return_, 1) := by decide +kernel
theorem d_M_tick_192 : decode (xMc m_M_tick) 192 = .ok (.iconst 0, 1) := by decide +kernel
theorem d_M_tick_193 : decode (xMc m_M_tick) 193 = .ok (.istore_n 3, 1) := by decide +kernel
theorem d_M_tick_194 : decode (xMc m_M_tick) 194 = .ok (.iload_n 3, 1) := by decide +kernel
theorem d_M_tick_195 : decode (xMc m_M_tick) 195 = .ok (.iconst 4, 1) := by decide +kernel
theorem d_M_tick_196 : decode (xMc m_M_tick) 196 = .ok (.if_icmp .ge 20, 3) := by decide +kernel
theorem d_M_tick_199 : decode (xMc m_M_tick) 199 = .ok (.aload_n 0, 1) := by decide +kernel
theorem d_M_tick_200 : decode (xMc m_M_tick) 200 = .ok (.getfield 19, 3) := by decide +kernel
theorem d_M_tick_203 : decode (xMc m_M_tick) 203 = .ok (.iload_n 3, 1) := by decide +kernel
theorem d_M_tick_204 : decode (xMc m_M_tick) 204 = .ok (.iaload, 1) := by decide +kernel
theorem d_M_tick_205 : decode (xMc m_M_tick) 205 = .ok (.ifCond .lt 5, 3) := by decide +kernel
theorem d_M_tick_208 : decode (xMc m_M_tick) 208 = .ok (.iconst 1, 1) := by decide +kernel
theorem d_M_tick_209 : decode (xMc m_M_tick) 209 = .ok (.istore_n 1, 1) := by decide +kernel
theorem d_M_tick_210 : decode (xMc m_M_tick) 210 = .ok (.iinc 3 1, 3) := by decide +kernel
theorem d_M_tick_213 : decode (xMc m_M_tick) 213 = .ok (.goto (-19), 3) := by decide +kernel
theorem d_M_tick_216 : decode (xMc m_M_tick) 216 = .ok (.iload_n 1, 1) := by decide +kernel
theorem d_M_tick_217 : decode (xMc m_M_tick) 217 = .ok (.ifCond .ne 8, 3) := by decide +kernel
theorem d_M_tick_220 : decode (xMc m_M_tick) 220 = .ok (.aload_n 0, 1) := by decide +kernel
theorem d_M_tick_221 : decode (xMc m_M_tick) 221 = .ok (.iconst 2, 1) := by decide +kernel
theorem d_M_tick_222 : decode (xMc m_M_tick) 222 = .ok (.putfield 64, 3) := by decide +kernel
theorem d_M_tick_225 : decode (xMc m_M_tick) 225 = .ok (.return_, 1) := by decide +kernel
theorem d_M_get_0 : decode (xMc m_M_get) 0 = .ok (.aload_n 0, 1) := by decide +kernel
theorem d_M_get_1 : decode (xMc m_M_get) 1 = .ok (.invokevirtual 140, 3) := by decide +kernel
theorem d_M_get_4 : decode (xMc m_M_get) 4 = .ok (.istore_n 2, 1) := by decide +kernel
theorem d_M_get_5 : decode (xMc m_M_get) 5 = .ok (.iload_n 2, 1) := by decide +kernel
theorem d_M_get_6 : decode (xMc m_M_get) 6 = .ok (.ifCond .eq 8, 3) := by decide +kernel
theorem d_M_get_9 : decode (xMc m_M_get) 9 = .ok (.bipush 8, 2) := by decide +kernel
theorem d_M_get_11 : decode (xMc m_M_get) 11 = .ok (.goto 4, 3) := by decide +kernel
theorem d_M_get_14 : decode (xMc m_M_get) 14 = .ok (.iconst 0, 1) := by decide +kernel
theorem d_M_get_15 : decode (xMc m_M_get) 15 = .ok (.istore_n 3, 1) := by decide +kernel
theorem d_M_get_16 : decode (xMc m_M_get) 16 = .ok (.iload_n 2, 1) := by decide +kernel
theorem d_M_get_17 : decode (xMc m_M_get) 17 = .ok (.ifCond .eq 13, 3) := by decide +kernel
theorem d_M_get_20 : decode (xMc m_M_get) 20 = .ok (.bipush 8, 2) := by decide +kernel
theorem d_M_get_22 : decode (xMc m_M_get) 22 = .ok (.aload_n 0, 1) := by decide +kernel
theorem d_M_get_23 : decode (xMc m_M_get) 23 = .ok (.getfield 103, 3) := by decide +kernel
theorem d_M_get_26 : decode (xMc m_M_get) 26 = .ok (.iadd, 1) := by decide +kernel
theorem d_M_get_27 : decode (xMc m_M_get) 27 = .ok (.goto 7, 3) := by decide +kernel
theorem d_M_get_30 : decode (xMc m_M_get) 30 = .ok (.aload_n 0, 1) := by decide +kernel
theorem d_M_get_31 : decode (xMc m_M_get) 31 = .ok (.getfield 79, 3) := by decide +kernel
theorem d_M_get_34 : decode (xMc m_M_get) 34 = .ok (.istore 4, 2) := by decide +kernel
theorem d_M_get_36 : decode (xMc m_M_get) 36 = .ok (.iconst (-1), 1) := by decide +kernel
theorem d_M_get_37 : decode (xMc m_M_get) 37 = .ok (.istore 5, 2) := by decide +kernel
theorem d_M_get_39 : decode (xMc m_M_get) 39 = .ok (.iconst (-1), 1) := by decide +kernel
theorem d_M_get_40 : decode (xMc m_M_get) 40 = .ok (.istore 6, 2) := by decide +kernel
theorem d_M_get_42 : decode (xMc m_M_get) 42 = .ok (.iconst (-1), 1) := by decide +kernel
theorem d_M_get_43 : decode (xMc m_M_get) 43 = .ok (.istore 7, 2) := by decide +kernel
theorem d_M_get_45 : decode (xMc m_M_get) 45 = .ok (.iload_n 3, 1) := by decide +kernel
theorem d_M_get_46 : decode (xMc m_M_get) 46 = .ok (.istore 8, 2) := by decide +kernel
theorem d_M_get_48 : decode (xMc m_M_get) 48 = .ok (.iload 8, 2) := by decide +kernel
theorem d_M_get_50 : decode (xMc m_M_get) 50 = .ok (.iload 4, 2) := by decide +kernel
theorem d_M_get_52 : decode (xMc m_M_get) 52 = .ok (.if_icmp .ge 115, 3) := by decide +kernel
theorem d_M_get_55 : decode (xMc m_M_get) 55 = .ok (.aload_n 0, 1) := by decide +kernel
theorem d_M_get_56 : decode (xMc m_M_get) 56 = .ok (.getfield 32, 3) := by decide +kernel
theorem d_M_get_59 : decode (xMc m_M_get) 59 = .ok (.iload 8, 2) := by decide +kernel
theorem d_M_get_61 : decode (xMc m_M_get) 61 = .ok (.baload, 1) := by decide +kernel
theorem d_M_get_62 : decode (xMc m_M_get) 62 = .ok (.ifCond .ne 99, 3) := by decide +kernel
theorem d_M_get_65 : decode (xMc m_M_get) 65 = .ok (.aload_n 0, 1) := by decide +kernel
theorem d_M_get_66 : decode (xMc m_M_get) 66 = .ok (.iload 8, 2) := by decide +kernel
theorem d_M_get_68 : decode (xMc m_M_get) 68 = .ok (.invokevirtual 144, 3) := by decide +kernel
theorem d_M_get_71 : decode (xMc m_M_get) 71 = .ok (.ifCond .ne 6, 3) := by decide +kernel
theorem d_M_get_74 : decode (xMc m_M_get) 74 = .ok (.goto 87, 3) := by decide +kernel
theorem d_M_get_77 : decode (xMc m_M_get) 77 = .ok (.aload_n 0, 1) := by decide +kernel
theorem d_M_get_78 : decode (xMc m_M_get) 78 = .ok (.iload 8, 2) := by decide +kernel
theorem d_M_get_80 : decode (xMc m_M_get) 80 = .ok (.invokevirtual 148, 3) := by decide +kernel
theorem d_M_get_83 : decode (xMc m_M_get) 83 = .ok (.istore 9, 2) := by decide +kernel
theorem d_M_get_85 : decode (xMc m_M_get) 85 = .ok (.iload 9, 2) := by decide +kernel
theorem d_M_get_87 : decode (xMc m_M_get) 87 = .ok (.ifCond .ne 12, 3) := by decide +kernel
theorem d_M_get_90 : decode (xMc m_M_get) 90 = .ok (.iload 5, 2) := by decide +kernel
theorem d_M_get_92 : decode (xMc m_M_get) 92 = .ok (.ifCond .ge 7, 3) := by decide +kernel
theorem d_M_get_95 : decode (xMc m_M_get) 95 = .ok (.iload 8, 2) := by decide +kernel
theorem d_M_get_97 : decode (xMc m_M_get) 97 = .ok (.istore 5, 2) := by decide +kernel
theorem d_M_get_99 : decode (xMc m_M_get) 99 = .ok (.iload 9, 2) := by decide +kernel
theorem d_M_get_101 : decode (xMc m_M_get) 101 = .ok (.ifCond .ne 30, 3) := by decide +kernel
theorem d_M_get_104 : decode (xMc m_M_get) 104 = .ok (.iload 6, 2) := by decide +kernel
theorem d_M_get_106 : decode (xMc m_M_get) 106 = .ok (.ifCond .ge 25, 3) := by decide +kernel
theorem d_M_get_109 : decode (xMc m_M_get) 109 = .ok (.iload 8, 2) := by decide +kernel
theorem d_M_get_111 : decode (xMc m_M_get) 111 = .ok (.iconst 4, 1) := by decide +kernel
theorem d_M_get_112 : decode (xMc m_M_get) 112 = .ok (.irem, 1) := by decide +kernel
theorem d_M_get_113 : decode (xMc m_M_get) 113 = .ok (.iload_n 1, 1) := by decide +kernel
theorem d_M_get_114 : decode (xMc m_M_get) 114 = .ok (.if_icmp .eq 13, 3) := by decide +kernel
theorem d_M_get_117 : decode (xMc m_M_get) 117 = .ok (.iload 8, 2) := by decide +kernel
theorem d_M_get_119 : decode (xMc m_M_get) 119 = .ok (.iconst 1, 1) := by decide +kernel
theorem d_M_get_120 : decode (xMc m_M_get) 120 = .ok (.iadd, 1) := by decide +kernel
theorem d_M_get_121 : decode (xMc m_M_get) 121 = .ok (.iconst 4, 1) := by decide +kernel
theorem d_M_get_122 : decode (xMc m_M_get) 122 = .ok (.irem, 1) := by decide +kernel
theorem d_M_get_123 : decode (xMc m_M_get) 123 = .ok (.iload_n 1, 1) := by decide +kernel
theorem d_M_get_124 : decode (xMc m_M_get) 124 = .ok (.if_icmp .ne 7, 3) := by decide +kernel
theorem d_M_get_127 : decode (xMc m_M_get) 127 = .ok (.iload 8, 2) := by decide +kernel
theorem d_M_get_129 : decode (xMc m_M_get) 129 = .ok (.istore 6, 2) := by decide +kernel
theorem d_M_get_131 : decode (xMc m_M_get) 131 = .ok (.iload 9, 2) := by decide +kernel
theorem d_M_get_133 : decode (xMc m_M_get) 133 = .ok (.iconst 1, 1) := by decide +kernel
theorem d_M_get_134 : decode (xMc m_M_get) 134 = .ok (.if_icmp .ne 27, 3) := by decide +kernel
theorem d_M_get_137 : decode (xMc m_M_get) 137 = .ok (.iload 7, 2) := by decide +kernel
theorem d_M_get_139 : decode (xMc m_M_get) 139 = .ok (.ifCond .lt 18, 3) := by decide +kernel
theorem d_M_get_142 : decode (xMc m_M_get) 142 = .ok (.aload_n 0, 1) := by decide +kernel
theorem d_M_get_143 : decode (xMc m_M_get) 143 = .ok (.iload 8, 2) := by decide +kernel
theorem d_M_get_145 : decode (xMc m_M_get) 145 = .ok (.invokevirtual 151, 3) := by decide +kernel
theorem d_M_get_148 : decode (xMc m_M_get) 148 = .ok (.aload_n 0, 1) := by decide +kernel
theorem d_M_get_149 : decode (xMc m_M_get) 149 = .ok (.iload 7, 2) := by decide +kernel
theorem d_M_get_151 : decode (xMc m_M_get) 151 = .ok (.invokevirtual 151, 3) := by decide +kernel
theorem d_M_get_154 : decode (xMc m_M_get) 154 = .ok (.if_icmp .le 7, 3) := by decide +kernel
theorem d_M_get_157 : decode (xMc m_M_get) 157 = .ok (.iload 8, 2) := by decide +kernel
theorem d_M_get_159 : decode (xMc m_M_get) 159 = .ok (.istore 7, 2) := by decide +kernel
theorem d_M_get_161 : decode (xMc m_M_get) 161 = .ok (.iinc 8 1, 3) := by decide +kernel
theorem d_M_get_164 : decode (xMc m_M_get) 164 = .ok (.goto (-116), 3) := by decide +kernel
theorem d_M_get_167 : decode (xMc m_M_get) 167 = .ok (.iload 5, 2) := by decide +kernel
theorem d_M_get_169 : decode (xMc m_M_get) 169 = .ok (.ifCond .ge 8, 3) := by decide +kernel
theorem d_M_get_172 : decode (xMc m_M_get) 172 = .ok (.iload 7, 2) := by decide +kernel
theorem d_M_get_174 : decode (xMc m_M_get) 174 = .ok (.goto 19, 3) := by decide +kernel
theorem d_M_get_177 : decode (xMc m_M_get) 177 = .ok (.iload_n 2, 1) := by decide +kernel
theorem d_M_get_178 : decode (xMc m_M_get) 178 = .ok (.ifCond .ne 8, 3) := by decide +kernel
theorem d_M_get_181 : decode (xMc m_M_get) 181 = .ok (.iload 6, 2) := by decide +kernel
theorem d_M_get_183 : decode (xMc m_M_get) 183 = .ok (.ifCond .ge 8, 3) := by decide +kernel
theorem d_M_get_186 : decode (xMc m_M_get) 186 = .ok (.iload 5, 2) := by decide +kernel
theorem d_M_get_188 : decode (xMc m_M_get) 188 = .ok (.goto 5, 3) := by decide +kernel
theorem d_M_get_191 : decode (xMc m_M_get) 191 = .ok (.iload 6, 2) := by decide +kernel
theorem d_M_get_193 : decode (xMc m_M_get) 193 = .ok (.istore 8, 2) := by decide +kernel
theorem d_M_get_195 : decode (xMc m_M_get) 195 = .ok (.iload 8, 2) := by decide +kernel
theorem d_M_get_197 : decode (xMc m_M_get) 197 = .ok (.ifCond .ge 4, 3) := by decide +kernel
theorem d_M_get_200 : decode (xMc m_M_get) 200 = .ok (.return_, 1) := by decide +kernel
theorem d_M_get_201 : decode (xMc m_M_get) 201 = .ok (.iload 5, 2) := by decide +kernel
theorem d_M_get_203 : decode (xMc m_M_get) 203 = .ok (.ifCond .ge 13, 3) := by decide +kernel
theorem d_M_get_206 : decode (xMc m_M_get) 206 = .ok (.aload_n 0, 1) := by decide +kernel
theorem d_M_get_207 : decode (xMc m_M_get) 207 = .ok (.dup, 1) := by decide +kernel
theorem d_M_get_208 : decode (xMc m_M_get) 208 = .ok (.getfield 154, 3) := by decide +kernel
theorem d_M_get_211 : decode (xMc m_M_get) 211 = .ok (.iconst 1, 1) := by decide +kernel
theorem d_M_get_212 : decode (xMc m_M_get) 212 = .ok (.iadd, 1) := by decide +kernel
theorem d_M_get_213 : decode (xMc m_M_get) 213 = .ok (.putfield 154, 3) := by decide +kernel
theorem d_M_get_216 : decode (xMc m_M_get) 216 = .ok (.aload_n 0, 1) := by decide +kernel
theorem d_M_get_217 : decode (xMc m_M_get) 217 = .ok (.getfield 19, 3) := by decide +kernel
theorem d_M_get_220 : decode (xMc m_M_get) 220 = .ok (.iload_n 1, 1) := by decide +kernel
theorem d_M_get_221 : decode (xMc m_M_get) 221 = .ok (.iload 8, 2) := by decide +kernel
theorem d_M_get_223 : decode (xMc m_M_get) 223 = .ok (.iastore, 1) := by decide +kernel
theorem d_M_get_224 : decode (xMc m_M_get) 224 = .ok (.aload_n 0, 1) := by decide +kernel
theorem d_M_get_225 : decode (xMc m_M_get) 225 = .ok (.getfield 22, 3) := by decide +kernel
theorem d_M_get_228 : decode (xMc m_M_get) 228 = .ok (.iload_n 1, 1) := by decide +kernel
theorem d_M_get_229 : decode (xMc m_M_get) 229 = .ok (.aload_n 0, 1) := by decide +kernel
theorem d_M_get_230 : decode (xMc m_M_get) 230 = .ok (.iload 8, 2) := by decide +kernel
theorem d_M_get_232 : decode (xMc m_M_get) 232 = .ok (.invokevirtual 157, 3) := by decide +kernel
theorem d_M_get_235 : decode (xMc m_M_get) 235 = .ok (.iastore, 1) := by decide +kernel
theorem d_M_get_236 : decode (xMc m_M_get) 236 = .ok (.return_, 1) := by decide +kernel
theorem d_M_mapsDone_0 : decode (xMc m_M_mapsDone) 0 = .ok (.iconst 0, 1) := by decide +kernel
theorem d_M_mapsDone_1 : decode (xMc m_M_mapsDone) 1 = .ok (.istore_n 1, 1) := by decide +kernel
theorem d_M_mapsDone_2 : decode (xMc m_M_mapsDone) 2 = .ok (.iload_n 1, 1) := by decide +kernel
theorem d_M_mapsDone_3 : decode (xMc m_M_mapsDone) 3 = .ok (.aload_n 0, 1) := by decide +kernel
theorem d_M_mapsDone_4 : decode (xMc m_M_mapsDone) 4 = .ok (.getfield 79, 3) := by decide +kernel
theorem d_M_mapsDone_7 : decode (xMc m_M_mapsDone) 7 = .ok (.if_icmp .ge 20, 3) := by decide +kernel
theorem d_M_mapsDone_10 : decode (xMc m_M_mapsDone) 10 = .ok (.aload_n 0, 1) := by decide +kernel
theorem d_M_mapsDone_11 : decode (xMc m_M_mapsDone) 11 = .ok (.getfield 32, 3) := by decide +kernel
theorem d_M_mapsDone_14 : decode (xMc m_M_mapsDone) 14 = .ok (.iload_n 1, 1) := by decide +kernel
theorem d_M_mapsDone_15 : decode (xMc m_M_mapsDone) 15 = .ok (.baload, 1) := by decide +kernel
theorem d_M_mapsDone_16 : decode (xMc m_M_mapsDone) 16 = .ok (.ifCond .ne 5, 3) := by decide +kernel
theorem d_M_mapsDone_19 : decode (xMc m_M_mapsDone) 19 = .ok (.iconst 0, 1) := by decide +kernel
theorem d_M_mapsDone_20 : decode (xMc m_M_mapsDone) 20 = .ok (.ireturn, 1) := by decide +kernel
theorem d_M_mapsDone_21 : decode (xMc m_M_mapsDone) 21 = .ok (.iinc 1 1, 3) := by decide +kernel
theorem d_M_mapsDone_24 : decode (xMc m_M_mapsDone) 24 = .ok (.goto (-22), 3) := by decide +kernel
theorem d_M_mapsDone_27 : decode (xMc m_M_mapsDone) 27 = .ok (.iconst 1, 1) := by decide +kernel
theorem d_M_mapsDone_28 : decode (xMc m_M_mapsDone) 28 = .ok (.ireturn, 1) := by decide +kernel
theorem d_M_readable_0 : decode (xMc m_M_readable) 0 = .ok (.iload_n 1, 1) := by decide +kernel
theorem d_M_readable_1 : decode (xMc m_M_readable) 1 = .ok (.bipush 8, 2) := by decide +kernel
theorem d_M_readable_3 : decode (xMc m_M_readable) 3 = .ok (.if_icmp .ge 27, 3) := by decide +kernel
theorem d_M_readable_6 : decode (xMc m_M_readable) 6 = .ok (.aload_n 0, 1) := by decide +kernel
theorem d_M_readable_7 : decode (xMc m_M_readable) 7 = .ok (.getfield 28, 3) := by decide +kernel
theorem d_M_readable_10 : decode (xMc m_M_readable) 10 = .ok (.iload_n 1, 1) := by decide +kernel
theorem d_M_readable_11 : decode (xMc m_M_readable) 11 = .ok (.iconst 4, 1) := by decide +kernel
theorem d_M_readable_12 : decode (xMc m_M_readable) 12 = .ok (.irem, 1) := by decide +kernel
theorem d_M_readable_13 : decode (xMc m_M_readable) 13 = .ok (.baload, 1) := by decide +kernel
theorem d_M_readable_14 : decode (xMc m_M_readable) 14 = .ok (.ifCond .ne 16, 3) := by decide +kernel
theorem d_M_readable_17 : decode (xMc m_M_readable) 17 = .ok (.aload_n 0, 1) := by decide +kernel
theorem d_M_readable_18 : decode (xMc m_M_readable) 18 = .ok (.getfield 28, 3) := by decide +kernel
theorem d_M_readable_21 : decode (xMc m_M_readable) 21 = .ok (.iload_n 1, 1) := by decide +kernel
theorem d_M_readable_22 : decode (xMc m_M_readable) 22 = .ok (.iconst 1, 1) := by decide +kernel
theorem d_M_readable_23 : decode (xMc m_M_readable) 23 = .ok (.iadd, 1) := by decide +kernel
theorem d_M_readable_24 : decode (xMc m_M_readable) 24 = .ok (.iconst 4, 1) := by decide +kernel
theorem d_M_readable_25 : decode (xMc m_M_readable) 25 = .ok (.irem, 1) := by decide +kernel
theorem d_M_readable_26 : decode (xMc m_M_readable) 26 = .ok (.baload, 1) := by decide +kernel
theorem d_M_readable_27 : decode (xMc m_M_readable) 27 = .ok (.ifCond .eq 7, 3) := by decide +kernel
theorem d_M_readable_30 : decode (xMc m_M_readable) 30 = .ok (.iconst 1, 1) := by decide +kernel
theorem d_M_readable_31 : decode (xMc m_M_readable) 31 = .ok (.goto 4, 3) := by decide +kernel
theorem d_M_readable_34 : decode (xMc m_M_readable) 34 = .ok (.iconst 0, 1) := by decide +kernel
theorem d_M_readable_35 : decode (xMc m_M_readable) 35 = .ok (.ireturn, 1) := by decide +kernel
theorem d_M_doing_0 : decode (xMc m_M_doing) 0 = .ok (.iconst 0, 1) := by decide +kernel
theorem d_M_doing_1 : decode (xMc m_M_doing) 1 = .ok (.istore_n 2, 1) := by decide +kernel
theorem d_M_doing_2 : decode (xMc m_M_doing) 2 = .ok (.iconst 0, 1) := by decide +kernel
theorem d_M_doing_3 : decode (xMc m_M_doing) 3 = .ok (.istore_n 3, 1) := by decide +kernel
theorem d_M_doing_4 : decode (xMc m_M_doing) 4 = .ok (.iload_n 3, 1) := by decide +kernel
theorem d_M_doing_5 : decode (xMc m_M_doing) 5 = .ok (.iconst 4, 1) := by decide +kernel
theorem d_M_doing_6 : decode (xMc m_M_doing) 6 = .ok (.if_icmp .ge 22, 3) := by decide +kernel
theorem d_M_doing_9 : decode (xMc m_M_doing) 9 = .ok (.aload_n 0, 1) := by decide +kernel
theorem d_M_doing_10 : decode (xMc m_M_doing) 10 = .ok (.getfield 19, 3) := by decide +kernel
theorem d_M_doing_13 : decode (xMc m_M_doing) 13 = .ok (.iload_n 3, 1) := by decide +kernel
theorem d_M_doing_14 : decode (xMc m_M_doing) 14 = .ok (.iaload, 1) := by decide +kernel
theorem d_M_doing_15 : decode (xMc m_M_doing) 15 = .ok (.iload_n 1, 1) := by decide +kernel
theorem d_M_doing_16 : decode (xMc m_M_doing) 16 = .ok (.if_icmp .ne 6, 3) := by decide +kernel
theorem d_M_doing_19 : decode (xMc m_M_doing) 19 = .ok (.iinc 2 1, 3) := by decide +kernel
theorem d_M_doing_22 : decode (xMc m_M_doing) 22 = .ok (.iinc 3 1, 3) := by decide +kernel
theorem d_M_doing_25 : decode (xMc m_M_doing) 25 = .ok (.goto (-21), 3) := by decide +kernel
theorem d_M_doing_28 : decode (xMc m_M_doing) 28 = .ok (.iload_n 2, 1) := by decide +kernel
theorem d_M_doing_29 : decode (xMc m_M_doing) 29 = .ok (.ireturn, 1) := by decide +kernel
theorem d_M_leftOf_0 : decode (xMc m_M_leftOf) 0 = .ok (.iconst 0, 1) := by decide +kernel
theorem d_M_leftOf_1 : decode (xMc m_M_leftOf) 1 = .ok (.istore_n 2, 1) := by decide +kernel
theorem d_M_leftOf_2 : decode (xMc m_M_leftOf) 2 = .ok (.iload_n 2, 1) := by decide +kernel
theorem d_M_leftOf_3 : decode (xMc m_M_leftOf) 3 = .ok (.iconst 4, 1) := by decide +kernel
theorem d_M_leftOf_4 : decode (xMc m_M_leftOf) 4 = .ok (.if_icmp .ge 26, 3) := by decide +kernel
theorem d_M_leftOf_7 : decode (xMc m_M_leftOf) 7 = .ok (.aload_n 0, 1) := by decide +kernel
theorem d_M_leftOf_8 : decode (xMc m_M_leftOf) 8 = .ok (.getfield 19, 3) := by decide +kernel
theorem d_M_leftOf_11 : decode (xMc m_M_leftOf) 11 = .ok (.iload_n 2, 1) := by decide +kernel
theorem d_M_leftOf_12 : decode (xMc m_M_leftOf) 12 = .ok (.iaload, 1) := by decide +kernel
theorem d_M_leftOf_13 : decode (xMc m_M_leftOf) 13 = .ok (.iload_n 1, 1) := by decide +kernel
theorem d_M_leftOf_14 : decode (xMc m_M_leftOf) 14 = .ok (.if_icmp .ne 10, 3) := by decide +kernel
theorem d_M_leftOf_17 : decode (xMc m_M_leftOf) 17 = .ok (.aload_n 0, 1) := by decide +kernel
theorem d_M_leftOf_18 : decode (xMc m_M_leftOf) 18 = .ok (.getfield 22, 3) := by decide +kernel
theorem d_M_leftOf_21 : decode (xMc m_M_leftOf) 21 = .ok (.iload_n 2, 1) := by decide +kernel
theorem d_M_leftOf_22 : decode (xMc m_M_leftOf) 22 = .ok (.iaload, 1) := by decide +kernel
theorem d_M_leftOf_23 : decode (xMc m_M_leftOf) 23 = .ok (.ireturn, 1) := by decide +kernel
theorem d_M_leftOf_24 : decode (xMc m_M_leftOf) 24 = .ok (.iinc 2 1, 3) := by decide +kernel
theorem d_M_leftOf_27 : decode (xMc m_M_leftOf) 27 = .ok (.goto (-25), 3) := by decide +kernel
theorem d_M_leftOf_30 : decode (xMc m_M_leftOf) 30 = .ok (.iconst 0, 1) := by decide +kernel
theorem d_M_leftOf_31 : decode (xMc m_M_leftOf) 31 = .ok (.ireturn, 1) := by decide +kernel
theorem d_M_needs_0 : decode (xMc m_M_needs) 0 = .ok (.iload_n 1, 1) := by decide +kernel
theorem d_M_needs_1 : decode (xMc m_M_needs) 1 = .ok (.bipush 8, 2) := by decide +kernel
theorem d_M_needs_3 : decode (xMc m_M_needs) 3 = .ok (.if_icmp .ge 20, 3) := by decide +kernel
theorem d_M_needs_6 : decode (xMc m_M_needs) 6 = .ok (.iconst 2, 1) := by decide +kernel
theorem d_M_needs_7 : decode (xMc m_M_needs) 7 = .ok (.aload_n 0, 1) := by decide +kernel
theorem d_M_needs_8 : decode (xMc m_M_needs) 8 = .ok (.getfield 7, 3) := by decide +kernel
theorem d_M_needs_11 : decode (xMc m_M_needs) 11 = .ok (.iload_n 1, 1) := by decide +kernel
theorem d_M_needs_12 : decode (xMc m_M_needs) 12 = .ok (.iaload, 1) := by decide +kernel
theorem d_M_needs_13 : decode (xMc m_M_needs) 13 = .ok (.imul, 1) := by decide +kernel
theorem d_M_needs_14 : decode (xMc m_M_needs) 14 = .ok (.aload_n 0, 1) := by decide +kernel
theorem d_M_needs_15 : decode (xMc m_M_needs) 15 = .ok (.iload_n 1, 1) := by decide +kernel
theorem d_M_needs_16 : decode (xMc m_M_needs) 16 = .ok (.invokevirtual 134, 3) := by decide +kernel
theorem d_M_needs_19 : decode (xMc m_M_needs) 19 = .ok (.iadd, 1) := by decide +kernel
theorem d_M_needs_20 : decode (xMc m_M_needs) 20 = .ok (.goto 13, 3) := by decide +kernel
theorem d_M_needs_23 : decode (xMc m_M_needs) 23 = .ok (.iconst 1, 1) := by decide +kernel
theorem d_M_needs_24 : decode (xMc m_M_needs) 24 = .ok (.aload_n 0, 1) := by decide +kernel
theorem d_M_needs_25 : decode (xMc m_M_needs) 25 = .ok (.iload_n 1, 1) := by decide +kernel
theorem d_M_needs_26 : decode (xMc m_M_needs) 26 = .ok (.bipush 8, 2) := by decide +kernel
theorem d_M_needs_28 : decode (xMc m_M_needs) 28 = .ok (.isub, 1) := by decide +kernel
theorem d_M_needs_29 : decode (xMc m_M_needs) 29 = .ok (.invokevirtual 137, 3) := by decide +kernel
theorem d_M_needs_32 : decode (xMc m_M_needs) 32 = .ok (.iadd, 1) := by decide +kernel
theorem d_M_needs_33 : decode (xMc m_M_needs) 33 = .ok (.ireturn, 1) := by decide +kernel
theorem d_M_runs_0 : decode (xMc m_M_runs) 0 = .ok (.aload_n 0, 1) := by decide +kernel
theorem d_M_runs_1 : decode (xMc m_M_runs) 1 = .ok (.getfield 44, 3) := by decide +kernel
theorem d_M_runs_4 : decode (xMc m_M_runs) 4 = .ok (.iload_n 1, 1) := by decide +kernel
theorem d_M_runs_5 : decode (xMc m_M_runs) 5 = .ok (.iaload, 1) := by decide +kernel
theorem d_M_runs_6 : decode (xMc m_M_runs) 6 = .ok (.aload_n 0, 1) := by decide +kernel
theorem d_M_runs_7 : decode (xMc m_M_runs) 7 = .ok (.getfield 125, 3) := by decide +kernel
theorem d_M_runs_10 : decode (xMc m_M_runs) 10 = .ok (.iadd, 1) := by decide +kernel
theorem d_M_runs_11 : decode (xMc m_M_runs) 11 = .ok (.iconst 1, 1) := by decide +kernel
theorem d_M_runs_12 : decode (xMc m_M_runs) 12 = .ok (.isub, 1) := by decide +kernel
theorem d_M_runs_13 : decode (xMc m_M_runs) 13 = .ok (.aload_n 0, 1) := by decide +kernel
theorem d_M_runs_14 : decode (xMc m_M_runs) 14 = .ok (.getfield 125, 3) := by decide +kernel
theorem d_M_runs_17 : decode (xMc m_M_runs) 17 = .ok (.idiv, 1) := by decide +kernel
theorem d_M_runs_18 : decode (xMc m_M_runs) 18 = .ok (.ireturn, 1) := by decide +kernel
theorem d_M_pairsOf_0 : decode (xMc m_M_pairsOf) 0 = .ok (.iconst 0, 1) := by decide +kernel
theorem d_M_pairsOf_1 : decode (xMc m_M_pairsOf) 1 = .ok (.istore_n 2, 1) := by decide +kernel
theorem d_M_pairsOf_2 : decode (xMc m_M_pairsOf) 2 = .ok (.iconst 0, 1) := by decide +kernel
theorem d_M_pairsOf_3 : decode (xMc m_M_pairsOf) 3 = .ok (.istore_n 3, 1) := by decide +kernel
theorem d_M_pairsOf_4 : decode (xMc m_M_pairsOf) 4 = .ok (.iload_n 3, 1) := by decide +kernel
theorem d_M_pairsOf_5 : decode (xMc m_M_pairsOf) 5 = .ok (.aload_n 0, 1) := by decide +kernel
theorem d_M_pairsOf_6 : decode (xMc m_M_pairsOf) 6 = .ok (.getfield 86, 3) := by decide +kernel
theorem d_M_pairsOf_9 : decode (xMc m_M_pairsOf) 9 = .ok (.if_icmp .ge 29, 3) := by decide +kernel
theorem d_M_pairsOf_12 : decode (xMc m_M_pairsOf) 12 = .ok (.aload_n 0, 1) := by decide +kernel
theorem d_M_pairsOf_13 : decode (xMc m_M_pairsOf) 13 = .ok (.getfield 38, 3) := by decide +kernel
theorem d_M_pairsOf_16 : decode (xMc m_M_pairsOf) 16 = .ok (.iload_n 3, 1) := by decide +kernel
theorem d_M_pairsOf_17 : decode (xMc m_M_pairsOf) 17 = .ok (.iaload, 1) := by decide +kernel
theorem d_M_pairsOf_18 : decode (xMc m_M_pairsOf) 18 = .ok (.aload_n 0, 1) := by decide +kernel
theorem d_M_pairsOf_19 : decode (xMc m_M_pairsOf) 19 = .ok (.getfield 103, 3) := by decide +kernel
theorem d_M_pairsOf_22 : decode (xMc m_M_pairsOf) 22 = .ok (.invokestatic 89, 3) := by decide +kernel
theorem d_M_pairsOf_25 : decode (xMc m_M_pairsOf) 25 = .ok (.iload_n 1, 1) := by decide +kernel
theorem d_M_pairsOf_26 : decode (xMc m_M_pairsOf) 26 = .ok (.if_icmp .ne 6, 3) := by decide +kernel
theorem d_M_pairsOf_29 : decode (xMc m_M_pairsOf) 29 = .ok (.iinc 2 1, 3) := by decide +kernel
theorem d_M_pairsOf_32 : decode (xMc m_M_pairsOf) 32 = .ok (.iinc 3 1, 3) := by decide +kernel
theorem d_M_pairsOf_35 : decode (xMc m_M_pairsOf) 35 = .ok (.goto (-31), 3) := by decide +kernel
theorem d_M_pairsOf_38 : decode (xMc m_M_pairsOf) 38 = .ok (.iload_n 2, 1) := by decide +kernel
theorem d_M_pairsOf_39 : decode (xMc m_M_pairsOf) 39 = .ok (.ireturn, 1) := by decide +kernel
theorem d_M_finish_0 : decode (xMc m_M_finish) 0 = .ok (.aload_n 0, 1) := by decide +kernel
theorem d_M_finish_1 : decode (xMc m_M_finish) 1 = .ok (.getfield 19, 3) := by decide +kernel
theorem d_M_finish_4 : decode (xMc m_M_finish) 4 = .ok (.iload_n 1, 1) := by decide +kernel
theorem d_M_finish_5 : decode (xMc m_M_finish) 5 = .ok (.iaload, 1) := by decide +kernel
theorem d_M_finish_6 : decode (xMc m_M_finish) 6 = .ok (.istore_n 2, 1) := by decide +kernel
theorem d_M_finish_7 : decode (xMc m_M_finish) 7 = .ok (.iconst 0, 1) := by decide +kernel
theorem d_M_finish_8 : decode (xMc m_M_finish) 8 = .ok (.istore_n 3, 1) := by decide +kernel
theorem d_M_finish_9 : decode (xMc m_M_finish) 9 = .ok (.iload_n 3, 1) := by decide +kernel
theorem d_M_finish_10 : decode (xMc m_M_finish) 10 = .ok (.iconst 4, 1) := by decide +kernel
theorem d_M_finish_11 : decode (xMc m_M_finish) 11 = .ok (.if_icmp .ge 36, 3) := by decide +kernel
theorem d_M_finish_14 : decode (xMc m_M_finish) 14 = .ok (.aload_n 0, 1) := by decide +kernel
theorem d_M_finish_15 : decode (xMc m_M_finish) 15 = .ok (.getfield 19, 3) := by decide +kernel
theorem d_M_finish_18 : decode (xMc m_M_finish) 18 = .ok (.iload_n 3, 1) := by decide +kernel
theorem d_M_finish_19 : decode (xMc m_M_finish) 19 = .ok (.iaload, 1) := by decide +kernel
theorem d_M_finish_20 : decode (xMc m_M_finish) 20 = .ok (.iload_n 2, 1) := by decide +kernel
theorem d_M_finish_21 : decode (xMc m_M_finish) 21 = .ok (.if_icmp .eq 6, 3) := by decide +kernel
theorem d_M_finish_24 : decode (xMc m_M_finish) 24 = .ok (.goto 17, 3) := by decide +kernel
theorem d_M_finish_27 : decode (xMc m_M_finish) 27 = .ok (.aload_n 0, 1) := by decide +kernel
theorem d_M_finish_28 : decode (xMc m_M_finish) 28 = .ok (.getfield 19, 3) := by decide +kernel
theorem d_M_finish_31 : decode (xMc m_M_finish) 31 = .ok (.iload_n 3, 1) := by decide +kernel
theorem d_M_finish_32 : decode (xMc m_M_finish) 32 = .ok (.iconst (-1), 1) := by decide +kernel
theorem d_M_finish_33 : decode (xMc m_M_finish) 33 = .ok (.iastore, 1) := by decide +kernel
theorem d_M_finish_34 : decode (xMc m_M_finish) 34 = .ok (.aload_n 0, 1) := by decide +kernel
theorem d_M_finish_35 : decode (xMc m_M_finish) 35 = .ok (.getfield 22, 3) := by decide +kernel
theorem d_M_finish_38 : decode (xMc m_M_finish) 38 = .ok (.iload_n 3, 1) := by decide +kernel
theorem d_M_finish_39 : decode (xMc m_M_finish) 39 = .ok (.iconst 0, 1) := by decide +kernel
theorem d_M_finish_40 : decode (xMc m_M_finish) 40 = .ok (.iastore, 1) := by decide +kernel
theorem d_M_finish_41 : decode (xMc m_M_finish) 41 = .ok (.iinc 3 1, 3) := by decide +kernel
theorem d_M_finish_44 : decode (xMc m_M_finish) 44 = .ok (.goto (-35), 3) := by decide +kernel
theorem d_M_finish_47 : decode (xMc m_M_finish) 47 = .ok (.aload_n 0, 1) := by decide +kernel
theorem d_M_finish_48 : decode (xMc m_M_finish) 48 = .ok (.getfield 32, 3) := by decide +kernel
theorem d_M_finish_51 : decode (xMc m_M_finish) 51 = .ok (.iload_n 2, 1) := by decide +kernel
theorem d_M_finish_52 : decode (xMc m_M_finish) 52 = .ok (.iconst 1, 1) := by decide +kernel
theorem d_M_finish_53 : decode (xMc m_M_finish) 53 = .ok (.bastore, 1) := by decide +kernel
theorem d_M_finish_54 : decode (xMc m_M_finish) 54 = .ok (.aload_n 0, 1) := by decide +kernel
theorem d_M_finish_55 : decode (xMc m_M_finish) 55 = .ok (.getfield 35, 3) := by decide +kernel
theorem d_M_finish_58 : decode (xMc m_M_finish) 58 = .ok (.iload_n 2, 1) := by decide +kernel
theorem d_M_finish_59 : decode (xMc m_M_finish) 59 = .ok (.iload_n 1, 1) := by decide +kernel
theorem d_M_finish_60 : decode (xMc m_M_finish) 60 = .ok (.iastore, 1) := by decide +kernel
theorem d_M_finish_61 : decode (xMc m_M_finish) 61 = .ok (.iload_n 2, 1) := by decide +kernel
theorem d_M_finish_62 : decode (xMc m_M_finish) 62 = .ok (.bipush 8, 2) := by decide +kernel
theorem d_M_finish_64 : decode (xMc m_M_finish) 64 = .ok (.if_icmp .ge 4, 3) := by decide +kernel
theorem d_M_finish_67 : decode (xMc m_M_finish) 67 = .ok (.return_, 1) := by decide +kernel
theorem d_M_finish_68 : decode (xMc m_M_finish) 68 = .ok (.aload_n 0, 1) := by decide +kernel
theorem d_M_finish_69 : decode (xMc m_M_finish) 69 = .ok (.iload_n 2, 1) := by decide +kernel
theorem d_M_finish_70 : decode (xMc m_M_finish) 70 = .ok (.bipush 8, 2) := by decide +kernel
theorem d_M_finish_72 : decode (xMc m_M_finish) 72 = .ok (.isub, 1) := by decide +kernel
theorem d_M_finish_73 : decode (xMc m_M_finish) 73 = .ok (.iconst 0, 1) := by decide +kernel
theorem d_M_finish_74 : decode (xMc m_M_finish) 74 = .ok (.invokevirtual 160, 3) := by decide +kernel
theorem d_M_finish_77 : decode (xMc m_M_finish) 77 = .ok (.ifCond .lt 10, 3) := by decide +kernel
theorem d_M_finish_80 : decode (xMc m_M_finish) 80 = .ok (.aload_n 0, 1) := by decide +kernel
theorem d_M_finish_81 : decode (xMc m_M_finish) 81 = .ok (.getfield 64, 3) := by decide +kernel
theorem d_M_finish_84 : decode (xMc m_M_finish) 84 = .ok (.ifCond .le 13, 3) := by decide +kernel
theorem d_M_finish_87 : decode (xMc m_M_finish) 87 = .ok (.aload_n 0, 1) := by decide +kernel
theorem d_M_finish_88 : decode (xMc m_M_finish) 88 = .ok (.iconst 0, 1) := by decide +kernel
theorem d_M_finish_89 : decode (xMc m_M_finish) 89 = .ok (.putfield 75, 3) := by decide +kernel
theorem d_M_finish_92 : decode (xMc m_M_finish) 92 = .ok (.aload_n 0, 1) := by decide +kernel
theorem d_M_finish_93 : decode (xMc m_M_finish) 93 = .ok (.iconst 0, 1) := by decide +kernel
theorem d_M_finish_94 : decode (xMc m_M_finish) 94 = .ok (.invokevirtual 121, 3) := by decide +kernel
theorem d_M_finish_97 : decode (xMc m_M_finish) 97 = .ok (.return_, 1) := by decide +kernel
theorem d_M_reduce_0 : decode (xMc m_M_reduce) 0 = .ok (.iconst 0, 1) := by decide +kernel
theorem d_M_reduce_1 : decode (xMc m_M_reduce) 1 = .ok (.istore_n 3, 1) := by decide +kernel
theorem d_M_reduce_2 : decode (xMc m_M_reduce) 2 = .ok (.iconst 0, 1) := by decide +kernel
theorem d_M_reduce_3 : decode (xMc m_M_reduce) 3 = .ok (.istore 4, 2) := by decide +kernel
theorem d_M_reduce_5 : decode (xMc m_M_reduce) 5 = .ok (.iload 4, 2) := by decide +kernel
theorem d_M_reduce_7 : decode (xMc m_M_reduce) 7 = .ok (.aload_n 0, 1) := by decide +kernel
theorem d_M_reduce_8 : decode (xMc m_M_reduce) 8 = .ok (.getfield 86, 3) := by decide +kernel
theorem d_M_reduce_11 : decode (xMc m_M_reduce) 11 = .ok (.if_icmp .ge 124, 3) := by decide +kernel
theorem d_M_reduce_14 : decode (xMc m_M_reduce) 14 = .ok (.aload_n 0, 1) := by decide +kernel
theorem d_M_reduce_15 : decode (xMc m_M_reduce) 15 = .ok (.getfield 64, 3) := by decide +kernel
theorem d_M_reduce_18 : decode (xMc m_M_reduce) 18 = .ok (.ifCond .ne 117, 3) := by decide +kernel
theorem d_M_reduce_21 : decode (xMc m_M_reduce) 21 = .ok (.iload 4, 2) := by decide +kernel
theorem d_M_reduce_23 : decode (xMc m_M_reduce) 23 = .ok (.ifCond .le 22, 3) := by decide +kernel
theorem d_M_reduce_26 : decode (xMc m_M_reduce) 26 = .ok (.aload_n 0, 1) := by decide +kernel
theorem d_M_reduce_27 : decode (xMc m_M_reduce) 27 = .ok (.getfield 38, 3) := by decide +kernel
theorem d_M_reduce_30 : decode (xMc m_M_reduce) 30 = .ok (.iload 4, 2) := by decide +kernel
theorem d_M_reduce_32 : decode (xMc m_M_reduce) 32 = .ok (.iconst 1, 1) := by decide +kernel
theorem d_M_reduce_33 : decode (xMc m_M_reduce) 33 = .ok (.isub, 1) := by decide +kernel
theorem d_M_reduce_34 : decode (xMc m_M_reduce) 34 = .ok (.iaload, 1) := by decide +kernel
theorem d_M_reduce_35 : decode (xMc m_M_reduce) 35 = .ok (.aload_n 0, 1) := by decide +kernel
theorem d_M_reduce_36 : decode (xMc m_M_reduce) 36 = .ok (.getfield 38, 3) := by decide +kernel
theorem d_M_reduce_39 : decode (xMc m_M_reduce) 39 = .ok (.iload 4, 2) := by decide +kernel
theorem d_M_reduce_41 : decode (xMc m_M_reduce) 41 = .ok (.iaload, 1) := by decide +kernel
theorem d_M_reduce_42 : decode (xMc m_M_reduce) 42 = .ok (.if_icmp .eq 87, 3) := by decide +kernel
theorem d_M_reduce_45 : decode (xMc m_M_reduce) 45 = .ok (.aload_n 0, 1) := by decide +kernel
theorem d_M_reduce_46 : decode (xMc m_M_reduce) 46 = .ok (.getfield 38, 3) := by decide +kernel
theorem d_M_reduce_49 : decode (xMc m_M_reduce) 49 = .ok (.iload 4, 2) := by decide +kernel
theorem d_M_reduce_51 : decode (xMc m_M_reduce) 51 = .ok (.iaload, 1) := by decide +kernel
theorem d_M_reduce_52 : decode (xMc m_M_reduce) 52 = .ok (.aload_n 0, 1) := by decide +kernel
theorem d_M_reduce_53 : decode (xMc m_M_reduce) 53 = .ok (.getfield 103, 3) := by decide +kernel
theorem d_M_reduce_56 : decode (xMc m_M_reduce) 56 = .ok (.invokestatic 89, 3) := by decide +kernel
theorem d_M_reduce_59 : decode (xMc m_M_reduce) 59 = .ok (.iload_n 1, 1) := by decide +kernel
theorem d_M_reduce_60 : decode (xMc m_M_reduce) 60 = .ok (.if_icmp .eq 6, 3) := by decide +kernel
theorem d_M_reduce_63 : decode (xMc m_M_reduce) 63 = .ok (.goto 66, 3) := by decide +kernel
theorem d_M_reduce_66 : decode (xMc m_M_reduce) 66 = .ok (.aload_n 0, 1) := by decide +kernel
theorem d_M_reduce_67 : decode (xMc m_M_reduce) 67 = .ok (.iload 4, 2) := by decide +kernel
theorem d_M_reduce_69 : decode (xMc m_M_reduce) 69 = .ok (.invokevirtual 115, 3) := by decide +kernel
theorem d_M_reduce_72 : decode (xMc m_M_reduce) 72 = .ok (.istore 5, 2) := by decide +kernel
theorem d_M_reduce_74 : decode (xMc m_M_reduce) 74 = .ok (.aload_n 0, 1) := by decide +kernel
theorem d_M_reduce_75 : decode (xMc m_M_reduce) 75 = .ok (.getfield 112, 3) := by decide +kernel
theorem d_M_reduce_78 : decode (xMc m_M_reduce) 78 = .ok (.ifCond .eq 51, 3) := by decide +kernel
theorem d_M_reduce_81 : decode (xMc m_M_reduce) 81 = .ok (.aload_n 0, 1) := by decide +kernel
theorem d_M_reduce_82 : decode (xMc m_M_reduce) 82 = .ok (.getfield 64, 3) := by decide +kernel
theorem d_M_reduce_85 : decode (xMc m_M_reduce) 85 = .ok (.ifCond .le 6, 3) := by decide +kernel
theorem d_M_reduce_88 : decode (xMc m_M_reduce) 88 = .ok (.goto 41, 3) := by decide +kernel
theorem d_M_reduce_91 : decode (xMc m_M_reduce) 91 = .ok (.iload_n 2, 1) := by decide +kernel
theorem d_M_reduce_92 : decode (xMc m_M_reduce) 92 = .ok (.ifCond .eq 34, 3) := by decide +kernel
theorem d_M_reduce_95 : decode (xMc m_M_reduce) 95 = .ok (.aload_n 0, 1) := by decide +kernel
theorem d_M_reduce_96 : decode (xMc m_M_reduce) 96 = .ok (.getfield 55, 3) := by decide +kernel
theorem d_M_reduce_99 : decode (xMc m_M_reduce) 99 = .ok (.iload_n 1, 1) := by decide +kernel
theorem d_M_reduce_100 : decode (xMc m_M_reduce) 100 = .ok (.bipush 100, 2) := by decide +kernel
theorem d_M_reduce_102 : decode (xMc m_M_reduce) 102 = .ok (.imul, 1) := by decide +kernel
theorem d_M_reduce_103 : decode (xMc m_M_reduce) 103 = .ok (.iload_n 3, 1) := by decide +kernel
theorem d_M_reduce_104 : decode (xMc m_M_reduce) 104 = .ok (.iadd, 1) := by decide +kernel
theorem d_M_reduce_105 : decode (xMc m_M_reduce) 105 = .ok (.aload_n 0, 1) := by decide +kernel
theorem d_M_reduce_106 : decode (xMc m_M_reduce) 106 = .ok (.getfield 38, 3) := by decide +kernel
theorem d_M_reduce_109 : decode (xMc m_M_reduce) 109 = .ok (.iload 4, 2) := by decide +kernel
theorem d_M_reduce_111 : decode (xMc m_M_reduce) 111 = .ok (.iaload, 1) := by decide +kernel
theorem d_M_reduce_112 : decode (xMc m_M_reduce) 112 = .ok (.iastore, 1) := by decide +kernel
theorem d_M_reduce_113 : decode (xMc m_M_reduce) 113 = .ok (.aload_n 0, 1) := by decide +kernel
theorem d_M_reduce_114 : decode (xMc m_M_reduce) 114 = .ok (.getfield 58, 3) := by decide +kernel
theorem d_M_reduce_117 : decode (xMc m_M_reduce) 117 = .ok (.iload_n 1, 1) := by decide +kernel
theorem d_M_reduce_118 : decode (xMc m_M_reduce) 118 = .ok (.bipush 100, 2) := by decide +kernel
theorem d_M_reduce_120 : decode (xMc m_M_reduce) 120 = .ok (.imul, 1) := by decide +kernel
theorem d_M_reduce_121 : decode (xMc m_M_reduce) 121 = .ok (.iload_n 3, 1) := by decide +kernel
theorem d_M_reduce_122 : decode (xMc m_M_reduce) 122 = .ok (.iadd, 1) := by decide +kernel
theorem d_M_reduce_123 : decode (xMc m_M_reduce) 123 = .ok (.iload 5, 2) := by decide +kernel
theorem d_M_reduce_125 : decode (xMc m_M_reduce) 125 = .ok (.iastore, 1) := by decide +kernel
theorem d_M_reduce_126 : decode (xMc m_M_reduce) 126 = .ok (.iinc 3 1, 3) := by decide +kernel
theorem d_M_reduce_129 : decode (xMc m_M_reduce) 129 = .ok (.iinc 4 1, 3) := by decide +kernel
theorem d_M_reduce_132 : decode (xMc m_M_reduce) 132 = .ok (.goto (-127), 3) := by decide +kernel
theorem d_M_reduce_135 : decode (xMc m_M_reduce) 135 = .ok (.iload_n 3, 1) := by decide +kernel
theorem d_M_reduce_136 : decode (xMc m_M_reduce) 136 = .ok (.ireturn, 1) := by decide +kernel
theorem d_M_reduced_0 : decode (xMc m_M_reduced) 0 = .ok (.iconst 0, 1) := by decide +kernel
theorem d_M_reduced_1 : decode (xMc m_M_reduced) 1 = .ok (.istore_n 2, 1) := by decide +kernel
theorem d_M_reduced_2 : decode (xMc m_M_reduced) 2 = .ok (.iconst 0, 1) := by decide +kernel
theorem d_M_reduced_3 : decode (xMc m_M_reduced) 3 = .ok (.istore_n 3, 1) := by decide +kernel
theorem d_M_reduced_4 : decode (xMc m_M_reduced) 4 = .ok (.iload_n 1, 1) := by decide +kernel
theorem d_M_reduced_5 : decode (xMc m_M_reduced) 5 = .ok (.istore 4, 2) := by decide +kernel
theorem d_M_reduced_7 : decode (xMc m_M_reduced) 7 = .ok (.iload 4, 2) := by decide +kernel
theorem d_M_reduced_9 : decode (xMc m_M_reduced) 9 = .ok (.aload_n 0, 1) := by decide +kernel
theorem d_M_reduced_10 : decode (xMc m_M_reduced) 10 = .ok (.getfield 86, 3) := by decide +kernel
theorem d_M_reduced_13 : decode (xMc m_M_reduced) 13 = .ok (.if_icmp .ge 168, 3) := by decide +kernel
theorem d_M_reduced_16 : decode (xMc m_M_reduced) 16 = .ok (.aload_n 0, 1) := by decide +kernel
theorem d_M_reduced_17 : decode (xMc m_M_reduced) 17 = .ok (.getfield 38, 3) := by decide +kernel
theorem d_M_reduced_20 : decode (xMc m_M_reduced) 20 = .ok (.iload 4, 2) := by decide +kernel
theorem d_M_reduced_22 : decode (xMc m_M_reduced) 22 = .ok (.iaload, 1) := by decide +kernel
theorem d_M_reduced_23 : decode (xMc m_M_reduced) 23 = .ok (.aload_n 0, 1) := by decide +kernel
theorem d_M_reduced_24 : decode (xMc m_M_reduced) 24 = .ok (.getfield 38, 3) := by decide +kernel
theorem d_M_reduced_27 : decode (xMc m_M_reduced) 27 = .ok (.iload_n 1, 1) := by decide +kernel
theorem d_M_reduced_28 : decode (xMc m_M_reduced) 28 = .ok (.iaload, 1) := by decide +kernel
theorem d_M_reduced_29 : decode (xMc m_M_reduced) 29 = .ok (.if_icmp .ne 152, 3) := by decide +kernel
theorem d_M_reduced_32 : decode (xMc m_M_reduced) 32 = .ok (.aload_n 0, 1) := by decide +kernel
theorem d_M_reduced_33 : decode (xMc m_M_reduced) 33 = .ok (.getfield 64, 3) := by decide +kernel
theorem d_M_reduced_36 : decode (xMc m_M_reduced) 36 = .ok (.ifCond .ne 145, 3) := by decide +kernel
theorem d_M_reduced_39 : decode (xMc m_M_reduced) 39 = .ok (.aload_n 0, 1) := by decide +kernel
theorem d_M_reduced_40 : decode (xMc m_M_reduced) 40 = .ok (.getfield 41, 3) := by decide +kernel
theorem d_M_reduced_43 : decode (xMc m_M_reduced) 43 = .ok (.iload 4, 2) := by decide +kernel
theorem d_M_reduced_45 : decode (xMc m_M_reduced) 45 = .ok (.iaload, 1) := by decide +kernel
theorem d_M_reduced_46 : decode (xMc m_M_reduced) 46 = .ok (.istore 5, 2) := by decide +kernel
theorem d_M_reduced_48 : decode (xMc m_M_reduced) 48 = .ok (.iload 5, 2) := by decide +kernel
theorem d_M_reduced_50 : decode (xMc m_M_reduced) 50 = .ok (.aload_n 0, 1) := by decide +kernel
theorem d_M_reduced_51 : decode (xMc m_M_reduced) 51 = .ok (.getfield 106, 3) := by decide +kernel
theorem d_M_reduced_54 : decode (xMc m_M_reduced) 54 = .ok (.if_icmp .ge 6, 3) := by decide +kernel
theorem d_M_reduced_57 : decode (xMc m_M_reduced) 57 = .ok (.goto 118, 3) := by decide +kernel
theorem d_M_reduced_60 : decode (xMc m_M_reduced) 60 = .ok (.aload_n 0, 1) := by decide +kernel
theorem d_M_reduced_61 : decode (xMc m_M_reduced) 61 = .ok (.getfield 109, 3) := by decide +kernel
theorem d_M_reduced_64 : decode (xMc m_M_reduced) 64 = .ok (.ifCond .ne 8, 3) := by decide +kernel
theorem d_M_reduced_67 : decode (xMc m_M_reduced) 67 = .ok (.iload_n 2, 1) := by decide +kernel
theorem d_M_reduced_68 : decode (xMc m_M_reduced) 68 = .ok (.iload 5, 2) := by decide +kernel
theorem d_M_reduced_70 : decode (xMc m_M_reduced) 70 = .ok (.iadd, 1) := by decide +kernel
theorem d_M_reduced_71 : decode (xMc m_M_reduced) 71 = .ok (.istore_n 2, 1) := by decide +kernel
theorem d_M_reduced_72 : decode (xMc m_M_reduced) 72 = .ok (.aload_n 0, 1) := by decide +kernel
theorem d_M_reduced_73 : decode (xMc m_M_reduced) 73 = .ok (.getfield 109, 3) := by decide +kernel
theorem d_M_reduced_76 : decode (xMc m_M_reduced) 76 = .ok (.iconst 1, 1) := by decide +kernel
theorem d_M_reduced_77 : decode (xMc m_M_reduced) 77 = .ok (.if_icmp .ne 7, 3) := by decide +kernel
theorem d_M_reduced_80 : decode (xMc m_M_reduced) 80 = .ok (.iload_n 3, 1) := by decide +kernel
theorem d_M_reduced_81 : decode (xMc m_M_reduced) 81 = .ok (.iconst 1, 1) := by decide +kernel
theorem d_M_reduced_82 : decode (xMc m_M_reduced) 82 = .ok (.iadd, 1) := by decide +kernel
theorem d_M_reduced_83 : decode (xMc m_M_reduced) 83 = .ok (.istore_n 2, 1) := by decide +kernel
theorem d_M_reduced_84 : decode (xMc m_M_reduced) 84 = .ok (.aload_n 0, 1) := by decide +kernel
theorem d_M_reduced_85 : decode (xMc m_M_reduced) 85 = .ok (.getfield 109, 3) := by decide +kernel
theorem d_M_reduced_88 : decode (xMc m_M_reduced) 88 = .ok (.iconst 2, 1) := by decide +kernel
theorem d_M_reduced_89 : decode (xMc m_M_reduced) 89 = .ok (.if_icmp .ne 20, 3) := by decide +kernel
theorem d_M_reduced_92 : decode (xMc m_M_reduced) 92 = .ok (.iload_n 3, 1) := by decide +kernel
theorem d_M_reduced_93 : decode (xMc m_M_reduced) 93 = .ok (.ifCond .eq 9, 3) := by decide +kernel
theorem d_M_reduced_96 : decode (xMc m_M_reduced) 96 = .ok (.iload 5, 2) := by decide +kernel
theorem d_M_reduced_98 : decode (xMc m_M_reduced) 98 = .ok (.iload_n 2, 1) := by decide +kernel
theorem d_M_reduced_99 : decode (xMc m_M_reduced) 99 = .ok (.if_icmp .le 8, 3) := by decide +kernel
theorem d_M_reduced_102 : decode (xMc m_M_reduced) 102 = .ok (.iload 5, 2) := by decide +kernel
theorem d_M_reduced_104 : decode (xMc m_M_reduced) 104 = .ok (.goto 4, 3) := by decide +kernel
theorem d_M_reduced_107 : decode (xMc m_M_reduced) 107 = .ok (.iload_n 2, 1) := by decide +kernel
theorem d_M_reduced_108 : decode (xMc m_M_reduced) 108 = .ok (.istore_n 2, 1) := by decide +kernel
theorem d_M_reduced_109 : decode (xMc m_M_reduced) 109 = .ok (.aload_n 0, 1) := by decide +kernel
theorem d_M_reduced_110 : decode (xMc m_M_reduced) 110 = .ok (.getfield 109, 3) := by decide +kernel
theorem d_M_reduced_113 : decode (xMc m_M_reduced) 113 = .ok (.iconst 3, 1) := by decide +kernel
theorem d_M_reduced_114 : decode (xMc m_M_reduced) 114 = .ok (.if_icmp .ne 11, 3) := by decide +kernel
theorem d_M_reduced_117 : decode (xMc m_M_reduced) 117 = .ok (.iload_n 2, 1) := by decide +kernel
theorem d_M_reduced_118 : decode (xMc m_M_reduced) 118 = .ok (.bipush 31, 2) := by decide +kernel
theorem d_M_reduced_120 : decode (xMc m_M_reduced) 120 = .ok (.imul, 1) := by decide +kernel
theorem d_M_reduced_121 : decode (xMc m_M_reduced) 121 = .ok (.iload 5, 2) := by decide +kernel
theorem d_M_reduced_123 : decode (xMc m_M_reduced) 123 = .ok (.iadd, 1) := by decide +kernel
theorem d_M_reduced_124 : decode (xMc m_M_reduced) 124 = .ok (.istore_n 2, 1) := by decide +kernel
theorem d_M_reduced_125 : decode (xMc m_M_reduced) 125 = .ok (.aload_n 0, 1) := by decide +kernel
theorem d_M_reduced_126 : decode (xMc m_M_reduced) 126 = .ok (.getfield 109, 3) := by decide +kernel
theorem d_M_reduced_129 : decode (xMc m_M_reduced) 129 = .ok (.iconst 4, 1) := by decide +kernel
theorem d_M_reduced_130 : decode (xMc m_M_reduced) 130 = .ok (.if_icmp .ne 20, 3) := by decide +kernel
theorem d_M_reduced_133 : decode (xMc m_M_reduced) 133 = .ok (.iload_n 3, 1) := by decide +kernel
theorem d_M_reduced_134 : decode (xMc m_M_reduced) 134 = .ok (.ifCond .le 16, 3) := by decide +kernel
theorem d_M_reduced_137 : decode (xMc m_M_reduced) 137 = .ok (.iload 5, 2) := by decide +kernel
theorem d_M_reduced_139 : decode (xMc m_M_reduced) 139 = .ok (.ifCond .ne 11, 3) := by decide +kernel
theorem d_M_reduced_142 : decode (xMc m_M_reduced) 142 = .ok (.aload_n 0, 1) := by decide +kernel
theorem d_M_reduced_143 : decode (xMc m_M_reduced) 143 = .ok (.iconst 3, 1) := by decide +kernel
theorem d_M_reduced_144 : decode (xMc m_M_reduced) 144 = .ok (.putfield 64, 3) := by decide +kernel
theorem d_M_reduced_147 : decode (xMc m_M_reduced) 147 = .ok (.goto 25, 3) := by decide +kernel
theorem d_M_reduced_150 : decode (xMc m_M_reduced) 150 = .ok (.aload_n 0, 1) := by decide +kernel
theorem d_M_reduced_151 : decode (xMc m_M_reduced) 151 = .ok (.getfield 109, 3) := by decide +kernel
theorem d_M_reduced_154 : decode (xMc m_M_reduced) 154 = .ok (.iconst 4, 1) := by decide +kernel
theorem d_M_reduced_155 : decode (xMc m_M_reduced) 155 = .ok (.if_icmp .ne 17, 3) := by decide +kernel
theorem d_M_reduced_158 : decode (xMc m_M_reduced) 158 = .ok (.iload_n 3, 1) := by decide +kernel
theorem d_M_reduced_159 : decode (xMc m_M_reduced) 159 = .ok (.ifCond .ne 8, 3) := by decide +kernel
theorem d_M_reduced_162 : decode (xMc m_M_reduced) 162 = .ok (.iload 5, 2) := by decide +kernel
theorem d_M_reduced_164 : decode (xMc m_M_reduced) 164 = .ok (.goto 7, 3) := by decide +kernel
theorem d_M_reduced_167 : decode (xMc m_M_reduced) 167 = .ok (.iload_n 2, 1) := by decide +kernel
theorem d_M_reduced_168 : decode (xMc m_M_reduced) 168 = .ok (.iload 5, 2) := by decide +kernel
theorem d_M_reduced_170 : decode (xMc m_M_reduced) 170 = .ok (.idiv, 1) := by decide +kernel
theorem d_M_reduced_171 : decode (xMc m_M_reduced) 171 = .ok (.istore_n 2, 1) := by decide +kernel
theorem d_M_reduced_172 : decode (xMc m_M_reduced) 172 = .ok (.iinc 3 1, 3) := by decide +kernel
theorem d_M_reduced_175 : decode (xMc m_M_reduced) 175 = .ok (.iinc 4 1, 3) := by decide +kernel
theorem d_M_reduced_178 : decode (xMc m_M_reduced) 178 = .ok (.goto (-171), 3) := by decide +kernel
theorem d_M_reduced_181 : decode (xMc m_M_reduced) 181 = .ok (.aload_n 0, 1) := by decide +kernel
theorem d_M_reduced_182 : decode (xMc m_M_reduced) 182 = .ok (.iload_n 3, 1) := by decide +kernel
theorem d_M_reduced_183 : decode (xMc m_M_reduced) 183 = .ok (.ifCond .le 7, 3) := by decide +kernel
theorem d_M_reduced_186 : decode (xMc m_M_reduced) 186 = .ok (.iconst 1, 1) := by decide +kernel
theorem d_M_reduced_187 : decode (xMc m_M_reduced) 187 = .ok (.goto 4, 3) := by decide +kernel
theorem d_M_reduced_190 : decode (xMc m_M_reduced) 190 = .ok (.iconst 0, 1) := by decide +kernel
theorem d_M_reduced_191 : decode (xMc m_M_reduced) 191 = .ok (.putfield 112, 3) := by decide +kernel
theorem d_M_reduced_194 : decode (xMc m_M_reduced) 194 = .ok (.iload_n 2, 1) := by decide +kernel
theorem d_M_reduced_195 : decode (xMc m_M_reduced) 195 = .ok (.ireturn, 1) := by decide +kernel
theorem d_M_end_0 : decode (xMc m_M_end) 0 = .ok (.aload_n 0, 1) := by decide +kernel
theorem d_M_end_1 : decode (xMc m_M_end) 1 = .ok (.iconst 0, 1) := by decide +kernel
theorem d_M_end_2 : decode (xMc m_M_end) 2 = .ok (.putfield 75, 3) := by decide +kernel
theorem d_M_end_5 : decode (xMc m_M_end) 5 = .ok (.aload_n 0, 1) := by decide +kernel
theorem d_M_end_6 : decode (xMc m_M_end) 6 = .ok (.dup, 1) := by decide +kernel
theorem d_M_end_7 : decode (xMc m_M_end) 7 = .ok (.getfield 164, 3) := by decide +kernel
theorem d_M_end_10 : decode (xMc m_M_end) 10 = .ok (.iconst 1, 1) := by decide +kernel
theorem d_M_end_11 : decode (xMc m_M_end) 11 = .ok (.iadd, 1) := by decide +kernel
theorem d_M_end_12 : decode (xMc m_M_end) 12 = .ok (.putfield 164, 3) := by decide +kernel
theorem d_M_end_15 : decode (xMc m_M_end) 15 = .ok (.aload_n 0, 1) := by decide +kernel
theorem d_M_end_16 : decode (xMc m_M_end) 16 = .ok (.aload_n 0, 1) := by decide +kernel
theorem d_M_end_17 : decode (xMc m_M_end) 17 = .ok (.getfield 103, 3) := by decide +kernel
theorem d_M_end_20 : decode (xMc m_M_end) 20 = .ok (.putfield 167, 3) := by decide +kernel
theorem d_M_end_23 : decode (xMc m_M_end) 23 = .ok (.iconst 0, 1) := by decide +kernel
theorem d_M_end_24 : decode (xMc m_M_end) 24 = .ok (.istore_n 1, 1) := by decide +kernel
theorem d_M_end_25 : decode (xMc m_M_end) 25 = .ok (.iload_n 1, 1) := by decide +kernel
theorem d_M_end_26 : decode (xMc m_M_end) 26 = .ok (.aload_n 0, 1) := by decide +kernel
theorem d_M_end_27 : decode (xMc m_M_end) 27 = .ok (.getfield 103, 3) := by decide +kernel
theorem d_M_end_30 : decode (xMc m_M_end) 30 = .ok (.if_icmp .ge 21, 3) := by decide +kernel
theorem d_M_end_33 : decode (xMc m_M_end) 33 = .ok (.aload_n 0, 1) := by decide +kernel
theorem d_M_end_34 : decode (xMc m_M_end) 34 = .ok (.getfield 61, 3) := by decide +kernel
theorem d_M_end_37 : decode (xMc m_M_end) 37 = .ok (.iload_n 1, 1) := by decide +kernel
theorem d_M_end_38 : decode (xMc m_M_end) 38 = .ok (.aload_n 0, 1) := by decide +kernel
theorem d_M_end_39 : decode (xMc m_M_end) 39 = .ok (.iload_n 1, 1) := by decide +kernel
theorem d_M_end_40 : decode (xMc m_M_end) 40 = .ok (.iconst 1, 1) := by decide +kernel
theorem d_M_end_41 : decode (xMc m_M_end) 41 = .ok (.invokevirtual 160, 3) := by decide +kernel
theorem d_M_end_44 : decode (xMc m_M_end) 44 = .ok (.iastore, 1) := by decide +kernel
theorem d_M_end_45 : decode (xMc m_M_end) 45 = .ok (.iinc 1 1, 3) := by decide +kernel
theorem d_M_end_48 : decode (xMc m_M_end) 48 = .ok (.goto (-23), 3) := by decide +kernel
theorem d_M_end_51 : decode (xMc m_M_end) 51 = .ok (.return_, 1) := by decide +kernel
theorem d_M_stop_0 : decode (xMc m_M_stop) 0 = .ok (.aload_n 0, 1) := by decide +kernel
theorem d_M_stop_1 : decode (xMc m_M_stop) 1 = .ok (.aload_n 0, 1) := by decide +kernel
theorem d_M_stop_2 : decode (xMc m_M_stop) 2 = .ok (.getfield 75, 3) := by decide +kernel
theorem d_M_stop_5 : decode (xMc m_M_stop) 5 = .ok (.ifCond .eq 7, 3) := by decide +kernel
theorem d_M_stop_8 : decode (xMc m_M_stop) 8 = .ok (.iconst 0, 1) := by decide +kernel
theorem d_M_stop_9 : decode (xMc m_M_stop) 9 = .ok (.goto 4, 3) := by decide +kernel
theorem d_M_stop_12 : decode (xMc m_M_stop) 12 = .ok (.iconst 1, 1) := by decide +kernel
theorem d_M_stop_13 : decode (xMc m_M_stop) 13 = .ok (.putfield 64, 3) := by decide +kernel
theorem d_M_stop_16 : decode (xMc m_M_stop) 16 = .ok (.aload_n 0, 1) := by decide +kernel
theorem d_M_stop_17 : decode (xMc m_M_stop) 17 = .ok (.getfield 75, 3) := by decide +kernel
theorem d_M_stop_20 : decode (xMc m_M_stop) 20 = .ok (.ifCond .ne 4, 3) := by decide +kernel
theorem d_M_stop_23 : decode (xMc m_M_stop) 23 = .ok (.return_, 1) := by decide +kernel
theorem d_M_stop_24 : decode (xMc m_M_stop) 24 = .ok (.aload_n 0, 1) := by decide +kernel
theorem d_M_stop_25 : decode (xMc m_M_stop) 25 = .ok (.iconst 0, 1) := by decide +kernel
theorem d_M_stop_26 : decode (xMc m_M_stop) 26 = .ok (.putfield 75, 3) := by decide +kernel
theorem d_M_stop_29 : decode (xMc m_M_stop) 29 = .ok (.aload_n 0, 1) := by decide +kernel
theorem d_M_stop_30 : decode (xMc m_M_stop) 30 = .ok (.iconst 0, 1) := by decide +kernel
theorem d_M_stop_31 : decode (xMc m_M_stop) 31 = .ok (.invokevirtual 121, 3) := by decide +kernel
theorem d_M_stop_34 : decode (xMc m_M_stop) 34 = .ok (.return_, 1) := by decide +kernel
theorem d_M_output_0 : decode (xMc m_M_output) 0 = .ok (.aload_n 0, 1) := by decide +kernel
theorem d_M_output_1 : decode (xMc m_M_output) 1 = .ok (.iload_n 1, 1) := by decide +kernel
theorem d_M_output_2 : decode (xMc m_M_output) 2 = .ok (.iconst 0, 1) := by decide +kernel
theorem d_M_output_3 : decode (xMc m_M_output) 3 = .ok (.iconst 2, 1) := by decide +kernel
theorem d_M_output_4 : decode (xMc m_M_output) 4 = .ok (.invokestatic 67, 3) := by decide +kernel
theorem d_M_output_7 : decode (xMc m_M_output) 7 = .ok (.ifCond .eq 16, 3) := by decide +kernel
theorem d_M_output_10 : decode (xMc m_M_output) 10 = .ok (.iload_n 3, 1) := by decide +kernel
theorem d_M_output_11 : decode (xMc m_M_output) 11 = .ok (.iconst 0, 1) := by decide +kernel
theorem d_M_output_12 : decode (xMc m_M_output) 12 = .ok (.iconst 1, 1) := by decide +kernel
theorem d_M_output_13 : decode (xMc m_M_output) 13 = .ok (.invokestatic 67, 3) := by decide +kernel
theorem d_M_output_16 : decode (xMc m_M_output) 16 = .ok (.ifCond .eq 7, 3) := by decide +kernel
theorem d_M_output_19 : decode (xMc m_M_output) 19 = .ok (.iconst 1, 1) := by decide +kernel
theorem d_M_output_20 : decode (xMc m_M_output) 20 = .ok (.goto 4, 3) := by decide +kernel
theorem d_M_output_23 : decode (xMc m_M_output) 23 = .ok (.iconst 0, 1) := by decide +kernel
theorem d_M_output_24 : decode (xMc m_M_output) 24 = .ok (.invokevirtual 71, 3) := by decide +kernel
theorem d_M_output_27 : decode (xMc m_M_output) 27 = .ok (.ifCond .eq 5, 3) := by decide +kernel
theorem d_M_output_30 : decode (xMc m_M_output) 30 = .ok (.iconst 0, 1) := by decide +kernel
theorem d_M_output_31 : decode (xMc m_M_output) 31 = .ok (.ireturn, 1) := by decide +kernel
theorem d_M_output_32 : decode (xMc m_M_output) 32 = .ok (.iload_n 1, 1) := by decide +kernel
theorem d_M_output_33 : decode (xMc m_M_output) 33 = .ok (.aload_n 0, 1) := by decide +kernel
theorem d_M_output_34 : decode (xMc m_M_output) 34 = .ok (.getfield 167, 3) := by decide +kernel
theorem d_M_output_37 : decode (xMc m_M_output) 37 = .ok (.if_icmp .ge 18, 3) := by decide +kernel
theorem d_M_output_40 : decode (xMc m_M_output) 40 = .ok (.iload_n 2, 1) := by decide +kernel
theorem d_M_output_41 : decode (xMc m_M_output) 41 = .ok (.iconst (-1), 1) := by decide +kernel
theorem d_M_output_42 : decode (xMc m_M_output) 42 = .ok (.if_icmp .lt 13, 3) := by decide +kernel
theorem d_M_output_45 : decode (xMc m_M_output) 45 = .ok (.iload_n 2, 1) := by decide +kernel
theorem d_M_output_46 : decode (xMc m_M_output) 46 = .ok (.aload_n 0, 1) := by decide +kernel
theorem d_M_output_47 : decode (xMc m_M_output) 47 = .ok (.getfield 61, 3) := by decide +kernel
theorem d_M_output_50 : decode (xMc m_M_output) 50 = .ok (.iload_n 1, 1) := by decide +kernel
theorem d_M_output_51 : decode (xMc m_M_output) 51 = .ok (.iaload, 1) := by decide +kernel
theorem d_M_output_52 : decode (xMc m_M_output) 52 = .ok (.if_icmp .lt 9, 3) := by decide +kernel
theorem d_M_output_55 : decode (xMc m_M_output) 55 = .ok (.aload_n 0, 1) := by decide +kernel
theorem d_M_output_56 : decode (xMc m_M_output) 56 = .ok (.iconst 2, 1) := by decide +kernel
theorem d_M_output_57 : decode (xMc m_M_output) 57 = .ok (.invokevirtual 82, 3) := by decide +kernel
theorem d_M_output_60 : decode (xMc m_M_output) 60 = .ok (.ireturn, 1) := by decide +kernel
theorem d_M_output_61 : decode (xMc m_M_output) 61 = .ok (.iload_n 2, 1) := by decide +kernel
theorem d_M_output_62 : decode (xMc m_M_output) 62 = .ok (.ifCond .ge 12, 3) := by decide +kernel
theorem d_M_output_65 : decode (xMc m_M_output) 65 = .ok (.aload_n 0, 1) := by decide +kernel
theorem d_M_output_66 : decode (xMc m_M_output) 66 = .ok (.getfield 61, 3) := by decide +kernel
theorem d_M_output_69 : decode (xMc m_M_output) 69 = .ok (.iload_n 1, 1) := by decide +kernel
theorem d_M_output_70 : decode (xMc m_M_output) 70 = .ok (.iaload, 1) := by decide +kernel
theorem d_M_output_71 : decode (xMc m_M_output) 71 = .ok (.goto 32, 3) := by decide +kernel
theorem d_M_output_74 : decode (xMc m_M_output) 74 = .ok (.iload_n 3, 1) := by decide +kernel
theorem d_M_output_75 : decode (xMc m_M_output) 75 = .ok (.ifCond .ne 17, 3) := by decide +kernel
theorem d_M_output_78 : decode (xMc m_M_output) 78 = .ok (.aload_n 0, 1) := by decide +kernel
theorem d_M_output_79 : decode (xMc m_M_output) 79 = .ok (.getfield 55, 3) := by decide +kernel
theorem d_M_output_82 : decode (xMc m_M_output) 82 = .ok (.iload_n 1, 1) := by decide +kernel
theorem d_M_output_83 : decode (xMc m_M_output) 83 = .ok (.bipush 100, 2) := by decide +kernel
theorem d_M_output_85 : decode (xMc m_M_output) 85 = .ok (.imul, 1) := by decide +kernel
theorem d_M_output_86 : decode (xMc m_M_output) 86 = .ok (.iload_n 2, 1) := by decide +kernel
theorem d_M_output_87 : decode (xMc m_M_output) 87 = .ok (.iadd, 1) := by decide +kernel
theorem d_M_output_88 : decode (xMc m_M_output) 88 = .ok (.iaload, 1) := by decide +kernel
theorem d_M_output_89 : decode (xMc m_M_output) 89 = .ok (.goto 14, 3) := by decide +kernel
theorem d_M_output_92 : decode (xMc m_M_output) 92 = .ok (.aload_n 0, 1) := by decide +kernel
theorem d_M_output_93 : decode (xMc m_M_output) 93 = .ok (.getfield 58, 3) := by decide +kernel
theorem d_M_output_96 : decode (xMc m_M_output) 96 = .ok (.iload_n 1, 1) := by decide +kernel
theorem d_M_output_97 : decode (xMc m_M_output) 97 = .ok (.bipush 100, 2) := by decide +kernel
theorem d_M_output_99 : decode (xMc m_M_output) 99 = .ok (.imul, 1) := by decide +kernel
theorem d_M_output_100 : decode (xMc m_M_output) 100 = .ok (.iload_n 2, 1) := by decide +kernel
theorem d_M_output_101 : decode (xMc m_M_output) 101 = .ok (.iadd, 1) := by decide +kernel
theorem d_M_output_102 : decode (xMc m_M_output) 102 = .ok (.iaload, 1) := by decide +kernel
theorem d_M_output_103 : decode (xMc m_M_output) 103 = .ok (.ireturn, 1) := by decide +kernel
theorem d_M_find_0 : decode (xMc m_M_find) 0 = .ok (.aload_n 0, 1) := by decide +kernel
theorem d_M_find_1 : decode (xMc m_M_find) 1 = .ok (.iconst 0, 1) := by decide +kernel
theorem d_M_find_2 : decode (xMc m_M_find) 2 = .ok (.putfield 64, 3) := by decide +kernel
theorem d_M_find_5 : decode (xMc m_M_find) 5 = .ok (.iconst 0, 1) := by decide +kernel
theorem d_M_find_6 : decode (xMc m_M_find) 6 = .ok (.istore_n 2, 1) := by decide +kernel
theorem d_M_find_7 : decode (xMc m_M_find) 7 = .ok (.iload_n 2, 1) := by decide +kernel
theorem d_M_find_8 : decode (xMc m_M_find) 8 = .ok (.aload_n 0, 1) := by decide +kernel
theorem d_M_find_9 : decode (xMc m_M_find) 9 = .ok (.getfield 167, 3) := by decide +kernel
theorem d_M_find_12 : decode (xMc m_M_find) 12 = .ok (.if_icmp .ge 54, 3) := by decide +kernel
theorem d_M_find_15 : decode (xMc m_M_find) 15 = .ok (.iconst 0, 1) := by decide +kernel
theorem d_M_find_16 : decode (xMc m_M_find) 16 = .ok (.istore_n 3, 1) := by decide +kernel
theorem d_M_find_17 : decode (xMc m_M_find) 17 = .ok (.iload_n 3, 1) := by decide +kernel
theorem d_M_find_18 : decode (xMc m_M_find) 18 = .ok (.aload_n 0, 1) := by decide +kernel
theorem d_M_find_19 : decode (xMc m_M_find) 19 = .ok (.getfield 61, 3) := by decide +kernel
theorem d_M_find_22 : decode (xMc m_M_find) 22 = .ok (.iload_n 2, 1) := by decide +kernel
theorem d_M_find_23 : decode (xMc m_M_find) 23 = .ok (.iaload, 1) := by decide +kernel
theorem d_M_find_24 : decode (xMc m_M_find) 24 = .ok (.if_icmp .ge 36, 3) := by decide +kernel
theorem d_M_find_27 : decode (xMc m_M_find) 27 = .ok (.aload_n 0, 1) := by decide +kernel
theorem d_M_find_28 : decode (xMc m_M_find) 28 = .ok (.getfield 55, 3) := by decide +kernel
theorem d_M_find_31 : decode (xMc m_M_find) 31 = .ok (.iload_n 2, 1) := by decide +kernel
theorem d_M_find_32 : decode (xMc m_M_find) 32 = .ok (.bipush 100, 2) := by decide +kernel
theorem d_M_find_34 : decode (xMc m_M_find) 34 = .ok (.imul, 1) := by decide +kernel
theorem d_M_find_35 : decode (xMc m_M_find) 35 = .ok (.iload_n 3, 1) := by decide +kernel
theorem d_M_find_36 : decode (xMc m_M_find) 36 = .ok (.iadd, 1) := by decide +kernel
theorem d_M_find_37 : decode (xMc m_M_find) 37 = .ok (.iaload, 1) := by decide +kernel
theorem d_M_find_38 : decode (xMc m_M_find) 38 = .ok (.iload_n 1, 1) := by decide +kernel
theorem d_M_find_39 : decode (xMc m_M_find) 39 = .ok (.if_icmp .ne 15, 3) := by decide +kernel
theorem d_M_find_42 : decode (xMc m_M_find) 42 = .ok (.aload_n 0, 1) := by decide +kernel
theorem d_M_find_43 : decode (xMc m_M_find) 43 = .ok (.getfield 58, 3) := by decide +kernel
theorem d_M_find_46 : decode (xMc m_M_find) 46 = .ok (.iload_n 2, 1) := by decide +kernel
theorem d_M_find_47 : decode (xMc m_M_find) 47 = .ok (.bipush 100, 2) := by decide +kernel
theorem d_M_find_49 : decode (xMc m_M_find) 49 = .ok (.imul, 1) := by decide +kernel
theorem d_M_find_50 : decode (xMc m_M_find) 50 = .ok (.iload_n 3, 1) := by decide +kernel
theorem d_M_find_51 : decode (xMc m_M_find) 51 = .ok (.iadd, 1) := by decide +kernel
theorem d_M_find_52 : decode (xMc m_M_find) 52 = .ok (.iaload, 1) := by decide +kernel
theorem d_M_find_53 : decode (xMc m_M_find) 53 = .ok (.ireturn, 1) := by decide +kernel
theorem d_M_find_54 : decode (xMc m_M_find) 54 = .ok (.iinc 3 1, 3) := by decide +kernel
theorem d_M_find_57 : decode (xMc m_M_find) 57 = .ok (.goto (-40), 3) := by decide +kernel
theorem d_M_find_60 : decode (xMc m_M_find) 60 = .ok (.iinc 2 1, 3) := by decide +kernel
theorem d_M_find_63 : decode (xMc m_M_find) 63 = .ok (.goto (-56), 3) := by decide +kernel
theorem d_M_find_66 : decode (xMc m_M_find) 66 = .ok (.aload_n 0, 1) := by decide +kernel
theorem d_M_find_67 : decode (xMc m_M_find) 67 = .ok (.iconst 1, 1) := by decide +kernel
theorem d_M_find_68 : decode (xMc m_M_find) 68 = .ok (.invokevirtual 82, 3) := by decide +kernel
theorem d_M_find_71 : decode (xMc m_M_find) 71 = .ok (.ireturn, 1) := by decide +kernel
theorem d_M_task_0 : decode (xMc m_M_task) 0 = .ok (.aload_n 0, 1) := by decide +kernel
theorem d_M_task_1 : decode (xMc m_M_task) 1 = .ok (.iload_n 2, 1) := by decide +kernel
theorem d_M_task_2 : decode (xMc m_M_task) 2 = .ok (.iconst 0, 1) := by decide +kernel
theorem d_M_task_3 : decode (xMc m_M_task) 3 = .ok (.iload_n 1, 1) := by decide +kernel
theorem d_M_task_4 : decode (xMc m_M_task) 4 = .ok (.ifCond .eq 7, 3) := by decide +kernel
theorem d_M_task_7 : decode (xMc m_M_task) 7 = .ok (.iconst 5, 1) := by decide +kernel
theorem d_M_task_8 : decode (xMc m_M_task) 8 = .ok (.goto 4, 3) := by decide +kernel
theorem d_M_task_11 : decode (xMc m_M_task) 11 = .ok (.iconst 2, 1) := by decide +kernel
theorem d_M_task_12 : decode (xMc m_M_task) 12 = .ok (.invokestatic 67, 3) := by decide +kernel
theorem d_M_task_15 : decode (xMc m_M_task) 15 = .ok (.ifCond .eq 16, 3) := by decide +kernel
theorem d_M_task_18 : decode (xMc m_M_task) 18 = .ok (.iload_n 3, 1) := by decide +kernel
theorem d_M_task_19 : decode (xMc m_M_task) 19 = .ok (.iconst 0, 1) := by decide +kernel
theorem d_M_task_20 : decode (xMc m_M_task) 20 = .ok (.iconst 3, 1) := by decide +kernel
theorem d_M_task_21 : decode (xMc m_M_task) 21 = .ok (.invokestatic 67, 3) := by decide +kernel
theorem d_M_task_24 : decode (xMc m_M_task) 24 = .ok (.ifCond .eq 7, 3) := by decide +kernel
theorem d_M_task_27 : decode (xMc m_M_task) 27 = .ok (.iconst 1, 1) := by decide +kernel
theorem d_M_task_28 : decode (xMc m_M_task) 28 = .ok (.goto 4, 3) := by decide +kernel
theorem d_M_task_31 : decode (xMc m_M_task) 31 = .ok (.iconst 0, 1) := by decide +kernel
theorem d_M_task_32 : decode (xMc m_M_task) 32 = .ok (.invokevirtual 71, 3) := by decide +kernel
theorem d_M_task_35 : decode (xMc m_M_task) 35 = .ok (.ifCond .eq 5, 3) := by decide +kernel
theorem d_M_task_38 : decode (xMc m_M_task) 38 = .ok (.iconst 0, 1) := by decide +kernel
theorem d_M_task_39 : decode (xMc m_M_task) 39 = .ok (.ireturn, 1) := by decide +kernel
theorem d_M_task_40 : decode (xMc m_M_task) 40 = .ok (.aload_n 0, 1) := by decide +kernel
theorem d_M_task_41 : decode (xMc m_M_task) 41 = .ok (.getfield 75, 3) := by decide +kernel
theorem d_M_task_44 : decode (xMc m_M_task) 44 = .ok (.ifCond .ne 9, 3) := by decide +kernel
theorem d_M_task_47 : decode (xMc m_M_task) 47 = .ok (.aload_n 0, 1) := by decide +kernel
theorem d_M_task_48 : decode (xMc m_M_task) 48 = .ok (.iconst 3, 1) := by decide +kernel
theorem d_M_task_49 : decode (xMc m_M_task) 49 = .ok (.invokevirtual 82, 3) := by decide +kernel
theorem d_M_task_52 : decode (xMc m_M_task) 52 = .ok (.ireturn, 1) := by decide +kernel
theorem d_M_task_53 : decode (xMc m_M_task) 53 = .ok (.iload_n 2, 1) := by decide +kernel
theorem d_M_task_54 : decode (xMc m_M_task) 54 = .ok (.iload_n 1, 1) := by decide +kernel
theorem d_M_task_55 : decode (xMc m_M_task) 55 = .ok (.ifCond .eq 10, 3) := by decide +kernel
theorem d_M_task_58 : decode (xMc m_M_task) 58 = .ok (.aload_n 0, 1) := by decide +kernel
theorem d_M_task_59 : decode (xMc m_M_task) 59 = .ok (.getfield 79, 3) := by decide +kernel
theorem d_M_task_62 : decode (xMc m_M_task) 62 = .ok (.goto 7, 3) := by decide +kernel
theorem d_M_task_65 : decode (xMc m_M_task) 65 = .ok (.aload_n 0, 1) := by decide +kernel
theorem d_M_task_66 : decode (xMc m_M_task) 66 = .ok (.getfield 103, 3) := by decide +kernel
theorem d_M_task_69 : decode (xMc m_M_task) 69 = .ok (.if_icmp .lt 9, 3) := by decide +kernel
theorem d_M_task_72 : decode (xMc m_M_task) 72 = .ok (.aload_n 0, 1) := by decide +kernel
theorem d_M_task_73 : decode (xMc m_M_task) 73 = .ok (.iconst 2, 1) := by decide +kernel
theorem d_M_task_74 : decode (xMc m_M_task) 74 = .ok (.invokevirtual 82, 3) := by decide +kernel
theorem d_M_task_77 : decode (xMc m_M_task) 77 = .ok (.ireturn, 1) := by decide +kernel
theorem d_M_task_78 : decode (xMc m_M_task) 78 = .ok (.iload_n 1, 1) := by decide +kernel
theorem d_M_task_79 : decode (xMc m_M_task) 79 = .ok (.ifCond .eq 7, 3) := by decide +kernel
theorem d_M_task_82 : decode (xMc m_M_task) 82 = .ok (.iload_n 2, 1) := by decide +kernel
theorem d_M_task_83 : decode (xMc m_M_task) 83 = .ok (.goto 7, 3) := by decide +kernel
theorem d_M_task_86 : decode (xMc m_M_task) 86 = .ok (.iload_n 2, 1) := by decide +kernel
theorem d_M_task_87 : decode (xMc m_M_task) 87 = .ok (.bipush 8, 2) := by decide +kernel
theorem d_M_task_89 : decode (xMc m_M_task) 89 = .ok (.iadd, 1) := by decide +kernel
theorem d_M_task_90 : decode (xMc m_M_task) 90 = .ok (.istore 4, 2) := by decide +kernel
theorem d_M_task_92 : decode (xMc m_M_task) 92 = .ok (.aload_n 0, 1) := by decide +kernel
theorem d_M_task_93 : decode (xMc m_M_task) 93 = .ok (.getfield 32, 3) := by decide +kernel
theorem d_M_task_96 : decode (xMc m_M_task) 96 = .ok (.iload 4, 2) := by decide +kernel
theorem d_M_task_98 : decode (xMc m_M_task) 98 = .ok (.baload, 1) := by decide +kernel
theorem d_M_task_99 : decode (xMc m_M_task) 99 = .ok (.ifCond .eq 13, 3) := by decide +kernel
theorem d_M_task_102 : decode (xMc m_M_task) 102 = .ok (.aload_n 0, 1) := by decide +kernel
theorem d_M_task_103 : decode (xMc m_M_task) 103 = .ok (.getfield 35, 3) := by decide +kernel
theorem d_M_task_106 : decode (xMc m_M_task) 106 = .ok (.iload 4, 2) := by decide +kernel
theorem d_M_task_108 : decode (xMc m_M_task) 108 = .ok (.iaload, 1) := by decide +kernel
theorem d_M_task_109 : decode (xMc m_M_task) 109 = .ok (.goto 4, 3) := by decide +kernel
theorem d_M_task_112 : decode (xMc m_M_task) 112 = .ok (.iconst (-1), 1) := by decide +kernel
theorem d_M_task_113 : decode (xMc m_M_task) 113 = .ok (.istore 5, 2) := by decide +kernel
theorem d_M_task_115 : decode (xMc m_M_task) 115 = .ok (.iconst 3, 1) := by decide +kernel
theorem d_M_task_116 : decode (xMc m_M_task) 116 = .ok (.istore 6, 2) := by decide +kernel
theorem d_M_task_118 : decode (xMc m_M_task) 118 = .ok (.iload 6, 2) := by decide +kernel
theorem d_M_task_120 : decode (xMc m_M_task) 120 = .ok (.ifCond .lt 35, 3) := by decide +kernel
theorem d_M_task_123 : decode (xMc m_M_task) 123 = .ok (.aload_n 0, 1) := by decide +kernel
theorem d_M_task_124 : decode (xMc m_M_task) 124 = .ok (.getfield 32, 3) := by decide +kernel
theorem d_M_task_127 : decode (xMc m_M_task) 127 = .ok (.iload 4, 2) := by decide +kernel
theorem d_M_task_129 : decode (xMc m_M_task) 129 = .ok (.baload, 1) := by decide +kernel
theorem d_M_task_130 : decode (xMc m_M_task) 130 = .ok (.ifCond .ne 25, 3) := by decide +kernel
theorem d_M_task_133 : decode (xMc m_M_task) 133 = .ok (.aload_n 0, 1) := by decide +kernel
theorem d_M_task_134 : decode (xMc m_M_task) 134 = .ok (.getfield 19, 3) := by decide +kernel
theorem d_M_task_137 : decode (xMc m_M_task) 137 = .ok (.iload 6, 2) := by decide +kernel
theorem d_M_task_139 : decode (xMc m_M_task) 139 = .ok (.iaload, 1) := by decide +kernel
theorem d_M_task_140 : decode (xMc m_M_task) 140 = .ok (.iload 4, 2) := by decide +kernel
theorem d_M_task_142 : decode (xMc m_M_task) 142 = .ok (.if_icmp .ne 7, 3) := by decide +kernel
theorem d_M_task_145 : decode (xMc m_M_task) 145 = .ok (.iload 6, 2) := by decide +kernel
theorem d_M_task_147 : decode (xMc m_M_task) 147 = .ok (.istore 5, 2) := by decide +kernel
theorem d_M_task_149 : decode (xMc m_M_task) 149 = .ok (.iinc 6 (-1), 3) := by decide +kernel
theorem d_M_task_152 : decode (xMc m_M_task) 152 = .ok (.goto (-34), 3) := by decide +kernel
theorem d_M_task_155 : decode (xMc m_M_task) 155 = .ok (.iload_n 3, 1) := by decide +kernel
theorem d_M_task_156 : decode (xMc m_M_task) 156 = .ok (.ifCond .ne 28, 3) := by decide +kernel
theorem d_M_task_159 : decode (xMc m_M_task) 159 = .ok (.aload_n 0, 1) := by decide +kernel
theorem d_M_task_160 : decode (xMc m_M_task) 160 = .ok (.getfield 32, 3) := by decide +kernel
theorem d_M_task_163 : decode (xMc m_M_task) 163 = .ok (.iload 4, 2) := by decide +kernel
theorem d_M_task_165 : decode (xMc m_M_task) 165 = .ok (.baload, 1) := by decide +kernel
theorem d_M_task_166 : decode (xMc m_M_task) 166 = .ok (.ifCond .eq 7, 3) := by decide +kernel
theorem d_M_task_169 : decode (xMc m_M_task) 169 = .ok (.iconst 2, 1) := by decide +kernel
theorem d_M_task_170 : decode (xMc m_M_task) 170 = .ok (.goto 13, 3) := by decide +kernel
theorem d_M_task_173 : decode (xMc m_M_task) 173 = .ok (.iload 5, 2) := by decide +kernel
theorem d_M_task_175 : decode (xMc m_M_task) 175 = .ok (.ifCond .lt 7, 3) := by decide +kernel
theorem d_M_task_178 : decode (xMc m_M_task) 178 = .ok (.iconst 1, 1) := by decide +kernel
theorem d_M_task_179 : decode (xMc m_M_task) 179 = .ok (.goto 4, 3) := by decide +kernel
theorem d_M_task_182 : decode (xMc m_M_task) 182 = .ok (.iconst 0, 1) := by decide +kernel
theorem d_M_task_183 : decode (xMc m_M_task) 183 = .ok (.ireturn, 1) := by decide +kernel
theorem d_M_task_184 : decode (xMc m_M_task) 184 = .ok (.iload_n 3, 1) := by decide +kernel
theorem d_M_task_185 : decode (xMc m_M_task) 185 = .ok (.iconst 1, 1) := by decide +kernel
theorem d_M_task_186 : decode (xMc m_M_task) 186 = .ok (.if_icmp .ne 25, 3) := by decide +kernel
theorem d_M_task_189 : decode (xMc m_M_task) 189 = .ok (.iload_n 1, 1) := by decide +kernel
theorem d_M_task_190 : decode (xMc m_M_task) 190 = .ok (.ifCond .ne 10, 3) := by decide +kernel
theorem d_M_task_193 : decode (xMc m_M_task) 193 = .ok (.aload_n 0, 1) := by decide +kernel
theorem d_M_task_194 : decode (xMc m_M_task) 194 = .ok (.invokevirtual 140, 3) := by decide +kernel
theorem d_M_task_197 : decode (xMc m_M_task) 197 = .ok (.ifCond .eq 12, 3) := by decide +kernel
theorem d_M_task_200 : decode (xMc m_M_task) 200 = .ok (.aload_n 0, 1) := by decide +kernel
theorem d_M_task_201 : decode (xMc m_M_task) 201 = .ok (.iload 4, 2) := by decide +kernel
theorem d_M_task_203 : decode (xMc m_M_task) 203 = .ok (.invokevirtual 157, 3) := by decide +kernel
theorem d_M_task_206 : decode (xMc m_M_task) 206 = .ok (.goto 4, 3) := by decide +kernel
theorem d_M_task_209 : decode (xMc m_M_task) 209 = .ok (.iconst 0, 1) := by decide +kernel
theorem d_M_task_210 : decode (xMc m_M_task) 210 = .ok (.ireturn, 1) := by decide +kernel
theorem d_M_task_211 : decode (xMc m_M_task) 211 = .ok (.iload_n 3, 1) := by decide +kernel
theorem d_M_task_212 : decode (xMc m_M_task) 212 = .ok (.iconst 2, 1) := by decide +kernel
theorem d_M_task_213 : decode (xMc m_M_task) 213 = .ok (.if_icmp .ne 19, 3) := by decide +kernel
theorem d_M_task_216 : decode (xMc m_M_task) 216 = .ok (.iload_n 1, 1) := by decide +kernel
theorem d_M_task_217 : decode (xMc m_M_task) 217 = .ok (.ifCond .eq 11, 3) := by decide +kernel
theorem d_M_task_220 : decode (xMc m_M_task) 220 = .ok (.aload_n 0, 1) := by decide +kernel
theorem d_M_task_221 : decode (xMc m_M_task) 221 = .ok (.iload_n 2, 1) := by decide +kernel
theorem d_M_task_222 : decode (xMc m_M_task) 222 = .ok (.invokevirtual 134, 3) := by decide +kernel
theorem d_M_task_225 : decode (xMc m_M_task) 225 = .ok (.goto 9, 3) := by decide +kernel
theorem d_M_task_228 : decode (xMc m_M_task) 228 = .ok (.iconst 0, 1) := by decide +kernel
theorem d_M_task_229 : decode (xMc m_M_task) 229 = .ok (.goto 5, 3) := by decide +kernel
theorem d_M_task_232 : decode (xMc m_M_task) 232 = .ok (.iload 5, 2) := by decide +kernel
theorem d_M_task_234 : decode (xMc m_M_task) 234 = .ok (.ireturn, 1) := by decide +kernel
theorem d_M_ofWorker_0 : decode (xMc m_M_ofWorker) 0 = .ok (.aload_n 0, 1) := by decide +kernel
theorem d_M_ofWorker_1 : decode (xMc m_M_ofWorker) 1 = .ok (.iload_n 1, 1) := by decide +kernel
theorem d_M_ofWorker_2 : decode (xMc m_M_ofWorker) 2 = .ok (.iconst 0, 1) := by decide +kernel
theorem d_M_ofWorker_3 : decode (xMc m_M_ofWorker) 3 = .ok (.iconst 3, 1) := by decide +kernel
theorem d_M_ofWorker_4 : decode (xMc m_M_ofWorker) 4 = .ok (.invokestatic 67, 3) := by decide +kernel
theorem d_M_ofWorker_7 : decode (xMc m_M_ofWorker) 7 = .ok (.ifCond .eq 16, 3) := by decide +kernel
theorem d_M_ofWorker_10 : decode (xMc m_M_ofWorker) 10 = .ok (.iload_n 2, 1) := by decide +kernel
theorem d_M_ofWorker_11 : decode (xMc m_M_ofWorker) 11 = .ok (.iconst 0, 1) := by decide +kernel
theorem d_M_ofWorker_12 : decode (xMc m_M_ofWorker) 12 = .ok (.iconst 3, 1) := by decide +kernel
theorem d_M_ofWorker_13 : decode (xMc m_M_ofWorker) 13 = .ok (.invokestatic 67, 3) := by decide +kernel
theorem d_M_ofWorker_16 : decode (xMc m_M_ofWorker) 16 = .ok (.ifCond .eq 7, 3) := by decide +kernel
theorem d_M_ofWorker_19 : decode (xMc m_M_ofWorker) 19 = .ok (.iconst 1, 1) := by decide +kernel
theorem d_M_ofWorker_20 : decode (xMc m_M_ofWorker) 20 = .ok (.goto 4, 3) := by decide +kernel
theorem d_M_ofWorker_23 : decode (xMc m_M_ofWorker) 23 = .ok (.iconst 0, 1) := by decide +kernel
theorem d_M_ofWorker_24 : decode (xMc m_M_ofWorker) 24 = .ok (.invokevirtual 71, 3) := by decide +kernel
theorem d_M_ofWorker_27 : decode (xMc m_M_ofWorker) 27 = .ok (.ifCond .eq 5, 3) := by decide +kernel
theorem d_M_ofWorker_30 : decode (xMc m_M_ofWorker) 30 = .ok (.iconst 0, 1) := by decide +kernel
theorem d_M_ofWorker_31 : decode (xMc m_M_ofWorker) 31 = .ok (.ireturn, 1) := by decide +kernel
theorem d_M_ofWorker_32 : decode (xMc m_M_ofWorker) 32 = .ok (.iload_n 2, 1) := by decide +kernel
theorem d_M_ofWorker_33 : decode (xMc m_M_ofWorker) 33 = .ok (.ifCond .ne 20, 3) := by decide +kernel
theorem d_M_ofWorker_36 : decode (xMc m_M_ofWorker) 36 = .ok (.aload_n 0, 1) := by decide +kernel
theorem d_M_ofWorker_37 : decode (xMc m_M_ofWorker) 37 = .ok (.getfield 28, 3) := by decide +kernel
theorem d_M_ofWorker_40 : decode (xMc m_M_ofWorker) 40 = .ok (.iload_n 1, 1) := by decide +kernel
theorem d_M_ofWorker_41 : decode (xMc m_M_ofWorker) 41 = .ok (.baload, 1) := by decide +kernel
theorem d_M_ofWorker_42 : decode (xMc m_M_ofWorker) 42 = .ok (.ifCond .eq 7, 3) := by decide +kernel
theorem d_M_ofWorker_45 : decode (xMc m_M_ofWorker) 45 = .ok (.iconst 1, 1) := by decide +kernel
theorem d_M_ofWorker_46 : decode (xMc m_M_ofWorker) 46 = .ok (.goto 41, 3) := by decide +kernel
theorem d_M_ofWorker_49 : decode (xMc m_M_ofWorker) 49 = .ok (.iconst 0, 1) := by decide +kernel
theorem d_M_ofWorker_50 : decode (xMc m_M_ofWorker) 50 = .ok (.goto 37, 3) := by decide +kernel
theorem d_M_ofWorker_53 : decode (xMc m_M_ofWorker) 53 = .ok (.iload_n 2, 1) := by decide +kernel
theorem d_M_ofWorker_54 : decode (xMc m_M_ofWorker) 54 = .ok (.iconst 1, 1) := by decide +kernel
theorem d_M_ofWorker_55 : decode (xMc m_M_ofWorker) 55 = .ok (.if_icmp .ne 12, 3) := by decide +kernel
theorem d_M_ofWorker_58 : decode (xMc m_M_ofWorker) 58 = .ok (.aload_n 0, 1) := by decide +kernel
theorem d_M_ofWorker_59 : decode (xMc m_M_ofWorker) 59 = .ok (.getfield 19, 3) := by decide +kernel
theorem d_M_ofWorker_62 : decode (xMc m_M_ofWorker) 62 = .ok (.iload_n 1, 1) := by decide +kernel
theorem d_M_ofWorker_63 : decode (xMc m_M_ofWorker) 63 = .ok (.iaload, 1) := by decide +kernel
theorem d_M_ofWorker_64 : decode (xMc m_M_ofWorker) 64 = .ok (.goto 23, 3) := by decide +kernel
theorem d_M_ofWorker_67 : decode (xMc m_M_ofWorker) 67 = .ok (.iload_n 2, 1) := by decide +kernel
theorem d_M_ofWorker_68 : decode (xMc m_M_ofWorker) 68 = .ok (.iconst 2, 1) := by decide +kernel
theorem d_M_ofWorker_69 : decode (xMc m_M_ofWorker) 69 = .ok (.if_icmp .ne 12, 3) := by decide +kernel
theorem d_M_ofWorker_72 : decode (xMc m_M_ofWorker) 72 = .ok (.aload_n 0, 1) := by decide +kernel
theorem d_M_ofWorker_73 : decode (xMc m_M_ofWorker) 73 = .ok (.getfield 22, 3) := by decide +kernel
theorem d_M_ofWorker_76 : decode (xMc m_M_ofWorker) 76 = .ok (.iload_n 1, 1) := by decide +kernel
theorem d_M_ofWorker_77 : decode (xMc m_M_ofWorker) 77 = .ok (.iaload, 1) := by decide +kernel
theorem d_M_ofWorker_78 : decode (xMc m_M_ofWorker) 78 = .ok (.goto 9, 3) := by decide +kernel
theorem d_M_ofWorker_81 : decode (xMc m_M_ofWorker) 81 = .ok (.aload_n 0, 1) := by decide +kernel
theorem d_M_ofWorker_82 : decode (xMc m_M_ofWorker) 82 = .ok (.getfield 25, 3) := by decide +kernel
theorem d_M_ofWorker_85 : decode (xMc m_M_ofWorker) 85 = .ok (.iload_n 1, 1) := by decide +kernel
theorem d_M_ofWorker_86 : decode (xMc m_M_ofWorker) 86 = .ok (.iaload, 1) := by decide +kernel
theorem d_M_ofWorker_87 : decode (xMc m_M_ofWorker) 87 = .ok (.ireturn, 1) := by decide +kernel
theorem d_M_count_0 : decode (xMc m_M_count) 0 = .ok (.aload_n 0, 1) := by decide +kernel
theorem d_M_count_1 : decode (xMc m_M_count) 1 = .ok (.iconst 0, 1) := by decide +kernel
theorem d_M_count_2 : decode (xMc m_M_count) 2 = .ok (.putfield 64, 3) := by decide +kernel
theorem d_M_count_5 : decode (xMc m_M_count) 5 = .ok (.iload_n 1, 1) := by decide +kernel
theorem d_M_count_6 : decode (xMc m_M_count) 6 = .ok (.tableswitch 85 0 6 #[42, 47, 60, 65, 70, 75, 80], 42) := by decide +kernel
theorem d_M_count_48 : decode (xMc m_M_count) 48 = .ok (.aload_n 0, 1) := by decide +kernel
theorem d_M_count_49 : decode (xMc m_M_count) 49 = .ok (.getfield 79, 3) := by decide +kernel
theorem d_M_count_52 : decode (xMc m_M_count) 52 = .ok (.ireturn, 1) := by decide +kernel
theorem d_M_count_53 : decode (xMc m_M_count) 53 = .ok (.aload_n 0, 1) := by decide +kernel
theorem d_M_count_54 : decode (xMc m_M_count) 54 = .ok (.getfield 75, 3) := by decide +kernel
theorem d_M_count_57 : decode (xMc m_M_count) 57 = .ok (.ifCond .eq 7, 3) := by decide +kernel
theorem d_M_count_60 : decode (xMc m_M_count) 60 = .ok (.iconst 1, 1) := by decide +kernel
theorem d_M_count_61 : decode (xMc m_M_count) 61 = .ok (.goto 4, 3) := by decide +kernel
theorem d_M_count_64 : decode (xMc m_M_count) 64 = .ok (.iconst 0, 1) := by decide +kernel
theorem d_M_count_65 : decode (xMc m_M_count) 65 = .ok (.ireturn, 1) := by decide +kernel
theorem d_M_count_66 : decode (xMc m_M_count) 66 = .ok (.aload_n 0, 1) := by decide +kernel
theorem d_M_count_67 : decode (xMc m_M_count) 67 = .ok (.getfield 170, 3) := by decide +kernel
theorem d_M_count_70 : decode (xMc m_M_count) 70 = .ok (.ireturn, 1) := by decide +kernel
theorem d_M_count_71 : decode (xMc m_M_count) 71 = .ok (.aload_n 0, 1) := by decide +kernel
theorem d_M_count_72 : decode (xMc m_M_count) 72 = .ok (.getfield 164, 3) := by decide +kernel
theorem d_M_count_75 : decode (xMc m_M_count) 75 = .ok (.ireturn, 1) := by decide +kernel
theorem d_M_count_76 : decode (xMc m_M_count) 76 = .ok (.aload_n 0, 1) := by decide +kernel
theorem d_M_count_77 : decode (xMc m_M_count) 77 = .ok (.getfield 154, 3) := by decide +kernel
theorem d_M_count_80 : decode (xMc m_M_count) 80 = .ok (.ireturn, 1) := by decide +kernel
theorem d_M_count_81 : decode (xMc m_M_count) 81 = .ok (.aload_n 0, 1) := by decide +kernel
theorem d_M_count_82 : decode (xMc m_M_count) 82 = .ok (.getfield 118, 3) := by decide +kernel
theorem d_M_count_85 : decode (xMc m_M_count) 85 = .ok (.ireturn, 1) := by decide +kernel
theorem d_M_count_86 : decode (xMc m_M_count) 86 = .ok (.aload_n 0, 1) := by decide +kernel
theorem d_M_count_87 : decode (xMc m_M_count) 87 = .ok (.getfield 86, 3) := by decide +kernel
theorem d_M_count_90 : decode (xMc m_M_count) 90 = .ok (.ireturn, 1) := by decide +kernel
theorem d_M_count_91 : decode (xMc m_M_count) 91 = .ok (.iconst (-1), 1) := by decide +kernel
theorem d_M_count_92 : decode (xMc m_M_count) 92 = .ok (.ireturn, 1) := by decide +kernel
