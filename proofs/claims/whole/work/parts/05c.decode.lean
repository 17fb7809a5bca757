/-! what stands at each place of the code -/
theorem d184_1 : decode (mB 184) 1 = .ok (.invokestatic 419, 3) := by decide +kernel
theorem d184_4 : decode (mB 184) 4 = .ok (.ifCond .eq 12, 3) := by decide +kernel
theorem d184_7 : decode (mB 184) 7 = .ok (.aload_n 0, 1) := by decide +kernel
theorem d184_8 : decode (mB 184) 8 = .ok (.getfield 101, 3) := by decide +kernel
theorem d184_11 : decode (mB 184) 11 = .ok (.iload_n 1, 1) := by decide +kernel
theorem d184_12 : decode (mB 184) 12 = .ok (.laload, 1) := by decide +kernel
theorem d184_13 : decode (mB 184) 13 = .ok (.goto 4, 3) := by decide +kernel
theorem d184_16 : decode (mB 184) 16 = .ok (.lconst 0, 1) := by decide +kernel
theorem d184_17 : decode (mB 184) 17 = .ok (.lreturn, 1) := by decide +kernel
theorem d185_0 : decode (mB 185) 0 = .ok (.iload_n 1, 1) := by decide +kernel
theorem d185_1 : decode (mB 185) 1 = .ok (.invokestatic 419, 3) := by decide +kernel
theorem d185_4 : decode (mB 185) 4 = .ok (.ifCond .eq 27, 3) := by decide +kernel
theorem d185_7 : decode (mB 185) 7 = .ok (.iload_n 2, 1) := by decide +kernel
theorem d185_8 : decode (mB 185) 8 = .ok (.ifCond .lt 23, 3) := by decide +kernel
theorem d185_11 : decode (mB 185) 11 = .ok (.iload_n 2, 1) := by decide +kernel
theorem d185_12 : decode (mB 185) 12 = .ok (.bipush 10, 2) := by decide +kernel
theorem d185_14 : decode (mB 185) 14 = .ok (.if_icmp .ge 17, 3) := by decide +kernel
theorem d185_17 : decode (mB 185) 17 = .ok (.aload_n 0, 1) := by decide +kernel
theorem d185_18 : decode (mB 185) 18 = .ok (.getfield 104, 3) := by decide +kernel
theorem d185_21 : decode (mB 185) 21 = .ok (.bipush 10, 2) := by decide +kernel
theorem d185_23 : decode (mB 185) 23 = .ok (.iload_n 1, 1) := by decide +kernel
theorem d185_24 : decode (mB 185) 24 = .ok (.imul, 1) := by decide +kernel
theorem d185_25 : decode (mB 185) 25 = .ok (.iload_n 2, 1) := by decide +kernel
theorem d185_26 : decode (mB 185) 26 = .ok (.iadd, 1) := by decide +kernel
theorem d185_27 : decode (mB 185) 27 = .ok (.laload, 1) := by decide +kernel
theorem d185_28 : decode (mB 185) 28 = .ok (.goto 4, 3) := by decide +kernel
theorem d185_31 : decode (mB 185) 31 = .ok (.lconst 0, 1) := by decide +kernel
theorem d185_32 : decode (mB 185) 32 = .ok (.lreturn, 1) := by decide +kernel
theorem d187_0 : decode (mB 187) 0 = .ok (.iload_n 1, 1) := by decide +kernel
theorem d187_1 : decode (mB 187) 1 = .ok (.invokestatic 419, 3) := by decide +kernel
theorem d187_4 : decode (mB 187) 4 = .ok (.ifCond .eq 21, 3) := by decide +kernel
theorem d187_7 : decode (mB 187) 7 = .ok (.iload_n 2, 1) := by decide +kernel
theorem d187_8 : decode (mB 187) 8 = .ok (.ifCond .lt 17, 3) := by decide +kernel
theorem d187_11 : decode (mB 187) 11 = .ok (.iload_n 2, 1) := by decide +kernel
theorem d187_12 : decode (mB 187) 12 = .ok (.aload_n 0, 1) := by decide +kernel
theorem d187_13 : decode (mB 187) 13 = .ok (.getfield 134, 3) := by decide +kernel
theorem d187_16 : decode (mB 187) 16 = .ok (.iload_n 1, 1) := by decide +kernel
theorem d187_17 : decode (mB 187) 17 = .ok (.iaload, 1) := by decide +kernel
theorem d187_18 : decode (mB 187) 18 = .ok (.if_icmp .ge 7, 3) := by decide +kernel
theorem d187_21 : decode (mB 187) 21 = .ok (.iconst 1, 1) := by decide +kernel
theorem d187_22 : decode (mB 187) 22 = .ok (.goto 4, 3) := by decide +kernel
theorem d187_25 : decode (mB 187) 25 = .ok (.iconst 0, 1) := by decide +kernel
theorem d187_26 : decode (mB 187) 26 = .ok (.ireturn, 1) := by decide +kernel
theorem d186_0 : decode (mB 186) 0 = .ok (.aload_n 0, 1) := by decide +kernel
theorem d186_1 : decode (mB 186) 1 = .ok (.iload_n 1, 1) := by decide +kernel
theorem d186_2 : decode (mB 186) 2 = .ok (.iload_n 2, 1) := by decide +kernel
theorem d186_3 : decode (mB 186) 3 = .ok (.invokevirtual 432, 3) := by decide +kernel
theorem d186_6 : decode (mB 186) 6 = .ok (.ifCond .eq 12, 3) := by decide +kernel
theorem d186_9 : decode (mB 186) 9 = .ok (.iload_n 3, 1) := by decide +kernel
theorem d186_10 : decode (mB 186) 10 = .ok (.ifCond .lt 8, 3) := by decide +kernel
theorem d186_13 : decode (mB 186) 13 = .ok (.iload_n 3, 1) := by decide +kernel
theorem d186_14 : decode (mB 186) 14 = .ok (.iconst 1, 1) := by decide +kernel
theorem d186_15 : decode (mB 186) 15 = .ok (.if_icmp .le 5, 3) := by decide +kernel
theorem d186_18 : decode (mB 186) 18 = .ok (.iconst (-1), 1) := by decide +kernel
theorem d186_19 : decode (mB 186) 19 = .ok (.ireturn, 1) := by decide +kernel
theorem d186_20 : decode (mB 186) 20 = .ok (.bipush 32, 2) := by decide +kernel
theorem d186_22 : decode (mB 186) 22 = .ok (.iload_n 1, 1) := by decide +kernel
theorem d186_23 : decode (mB 186) 23 = .ok (.imul, 1) := by decide +kernel
theorem d186_24 : decode (mB 186) 24 = .ok (.iload_n 2, 1) := by decide +kernel
theorem d186_25 : decode (mB 186) 25 = .ok (.iadd, 1) := by decide +kernel
theorem d186_26 : decode (mB 186) 26 = .ok (.istore 4, 2) := by decide +kernel
theorem d186_28 : decode (mB 186) 28 = .ok (.iload_n 3, 1) := by decide +kernel
theorem d186_29 : decode (mB 186) 29 = .ok (.ifCond .ne 13, 3) := by decide +kernel
theorem d186_32 : decode (mB 186) 32 = .ok (.aload_n 0, 1) := by decide +kernel
theorem d186_33 : decode (mB 186) 33 = .ok (.getfield 137, 3) := by decide +kernel
theorem d186_36 : decode (mB 186) 36 = .ok (.iload 4, 2) := by decide +kernel
theorem d186_38 : decode (mB 186) 38 = .ok (.iaload, 1) := by decide +kernel
theorem d186_39 : decode (mB 186) 39 = .ok (.goto 28, 3) := by decide +kernel
theorem d186_42 : decode (mB 186) 42 = .ok (.aload_n 0, 1) := by decide +kernel
theorem d186_43 : decode (mB 186) 43 = .ok (.getfield 137, 3) := by decide +kernel
theorem d186_46 : decode (mB 186) 46 = .ok (.iload 4, 2) := by decide +kernel
theorem d186_48 : decode (mB 186) 48 = .ok (.iaload, 1) := by decide +kernel
theorem d186_49 : decode (mB 186) 49 = .ok (.bipush 7, 2) := by decide +kernel
theorem d186_51 : decode (mB 186) 51 = .ok (.if_icmp .ne 15, 3) := by decide +kernel
theorem d186_54 : decode (mB 186) 54 = .ok (.aload_n 0, 1) := by decide +kernel
theorem d186_55 : decode (mB 186) 55 = .ok (.getfield 143, 3) := by decide +kernel
theorem d186_58 : decode (mB 186) 58 = .ok (.iload 4, 2) := by decide +kernel
theorem d186_60 : decode (mB 186) 60 = .ok (.iaload, 1) := by decide +kernel
theorem d186_61 : decode (mB 186) 61 = .ok (.iconst 1, 1) := by decide +kernel
theorem d186_62 : decode (mB 186) 62 = .ok (.iadd, 1) := by decide +kernel
theorem d186_63 : decode (mB 186) 63 = .ok (.goto 4, 3) := by decide +kernel
theorem d186_66 : decode (mB 186) 66 = .ok (.iconst 0, 1) := by decide +kernel
theorem d186_67 : decode (mB 186) 67 = .ok (.ireturn, 1) := by decide +kernel
theorem d188_0 : decode (mB 188) 0 = .ok (.aload_n 0, 1) := by decide +kernel
theorem d188_1 : decode (mB 188) 1 = .ok (.iload_n 1, 1) := by decide +kernel
theorem d188_2 : decode (mB 188) 2 = .ok (.iload_n 2, 1) := by decide +kernel
theorem d188_3 : decode (mB 188) 3 = .ok (.invokevirtual 432, 3) := by decide +kernel
theorem d188_6 : decode (mB 188) 6 = .ok (.ifCond .eq 17, 3) := by decide +kernel
theorem d188_9 : decode (mB 188) 9 = .ok (.aload_n 0, 1) := by decide +kernel
theorem d188_10 : decode (mB 188) 10 = .ok (.getfield 140, 3) := by decide +kernel
theorem d188_13 : decode (mB 188) 13 = .ok (.bipush 32, 2) := by decide +kernel
theorem d188_15 : decode (mB 188) 15 = .ok (.iload_n 1, 1) := by decide +kernel
theorem d188_16 : decode (mB 188) 16 = .ok (.imul, 1) := by decide +kernel
theorem d188_17 : decode (mB 188) 17 = .ok (.iload_n 2, 1) := by decide +kernel
theorem d188_18 : decode (mB 188) 18 = .ok (.iadd, 1) := by decide +kernel
theorem d188_19 : decode (mB 188) 19 = .ok (.laload, 1) := by decide +kernel
theorem d188_20 : decode (mB 188) 20 = .ok (.goto 4, 3) := by decide +kernel
theorem d188_23 : decode (mB 188) 23 = .ok (.lconst 0, 1) := by decide +kernel
theorem d188_24 : decode (mB 188) 24 = .ok (.lreturn, 1) := by decide +kernel
theorem d191_0 : decode (mB 191) 0 = .ok (.aload_n 0, 1) := by decide +kernel
theorem d191_1 : decode (mB 191) 1 = .ok (.getfield 92, 3) := by decide +kernel
theorem d191_4 : decode (mB 191) 4 = .ok (.bipush 6, 2) := by decide +kernel
theorem d191_6 : decode (mB 191) 6 = .ok (.aload_n 0, 1) := by decide +kernel
theorem d191_7 : decode (mB 191) 7 = .ok (.getfield 92, 3) := by decide +kernel
theorem d191_10 : decode (mB 191) 10 = .ok (.iload_n 1, 1) := by decide +kernel
theorem d191_11 : decode (mB 191) 11 = .ok (.iaload, 1) := by decide +kernel
theorem d191_12 : decode (mB 191) 12 = .ok (.iastore, 1) := by decide +kernel
theorem d191_13 : decode (mB 191) 13 = .ok (.aload_n 0, 1) := by decide +kernel
theorem d191_14 : decode (mB 191) 14 = .ok (.getfield 95, 3) := by decide +kernel
theorem d191_17 : decode (mB 191) 17 = .ok (.bipush 6, 2) := by decide +kernel
theorem d191_19 : decode (mB 191) 19 = .ok (.aload_n 0, 1) := by decide +kernel
theorem d191_20 : decode (mB 191) 20 = .ok (.getfield 95, 3) := by decide +kernel
theorem d191_23 : decode (mB 191) 23 = .ok (.iload_n 1, 1) := by decide +kernel
theorem d191_24 : decode (mB 191) 24 = .ok (.iaload, 1) := by decide +kernel
theorem d191_25 : decode (mB 191) 25 = .ok (.iastore, 1) := by decide +kernel
theorem d191_26 : decode (mB 191) 26 = .ok (.aload_n 0, 1) := by decide +kernel
theorem d191_27 : decode (mB 191) 27 = .ok (.getfield 107, 3) := by decide +kernel
theorem d191_30 : decode (mB 191) 30 = .ok (.bipush 6, 2) := by decide +kernel
theorem d191_32 : decode (mB 191) 32 = .ok (.aload_n 0, 1) := by decide +kernel
theorem d191_33 : decode (mB 191) 33 = .ok (.getfield 107, 3) := by decide +kernel
theorem d191_36 : decode (mB 191) 36 = .ok (.iload_n 1, 1) := by decide +kernel
theorem d191_37 : decode (mB 191) 37 = .ok (.iaload, 1) := by decide +kernel
theorem d191_38 : decode (mB 191) 38 = .ok (.iastore, 1) := by decide +kernel
theorem d191_39 : decode (mB 191) 39 = .ok (.aload_n 0, 1) := by decide +kernel
theorem d191_40 : decode (mB 191) 40 = .ok (.getfield 134, 3) := by decide +kernel
theorem d191_43 : decode (mB 191) 43 = .ok (.bipush 6, 2) := by decide +kernel
theorem d191_45 : decode (mB 191) 45 = .ok (.aload_n 0, 1) := by decide +kernel
theorem d191_46 : decode (mB 191) 46 = .ok (.getfield 134, 3) := by decide +kernel
theorem d191_49 : decode (mB 191) 49 = .ok (.iload_n 1, 1) := by decide +kernel
theorem d191_50 : decode (mB 191) 50 = .ok (.iaload, 1) := by decide +kernel
theorem d191_51 : decode (mB 191) 51 = .ok (.iastore, 1) := by decide +kernel
theorem d191_52 : decode (mB 191) 52 = .ok (.iconst 0, 1) := by decide +kernel
theorem d191_53 : decode (mB 191) 53 = .ok (.istore_n 2, 1) := by decide +kernel
theorem d191_54 : decode (mB 191) 54 = .ok (.iload_n 2, 1) := by decide +kernel
theorem d191_55 : decode (mB 191) 55 = .ok (.aload_n 0, 1) := by decide +kernel
theorem d191_56 : decode (mB 191) 56 = .ok (.getfield 107, 3) := by decide +kernel
theorem d191_59 : decode (mB 191) 59 = .ok (.iload_n 1, 1) := by decide +kernel
theorem d191_60 : decode (mB 191) 60 = .ok (.iaload, 1) := by decide +kernel
theorem d191_61 : decode (mB 191) 61 = .ok (.if_icmp .ge 126, 3) := by decide +kernel
theorem d191_64 : decode (mB 191) 64 = .ok (.bipush 9, 2) := by decide +kernel
theorem d191_66 : decode (mB 191) 66 = .ok (.iload_n 1, 1) := by decide +kernel
theorem d191_67 : decode (mB 191) 67 = .ok (.imul, 1) := by decide +kernel
theorem d191_68 : decode (mB 191) 68 = .ok (.iload_n 2, 1) := by decide +kernel
theorem d191_69 : decode (mB 191) 69 = .ok (.iadd, 1) := by decide +kernel
theorem d191_70 : decode (mB 191) 70 = .ok (.istore_n 3, 1) := by decide +kernel
theorem d191_71 : decode (mB 191) 71 = .ok (.bipush 54, 2) := by decide +kernel
theorem d191_73 : decode (mB 191) 73 = .ok (.iload_n 2, 1) := by decide +kernel
theorem d191_74 : decode (mB 191) 74 = .ok (.iadd, 1) := by decide +kernel
theorem d191_75 : decode (mB 191) 75 = .ok (.istore 4, 2) := by decide +kernel
theorem d191_77 : decode (mB 191) 77 = .ok (.aload_n 0, 1) := by decide +kernel
theorem d191_78 : decode (mB 191) 78 = .ok (.getfield 110, 3) := by decide +kernel
theorem d191_81 : decode (mB 191) 81 = .ok (.iload 4, 2) := by decide +kernel
theorem d191_83 : decode (mB 191) 83 = .ok (.aload_n 0, 1) := by decide +kernel
theorem d191_84 : decode (mB 191) 84 = .ok (.getfield 110, 3) := by decide +kernel
theorem d191_87 : decode (mB 191) 87 = .ok (.iload_n 3, 1) := by decide +kernel
theorem d191_88 : decode (mB 191) 88 = .ok (.iaload, 1) := by decide +kernel
theorem d191_89 : decode (mB 191) 89 = .ok (.iastore, 1) := by decide +kernel
theorem d191_90 : decode (mB 191) 90 = .ok (.aload_n 0, 1) := by decide +kernel
theorem d191_91 : decode (mB 191) 91 = .ok (.getfield 113, 3) := by decide +kernel
theorem d191_94 : decode (mB 191) 94 = .ok (.iload 4, 2) := by decide +kernel
theorem d191_96 : decode (mB 191) 96 = .ok (.aload_n 0, 1) := by decide +kernel
theorem d191_97 : decode (mB 191) 97 = .ok (.getfield 113, 3) := by decide +kernel
theorem d191_100 : decode (mB 191) 100 = .ok (.iload_n 3, 1) := by decide +kernel
theorem d191_101 : decode (mB 191) 101 = .ok (.iaload, 1) := by decide +kernel
theorem d191_102 : decode (mB 191) 102 = .ok (.iastore, 1) := by decide +kernel
theorem d191_103 : decode (mB 191) 103 = .ok (.aload_n 0, 1) := by decide +kernel
theorem d191_104 : decode (mB 191) 104 = .ok (.getfield 116, 3) := by decide +kernel
theorem d191_107 : decode (mB 191) 107 = .ok (.iload 4, 2) := by decide +kernel
theorem d191_109 : decode (mB 191) 109 = .ok (.aload_n 0, 1) := by decide +kernel
theorem d191_110 : decode (mB 191) 110 = .ok (.getfield 116, 3) := by decide +kernel
theorem d191_113 : decode (mB 191) 113 = .ok (.iload_n 3, 1) := by decide +kernel
theorem d191_114 : decode (mB 191) 114 = .ok (.iaload, 1) := by decide +kernel
theorem d191_115 : decode (mB 191) 115 = .ok (.iastore, 1) := by decide +kernel
theorem d191_116 : decode (mB 191) 116 = .ok (.aload_n 0, 1) := by decide +kernel
theorem d191_117 : decode (mB 191) 117 = .ok (.getfield 119, 3) := by decide +kernel
theorem d191_120 : decode (mB 191) 120 = .ok (.iload 4, 2) := by decide +kernel
theorem d191_122 : decode (mB 191) 122 = .ok (.aload_n 0, 1) := by decide +kernel
theorem d191_123 : decode (mB 191) 123 = .ok (.getfield 119, 3) := by decide +kernel
theorem d191_126 : decode (mB 191) 126 = .ok (.iload_n 3, 1) := by decide +kernel
theorem d191_127 : decode (mB 191) 127 = .ok (.laload, 1) := by decide +kernel
theorem d191_128 : decode (mB 191) 128 = .ok (.lastore, 1) := by decide +kernel
theorem d191_129 : decode (mB 191) 129 = .ok (.aload_n 0, 1) := by decide +kernel
theorem d191_130 : decode (mB 191) 130 = .ok (.getfield 122, 3) := by decide +kernel
theorem d191_133 : decode (mB 191) 133 = .ok (.iload 4, 2) := by decide +kernel
theorem d191_135 : decode (mB 191) 135 = .ok (.aload_n 0, 1) := by decide +kernel
theorem d191_136 : decode (mB 191) 136 = .ok (.getfield 122, 3) := by decide +kernel
theorem d191_139 : decode (mB 191) 139 = .ok (.iload_n 3, 1) := by decide +kernel
theorem d191_140 : decode (mB 191) 140 = .ok (.baload, 1) := by decide +kernel
theorem d191_141 : decode (mB 191) 141 = .ok (.bastore, 1) := by decide +kernel
theorem d191_142 : decode (mB 191) 142 = .ok (.aload_n 0, 1) := by decide +kernel
theorem d191_143 : decode (mB 191) 143 = .ok (.getfield 125, 3) := by decide +kernel
theorem d191_146 : decode (mB 191) 146 = .ok (.iload 4, 2) := by decide +kernel
theorem d191_148 : decode (mB 191) 148 = .ok (.aload_n 0, 1) := by decide +kernel
theorem d191_149 : decode (mB 191) 149 = .ok (.getfield 125, 3) := by decide +kernel
theorem d191_152 : decode (mB 191) 152 = .ok (.iload_n 3, 1) := by decide +kernel
theorem d191_153 : decode (mB 191) 153 = .ok (.iaload, 1) := by decide +kernel
theorem d191_154 : decode (mB 191) 154 = .ok (.iastore, 1) := by decide +kernel
theorem d191_155 : decode (mB 191) 155 = .ok (.aload_n 0, 1) := by decide +kernel
theorem d191_156 : decode (mB 191) 156 = .ok (.getfield 128, 3) := by decide +kernel
theorem d191_159 : decode (mB 191) 159 = .ok (.iload 4, 2) := by decide +kernel
theorem d191_161 : decode (mB 191) 161 = .ok (.aload_n 0, 1) := by decide +kernel
theorem d191_162 : decode (mB 191) 162 = .ok (.getfield 128, 3) := by decide +kernel
theorem d191_165 : decode (mB 191) 165 = .ok (.iload_n 3, 1) := by decide +kernel
theorem d191_166 : decode (mB 191) 166 = .ok (.laload, 1) := by decide +kernel
theorem d191_167 : decode (mB 191) 167 = .ok (.lastore, 1) := by decide +kernel
theorem d191_168 : decode (mB 191) 168 = .ok (.aload_n 0, 1) := by decide +kernel
theorem d191_169 : decode (mB 191) 169 = .ok (.getfield 131, 3) := by decide +kernel
theorem d191_172 : decode (mB 191) 172 = .ok (.iload 4, 2) := by decide +kernel
theorem d191_174 : decode (mB 191) 174 = .ok (.aload_n 0, 1) := by decide +kernel
theorem d191_175 : decode (mB 191) 175 = .ok (.getfield 131, 3) := by decide +kernel
theorem d191_178 : decode (mB 191) 178 = .ok (.iload_n 3, 1) := by decide +kernel
theorem d191_179 : decode (mB 191) 179 = .ok (.iaload, 1) := by decide +kernel
theorem d191_180 : decode (mB 191) 180 = .ok (.iastore, 1) := by decide +kernel
theorem d191_181 : decode (mB 191) 181 = .ok (.iinc 2 1, 3) := by decide +kernel
theorem d191_184 : decode (mB 191) 184 = .ok (.goto (-130), 3) := by decide +kernel
theorem d191_187 : decode (mB 191) 187 = .ok (.iconst 0, 1) := by decide +kernel
theorem d191_188 : decode (mB 191) 188 = .ok (.istore_n 2, 1) := by decide +kernel
theorem d191_189 : decode (mB 191) 189 = .ok (.iload_n 2, 1) := by decide +kernel
theorem d191_190 : decode (mB 191) 190 = .ok (.aload_n 0, 1) := by decide +kernel
theorem d191_191 : decode (mB 191) 191 = .ok (.getfield 134, 3) := by decide +kernel
theorem d191_194 : decode (mB 191) 194 = .ok (.iload_n 1, 1) := by decide +kernel
theorem d191_195 : decode (mB 191) 195 = .ok (.iaload, 1) := by decide +kernel
theorem d191_196 : decode (mB 191) 196 = .ok (.if_icmp .ge 75, 3) := by decide +kernel
theorem d191_199 : decode (mB 191) 199 = .ok (.bipush 32, 2) := by decide +kernel
theorem d191_201 : decode (mB 191) 201 = .ok (.iload_n 1, 1) := by decide +kernel
theorem d191_202 : decode (mB 191) 202 = .ok (.imul, 1) := by decide +kernel
theorem d191_203 : decode (mB 191) 203 = .ok (.iload_n 2, 1) := by decide +kernel
theorem d191_204 : decode (mB 191) 204 = .ok (.iadd, 1) := by decide +kernel
theorem d191_205 : decode (mB 191) 205 = .ok (.istore_n 3, 1) := by decide +kernel
theorem d191_206 : decode (mB 191) 206 = .ok (.sipush 192, 3) := by decide +kernel
theorem d191_209 : decode (mB 191) 209 = .ok (.iload_n 2, 1) := by decide +kernel
theorem d191_210 : decode (mB 191) 210 = .ok (.iadd, 1) := by decide +kernel
theorem d191_211 : decode (mB 191) 211 = .ok (.istore 4, 2) := by decide +kernel
theorem d191_213 : decode (mB 191) 213 = .ok (.aload_n 0, 1) := by decide +kernel
theorem d191_214 : decode (mB 191) 214 = .ok (.getfield 137, 3) := by decide +kernel
theorem d191_217 : decode (mB 191) 217 = .ok (.iload 4, 2) := by decide +kernel
theorem d191_219 : decode (mB 191) 219 = .ok (.aload_n 0, 1) := by decide +kernel
theorem d191_220 : decode (mB 191) 220 = .ok (.getfield 137, 3) := by decide +kernel
theorem d191_223 : decode (mB 191) 223 = .ok (.iload_n 3, 1) := by decide +kernel
theorem d191_224 : decode (mB 191) 224 = .ok (.iaload, 1) := by decide +kernel
theorem d191_225 : decode (mB 191) 225 = .ok (.iastore, 1) := by decide +kernel
theorem d191_226 : decode (mB 191) 226 = .ok (.aload_n 0, 1) := by decide +kernel
theorem d191_227 : decode (mB 191) 227 = .ok (.getfield 140, 3) := by decide +kernel
theorem d191_230 : decode (mB 191) 230 = .ok (.iload 4, 2) := by decide +kernel
theorem d191_232 : decode (mB 191) 232 = .ok (.aload_n 0, 1) := by decide +kernel
theorem d191_233 : decode (mB 191) 233 = .ok (.getfield 140, 3) := by decide +kernel
theorem d191_236 : decode (mB 191) 236 = .ok (.iload_n 3, 1) := by decide +kernel
theorem d191_237 : decode (mB 191) 237 = .ok (.laload, 1) := by decide +kernel
theorem d191_238 : decode (mB 191) 238 = .ok (.lastore, 1) := by decide +kernel
theorem d191_239 : decode (mB 191) 239 = .ok (.aload_n 0, 1) := by decide +kernel
theorem d191_240 : decode (mB 191) 240 = .ok (.getfield 143, 3) := by decide +kernel
theorem d191_243 : decode (mB 191) 243 = .ok (.iload 4, 2) := by decide +kernel
theorem d191_245 : decode (mB 191) 245 = .ok (.aload_n 0, 1) := by decide +kernel
theorem d191_246 : decode (mB 191) 246 = .ok (.getfield 143, 3) := by decide +kernel
theorem d191_249 : decode (mB 191) 249 = .ok (.iload_n 3, 1) := by decide +kernel
theorem d191_250 : decode (mB 191) 250 = .ok (.iaload, 1) := by decide +kernel
theorem d191_251 : decode (mB 191) 251 = .ok (.iastore, 1) := by decide +kernel
theorem d191_252 : decode (mB 191) 252 = .ok (.aload_n 0, 1) := by decide +kernel
theorem d191_253 : decode (mB 191) 253 = .ok (.getfield 146, 3) := by decide +kernel
theorem d191_256 : decode (mB 191) 256 = .ok (.iload 4, 2) := by decide +kernel
theorem d191_258 : decode (mB 191) 258 = .ok (.aload_n 0, 1) := by decide +kernel
theorem d191_259 : decode (mB 191) 259 = .ok (.getfield 146, 3) := by decide +kernel
theorem d191_262 : decode (mB 191) 262 = .ok (.iload_n 3, 1) := by decide +kernel
theorem d191_263 : decode (mB 191) 263 = .ok (.iaload, 1) := by decide +kernel
theorem d191_264 : decode (mB 191) 264 = .ok (.iastore, 1) := by decide +kernel
theorem d191_265 : decode (mB 191) 265 = .ok (.iinc 2 1, 3) := by decide +kernel
theorem d191_268 : decode (mB 191) 268 = .ok (.goto (-79), 3) := by decide +kernel
theorem d191_271 : decode (mB 191) 271 = .ok (.return_, 1) := by decide +kernel
theorem d190_0 : decode (mB 190) 0 = .ok (.aload_n 0, 1) := by decide +kernel
theorem d190_1 : decode (mB 190) 1 = .ok (.iload_n 1, 1) := by decide +kernel
theorem d190_2 : decode (mB 190) 2 = .ok (.invokevirtual 435, 3) := by decide +kernel
theorem d190_5 : decode (mB 190) 5 = .ok (.aload_n 0, 1) := by decide +kernel
theorem d190_6 : decode (mB 190) 6 = .ok (.bipush 6, 2) := by decide +kernel
theorem d190_8 : decode (mB 190) 8 = .ok (.invokevirtual 393, 3) := by decide +kernel
theorem d190_11 : decode (mB 190) 11 = .ok (.ifCond .ne 33, 3) := by decide +kernel
theorem d190_14 : decode (mB 190) 14 = .ok (.aload_n 0, 1) := by decide +kernel
theorem d190_15 : decode (mB 190) 15 = .ok (.getfield 95, 3) := by decide +kernel
theorem d190_18 : decode (mB 190) 18 = .ok (.bipush 6, 2) := by decide +kernel
theorem d190_20 : decode (mB 190) 20 = .ok (.iaload, 1) := by decide +kernel
theorem d190_21 : decode (mB 190) 21 = .ok (.ifCond .ne 13, 3) := by decide +kernel
theorem d190_24 : decode (mB 190) 24 = .ok (.aload_n 0, 1) := by decide +kernel
theorem d190_25 : decode (mB 190) 25 = .ok (.getfield 134, 3) := by decide +kernel
theorem d190_28 : decode (mB 190) 28 = .ok (.bipush 6, 2) := by decide +kernel
theorem d190_30 : decode (mB 190) 30 = .ok (.iaload, 1) := by decide +kernel
theorem d190_31 : decode (mB 190) 31 = .ok (.ifCond .gt 13, 3) := by decide +kernel
theorem d190_34 : decode (mB 190) 34 = .ok (.aload_n 0, 1) := by decide +kernel
theorem d190_35 : decode (mB 190) 35 = .ok (.getfield 92, 3) := by decide +kernel
theorem d190_38 : decode (mB 190) 38 = .ok (.bipush 6, 2) := by decide +kernel
theorem d190_40 : decode (mB 190) 40 = .ok (.iaload, 1) := by decide +kernel
theorem d190_41 : decode (mB 190) 41 = .ok (.ifCond .ge 5, 3) := by decide +kernel
theorem d190_44 : decode (mB 190) 44 = .ok (.iconst 1, 1) := by decide +kernel
theorem d190_45 : decode (mB 190) 45 = .ok (.ireturn, 1) := by decide +kernel
theorem d190_46 : decode (mB 190) 46 = .ok (.aload_n 0, 1) := by decide +kernel
theorem d190_47 : decode (mB 190) 47 = .ok (.getfield 92, 3) := by decide +kernel
theorem d190_50 : decode (mB 190) 50 = .ok (.bipush 6, 2) := by decide +kernel
theorem d190_52 : decode (mB 190) 52 = .ok (.iaload, 1) := by decide +kernel
theorem d190_53 : decode (mB 190) 53 = .ok (.istore_n 2, 1) := by decide +kernel
theorem d190_54 : decode (mB 190) 54 = .ok (.aload_n 0, 1) := by decide +kernel
theorem d190_55 : decode (mB 190) 55 = .ok (.getfield 33, 3) := by decide +kernel
theorem d190_58 : decode (mB 190) 58 = .ok (.iload_n 2, 1) := by decide +kernel
theorem d190_59 : decode (mB 190) 59 = .ok (.iaload, 1) := by decide +kernel
theorem d190_60 : decode (mB 190) 60 = .ok (.iconst 4, 1) := by decide +kernel
theorem d190_61 : decode (mB 190) 61 = .ok (.if_icmp .ne 17, 3) := by decide +kernel
theorem d190_64 : decode (mB 190) 64 = .ok (.aload_n 0, 1) := by decide +kernel
theorem d190_65 : decode (mB 190) 65 = .ok (.getfield 83, 3) := by decide +kernel
theorem d190_68 : decode (mB 190) 68 = .ok (.aload_n 0, 1) := by decide +kernel
theorem d190_69 : decode (mB 190) 69 = .ok (.getfield 52, 3) := by decide +kernel
theorem d190_72 : decode (mB 190) 72 = .ok (.iload_n 2, 1) := by decide +kernel
theorem d190_73 : decode (mB 190) 73 = .ok (.iaload, 1) := by decide +kernel
theorem d190_74 : decode (mB 190) 74 = .ok (.baload, 1) := by decide +kernel
theorem d190_75 : decode (mB 190) 75 = .ok (.ifCond .eq 28, 3) := by decide +kernel
theorem d190_78 : decode (mB 190) 78 = .ok (.aload_n 0, 1) := by decide +kernel
theorem d190_79 : decode (mB 190) 79 = .ok (.getfield 33, 3) := by decide +kernel
theorem d190_82 : decode (mB 190) 82 = .ok (.iload_n 2, 1) := by decide +kernel
theorem d190_83 : decode (mB 190) 83 = .ok (.iaload, 1) := by decide +kernel
theorem d190_84 : decode (mB 190) 84 = .ok (.bipush 6, 2) := by decide +kernel
theorem d190_86 : decode (mB 190) 86 = .ok (.if_icmp .ne 21, 3) := by decide +kernel
theorem d190_89 : decode (mB 190) 89 = .ok (.aload_n 0, 1) := by decide +kernel
theorem d190_90 : decode (mB 190) 90 = .ok (.getfield 83, 3) := by decide +kernel
theorem d190_93 : decode (mB 190) 93 = .ok (.aload_n 0, 1) := by decide +kernel
theorem d190_94 : decode (mB 190) 94 = .ok (.getfield 52, 3) := by decide +kernel
theorem d190_97 : decode (mB 190) 97 = .ok (.iload_n 2, 1) := by decide +kernel
theorem d190_98 : decode (mB 190) 98 = .ok (.iaload, 1) := by decide +kernel
theorem d190_99 : decode (mB 190) 99 = .ok (.baload, 1) := by decide +kernel
theorem d190_100 : decode (mB 190) 100 = .ok (.ifCond .eq 7, 3) := by decide +kernel
theorem d190_103 : decode (mB 190) 103 = .ok (.iconst 1, 1) := by decide +kernel
theorem d190_104 : decode (mB 190) 104 = .ok (.goto 4, 3) := by decide +kernel
theorem d190_107 : decode (mB 190) 107 = .ok (.iconst 0, 1) := by decide +kernel
theorem d190_108 : decode (mB 190) 108 = .ok (.istore_n 3, 1) := by decide +kernel
theorem d190_109 : decode (mB 190) 109 = .ok (.aload_n 0, 1) := by decide +kernel
theorem d190_110 : decode (mB 190) 110 = .ok (.getfield 33, 3) := by decide +kernel
theorem d190_113 : decode (mB 190) 113 = .ok (.iload_n 2, 1) := by decide +kernel
theorem d190_114 : decode (mB 190) 114 = .ok (.iaload, 1) := by decide +kernel
theorem d190_115 : decode (mB 190) 115 = .ok (.bipush 9, 2) := by decide +kernel
theorem d190_117 : decode (mB 190) 117 = .ok (.if_icmp .ne 62, 3) := by decide +kernel
theorem d190_120 : decode (mB 190) 120 = .ok (.aload_n 0, 1) := by decide +kernel
theorem d190_121 : decode (mB 190) 121 = .ok (.getfield 55, 3) := by decide +kernel
theorem d190_124 : decode (mB 190) 124 = .ok (.iload_n 2, 1) := by decide +kernel
theorem d190_125 : decode (mB 190) 125 = .ok (.iaload, 1) := by decide +kernel
theorem d190_126 : decode (mB 190) 126 = .ok (.iload_n 1, 1) := by decide +kernel
theorem d190_127 : decode (mB 190) 127 = .ok (.if_icmp .eq 52, 3) := by decide +kernel
theorem d190_130 : decode (mB 190) 130 = .ok (.aload_n 0, 1) := by decide +kernel
theorem d190_131 : decode (mB 190) 131 = .ok (.getfield 89, 3) := by decide +kernel
theorem d190_134 : decode (mB 190) 134 = .ok (.aload_n 0, 1) := by decide +kernel
theorem d190_135 : decode (mB 190) 135 = .ok (.getfield 55, 3) := by decide +kernel
theorem d190_138 : decode (mB 190) 138 = .ok (.iload_n 2, 1) := by decide +kernel
theorem d190_139 : decode (mB 190) 139 = .ok (.iaload, 1) := by decide +kernel
theorem d190_140 : decode (mB 190) 140 = .ok (.iaload, 1) := by decide +kernel
theorem d190_141 : decode (mB 190) 141 = .ok (.iconst 1, 1) := by decide +kernel
theorem d190_142 : decode (mB 190) 142 = .ok (.if_icmp .ne 37, 3) := by decide +kernel
theorem d190_145 : decode (mB 190) 145 = .ok (.aload_n 0, 1) := by decide +kernel
theorem d190_146 : decode (mB 190) 146 = .ok (.getfield 149, 3) := by decide +kernel
theorem d190_149 : decode (mB 190) 149 = .ok (.iload_n 1, 1) := by decide +kernel
theorem d190_150 : decode (mB 190) 150 = .ok (.iaload, 1) := by decide +kernel
theorem d190_151 : decode (mB 190) 151 = .ok (.ifCond .eq 22, 3) := by decide +kernel
theorem d190_154 : decode (mB 190) 154 = .ok (.aload_n 0, 1) := by decide +kernel
theorem d190_155 : decode (mB 190) 155 = .ok (.aload_n 0, 1) := by decide +kernel
theorem d190_156 : decode (mB 190) 156 = .ok (.getfield 55, 3) := by decide +kernel
theorem d190_159 : decode (mB 190) 159 = .ok (.iload_n 2, 1) := by decide +kernel
theorem d190_160 : decode (mB 190) 160 = .ok (.iaload, 1) := by decide +kernel
theorem d190_161 : decode (mB 190) 161 = .ok (.aload_n 0, 1) := by decide +kernel
theorem d190_162 : decode (mB 190) 162 = .ok (.getfield 149, 3) := by decide +kernel
theorem d190_165 : decode (mB 190) 165 = .ok (.iload_n 1, 1) := by decide +kernel
theorem d190_166 : decode (mB 190) 166 = .ok (.iaload, 1) := by decide +kernel
theorem d190_167 : decode (mB 190) 167 = .ok (.invokevirtual 410, 3) := by decide +kernel
theorem d190_170 : decode (mB 190) 170 = .ok (.ifCond .eq 7, 3) := by decide +kernel
theorem d190_173 : decode (mB 190) 173 = .ok (.iconst 1, 1) := by decide +kernel
theorem d190_174 : decode (mB 190) 174 = .ok (.goto 4, 3) := by decide +kernel
theorem d190_177 : decode (mB 190) 177 = .ok (.iconst 0, 1) := by decide +kernel
theorem d190_178 : decode (mB 190) 178 = .ok (.istore_n 3, 1) := by decide +kernel
theorem d190_179 : decode (mB 190) 179 = .ok (.iload_n 3, 1) := by decide +kernel
theorem d190_180 : decode (mB 190) 180 = .ok (.ifCond .eq 24, 3) := by decide +kernel
theorem d190_183 : decode (mB 190) 183 = .ok (.aload_n 0, 1) := by decide +kernel
theorem d190_184 : decode (mB 190) 184 = .ok (.getfield 95, 3) := by decide +kernel
theorem d190_187 : decode (mB 190) 187 = .ok (.bipush 6, 2) := by decide +kernel
theorem d190_189 : decode (mB 190) 189 = .ok (.iaload, 1) := by decide +kernel
theorem d190_190 : decode (mB 190) 190 = .ok (.iconst 1, 1) := by decide +kernel
theorem d190_191 : decode (mB 190) 191 = .ok (.if_icmp .ne 17, 3) := by decide +kernel
theorem d190_194 : decode (mB 190) 194 = .ok (.aload_n 0, 1) := by decide +kernel
theorem d190_195 : decode (mB 190) 195 = .ok (.getfield 134, 3) := by decide +kernel
theorem d190_198 : decode (mB 190) 198 = .ok (.bipush 6, 2) := by decide +kernel
theorem d190_200 : decode (mB 190) 200 = .ok (.iaload, 1) := by decide +kernel
theorem d190_201 : decode (mB 190) 201 = .ok (.ifCond .le 7, 3) := by decide +kernel
theorem d190_204 : decode (mB 190) 204 = .ok (.iconst 1, 1) := by decide +kernel
theorem d190_205 : decode (mB 190) 205 = .ok (.goto 4, 3) := by decide +kernel
theorem d190_208 : decode (mB 190) 208 = .ok (.iconst 0, 1) := by decide +kernel
theorem d190_209 : decode (mB 190) 209 = .ok (.ireturn, 1) := by decide +kernel
theorem d189_0 : decode (mB 189) 0 = .ok (.iconst 0, 1) := by decide +kernel
theorem d189_1 : decode (mB 189) 1 = .ok (.istore_n 1, 1) := by decide +kernel
theorem d189_2 : decode (mB 189) 2 = .ok (.iload_n 1, 1) := by decide +kernel
theorem d189_3 : decode (mB 189) 3 = .ok (.bipush 6, 2) := by decide +kernel
theorem d189_5 : decode (mB 189) 5 = .ok (.if_icmp .ge 29, 3) := by decide +kernel
theorem d189_8 : decode (mB 189) 8 = .ok (.aload_n 0, 1) := by decide +kernel
theorem d189_9 : decode (mB 189) 9 = .ok (.getfield 89, 3) := by decide +kernel
theorem d189_12 : decode (mB 189) 12 = .ok (.iload_n 1, 1) := by decide +kernel
theorem d189_13 : decode (mB 189) 13 = .ok (.iaload, 1) := by decide +kernel
theorem d189_14 : decode (mB 189) 14 = .ok (.iconst 1, 1) := by decide +kernel
theorem d189_15 : decode (mB 189) 15 = .ok (.if_icmp .ne 13, 3) := by decide +kernel
theorem d189_18 : decode (mB 189) 18 = .ok (.aload_n 0, 1) := by decide +kernel
theorem d189_19 : decode (mB 189) 19 = .ok (.iload_n 1, 1) := by decide +kernel
theorem d189_20 : decode (mB 189) 20 = .ok (.invokevirtual 438, 3) := by decide +kernel
theorem d189_23 : decode (mB 189) 23 = .ok (.ifCond .eq 5, 3) := by decide +kernel
theorem d189_26 : decode (mB 189) 26 = .ok (.iconst 0, 1) := by decide +kernel
theorem d189_27 : decode (mB 189) 27 = .ok (.ireturn, 1) := by decide +kernel
theorem d189_28 : decode (mB 189) 28 = .ok (.iinc 1 1, 3) := by decide +kernel
theorem d189_31 : decode (mB 189) 31 = .ok (.goto (-29), 3) := by decide +kernel
theorem d189_34 : decode (mB 189) 34 = .ok (.iconst 1, 1) := by decide +kernel
theorem d189_35 : decode (mB 189) 35 = .ok (.ireturn, 1) := by decide +kernel
theorem d192_0 : decode (mB 192) 0 = .ok (.aload_n 0, 1) := by decide +kernel
theorem d192_1 : decode (mB 192) 1 = .ok (.getfield 353, 3) := by decide +kernel
theorem d192_4 : decode (mB 192) 4 = .ok (.ireturn, 1) := by decide +kernel
theorem d193_0 : decode (mB 193) 0 = .ok (.aload_n 0, 1) := by decide +kernel
theorem d193_1 : decode (mB 193) 1 = .ok (.getfield 350, 3) := by decide +kernel
theorem d193_4 : decode (mB 193) 4 = .ok (.ireturn, 1) := by decide +kernel
theorem d194_0 : decode (mB 194) 0 = .ok (.iload_n 1, 1) := by decide +kernel
theorem d194_1 : decode (mB 194) 1 = .ok (.ifCond .lt 11, 3) := by decide +kernel
theorem d194_4 : decode (mB 194) 4 = .ok (.iload_n 1, 1) := by decide +kernel
theorem d194_5 : decode (mB 194) 5 = .ok (.aload_n 0, 1) := by decide +kernel
theorem d194_6 : decode (mB 194) 6 = .ok (.getfield 350, 3) := by decide +kernel
theorem d194_9 : decode (mB 194) 9 = .ok (.if_icmp .lt 5, 3) := by decide +kernel
theorem d194_12 : decode (mB 194) 12 = .ok (.iconst (-1), 1) := by decide +kernel
theorem d194_13 : decode (mB 194) 13 = .ok (.ireturn, 1) := by decide +kernel
theorem d194_14 : decode (mB 194) 14 = .ok (.iload_n 2, 1) := by decide +kernel
theorem d194_15 : decode (mB 194) 15 = .ok (.ifCond .ne 12, 3) := by decide +kernel
theorem d194_18 : decode (mB 194) 18 = .ok (.aload_n 0, 1) := by decide +kernel
theorem d194_19 : decode (mB 194) 19 = .ok (.getfield 155, 3) := by decide +kernel
theorem d194_22 : decode (mB 194) 22 = .ok (.iload_n 1, 1) := by decide +kernel
theorem d194_23 : decode (mB 194) 23 = .ok (.iaload, 1) := by decide +kernel
theorem d194_24 : decode (mB 194) 24 = .ok (.goto 32, 3) := by decide +kernel
theorem d194_27 : decode (mB 194) 27 = .ok (.iload_n 2, 1) := by decide +kernel
theorem d194_28 : decode (mB 194) 28 = .ok (.iconst 1, 1) := by decide +kernel
theorem d194_29 : decode (mB 194) 29 = .ok (.if_icmp .ne 12, 3) := by decide +kernel
theorem d194_32 : decode (mB 194) 32 = .ok (.aload_n 0, 1) := by decide +kernel
theorem d194_33 : decode (mB 194) 33 = .ok (.getfield 158, 3) := by decide +kernel
theorem d194_36 : decode (mB 194) 36 = .ok (.iload_n 1, 1) := by decide +kernel
theorem d194_37 : decode (mB 194) 37 = .ok (.iaload, 1) := by decide +kernel
theorem d194_38 : decode (mB 194) 38 = .ok (.goto 18, 3) := by decide +kernel
theorem d194_41 : decode (mB 194) 41 = .ok (.iload_n 2, 1) := by decide +kernel
theorem d194_42 : decode (mB 194) 42 = .ok (.iconst 2, 1) := by decide +kernel
theorem d194_43 : decode (mB 194) 43 = .ok (.if_icmp .ne 12, 3) := by decide +kernel
theorem d194_46 : decode (mB 194) 46 = .ok (.aload_n 0, 1) := by decide +kernel
theorem d194_47 : decode (mB 194) 47 = .ok (.getfield 161, 3) := by decide +kernel
theorem d194_50 : decode (mB 194) 50 = .ok (.iload_n 1, 1) := by decide +kernel
theorem d194_51 : decode (mB 194) 51 = .ok (.iaload, 1) := by decide +kernel
theorem d194_52 : decode (mB 194) 52 = .ok (.goto 4, 3) := by decide +kernel
theorem d194_55 : decode (mB 194) 55 = .ok (.iconst (-1), 1) := by decide +kernel
theorem d194_56 : decode (mB 194) 56 = .ok (.ireturn, 1) := by decide +kernel
theorem d195_0 : decode (mB 195) 0 = .ok (.iload_n 1, 1) := by decide +kernel
theorem d195_1 : decode (mB 195) 1 = .ok (.ifCond .lt 11, 3) := by decide +kernel
theorem d195_4 : decode (mB 195) 4 = .ok (.iload_n 1, 1) := by decide +kernel
theorem d195_5 : decode (mB 195) 5 = .ok (.aload_n 0, 1) := by decide +kernel
theorem d195_6 : decode (mB 195) 6 = .ok (.getfield 350, 3) := by decide +kernel
theorem d195_9 : decode (mB 195) 9 = .ok (.if_icmp .lt 7, 3) := by decide +kernel
theorem d195_12 : decode (mB 195) 12 = .ok (.lconst 0, 1) := by decide +kernel
theorem d195_13 : decode (mB 195) 13 = .ok (.goto 9, 3) := by decide +kernel
theorem d195_16 : decode (mB 195) 16 = .ok (.aload_n 0, 1) := by decide +kernel
theorem d195_17 : decode (mB 195) 17 = .ok (.getfield 164, 3) := by decide +kernel
theorem d195_20 : decode (mB 195) 20 = .ok (.iload_n 1, 1) := by decide +kernel
theorem d195_21 : decode (mB 195) 21 = .ok (.laload, 1) := by decide +kernel
theorem d195_22 : decode (mB 195) 22 = .ok (.lreturn, 1) := by decide +kernel
theorem d196_0 : decode (mB 196) 0 = .ok (.aload_n 0, 1) := by decide +kernel
theorem d196_1 : decode (mB 196) 1 = .ok (.getfield 350, 3) := by decide +kernel
theorem d196_4 : decode (mB 196) 4 = .ok (.istore_n 1, 1) := by decide +kernel
theorem d196_5 : decode (mB 196) 5 = .ok (.aload_n 0, 1) := by decide +kernel
theorem d196_6 : decode (mB 196) 6 = .ok (.iconst 0, 1) := by decide +kernel
theorem d196_7 : decode (mB 196) 7 = .ok (.putfield 350, 3) := by decide +kernel
theorem d196_10 : decode (mB 196) 10 = .ok (.aload_n 0, 1) := by decide +kernel
theorem d196_11 : decode (mB 196) 11 = .ok (.iconst 0, 1) := by decide +kernel
theorem d196_12 : decode (mB 196) 12 = .ok (.putfield 353, 3) := by decide +kernel
theorem d196_15 : decode (mB 196) 15 = .ok (.iconst 0, 1) := by decide +kernel
theorem d196_16 : decode (mB 196) 16 = .ok (.istore_n 2, 1) := by decide +kernel
theorem d196_17 : decode (mB 196) 17 = .ok (.iload_n 2, 1) := by decide +kernel
theorem d196_18 : decode (mB 196) 18 = .ok (.bipush 8, 2) := by decide +kernel
theorem d196_20 : decode (mB 196) 20 = .ok (.if_icmp .ge 16, 3) := by decide +kernel
theorem d196_23 : decode (mB 196) 23 = .ok (.aload_n 0, 1) := by decide +kernel
theorem d196_24 : decode (mB 196) 24 = .ok (.getfield 83, 3) := by decide +kernel
theorem d196_27 : decode (mB 196) 27 = .ok (.iload_n 2, 1) := by decide +kernel
theorem d196_28 : decode (mB 196) 28 = .ok (.iconst 0, 1) := by decide +kernel
theorem d196_29 : decode (mB 196) 29 = .ok (.bastore, 1) := by decide +kernel
theorem d196_30 : decode (mB 196) 30 = .ok (.iinc 2 1, 3) := by decide +kernel
theorem d196_33 : decode (mB 196) 33 = .ok (.goto (-16), 3) := by decide +kernel
theorem d196_36 : decode (mB 196) 36 = .ok (.iconst 0, 1) := by decide +kernel
theorem d196_37 : decode (mB 196) 37 = .ok (.istore_n 2, 1) := by decide +kernel
theorem d196_38 : decode (mB 196) 38 = .ok (.iload_n 2, 1) := by decide +kernel
theorem d196_39 : decode (mB 196) 39 = .ok (.bipush 6, 2) := by decide +kernel
theorem d196_41 : decode (mB 196) 41 = .ok (.if_icmp .ge 77, 3) := by decide +kernel
theorem d196_44 : decode (mB 196) 44 = .ok (.aload_n 0, 1) := by decide +kernel
theorem d196_45 : decode (mB 196) 45 = .ok (.getfield 89, 3) := by decide +kernel
theorem d196_48 : decode (mB 196) 48 = .ok (.iload_n 2, 1) := by decide +kernel
theorem d196_49 : decode (mB 196) 49 = .ok (.iconst 0, 1) := by decide +kernel
theorem d196_50 : decode (mB 196) 50 = .ok (.iastore, 1) := by decide +kernel
theorem d196_51 : decode (mB 196) 51 = .ok (.aload_n 0, 1) := by decide +kernel
theorem d196_52 : decode (mB 196) 52 = .ok (.getfield 98, 3) := by decide +kernel
theorem d196_55 : decode (mB 196) 55 = .ok (.iload_n 2, 1) := by decide +kernel
theorem d196_56 : decode (mB 196) 56 = .ok (.iconst 0, 1) := by decide +kernel
theorem d196_57 : decode (mB 196) 57 = .ok (.iastore, 1) := by decide +kernel
theorem d196_58 : decode (mB 196) 58 = .ok (.aload_n 0, 1) := by decide +kernel
theorem d196_59 : decode (mB 196) 59 = .ok (.getfield 101, 3) := by decide +kernel
theorem d196_62 : decode (mB 196) 62 = .ok (.iload_n 2, 1) := by decide +kernel
theorem d196_63 : decode (mB 196) 63 = .ok (.lconst 0, 1) := by decide +kernel
theorem d196_64 : decode (mB 196) 64 = .ok (.lastore, 1) := by decide +kernel
theorem d196_65 : decode (mB 196) 65 = .ok (.aload_n 0, 1) := by decide +kernel
theorem d196_66 : decode (mB 196) 66 = .ok (.getfield 107, 3) := by decide +kernel
theorem d196_69 : decode (mB 196) 69 = .ok (.iload_n 2, 1) := by decide +kernel
theorem d196_70 : decode (mB 196) 70 = .ok (.iconst 0, 1) := by decide +kernel
theorem d196_71 : decode (mB 196) 71 = .ok (.iastore, 1) := by decide +kernel
theorem d196_72 : decode (mB 196) 72 = .ok (.aload_n 0, 1) := by decide +kernel
theorem d196_73 : decode (mB 196) 73 = .ok (.getfield 134, 3) := by decide +kernel
theorem d196_76 : decode (mB 196) 76 = .ok (.iload_n 2, 1) := by decide +kernel
theorem d196_77 : decode (mB 196) 77 = .ok (.iconst 0, 1) := by decide +kernel
theorem d196_78 : decode (mB 196) 78 = .ok (.iastore, 1) := by decide +kernel
theorem d196_79 : decode (mB 196) 79 = .ok (.aload_n 0, 1) := by decide +kernel
theorem d196_80 : decode (mB 196) 80 = .ok (.getfield 149, 3) := by decide +kernel
theorem d196_83 : decode (mB 196) 83 = .ok (.iload_n 2, 1) := by decide +kernel
theorem d196_84 : decode (mB 196) 84 = .ok (.iconst 0, 1) := by decide +kernel
theorem d196_85 : decode (mB 196) 85 = .ok (.iastore, 1) := by decide +kernel
theorem d196_86 : decode (mB 196) 86 = .ok (.iconst 0, 1) := by decide +kernel
theorem d196_87 : decode (mB 196) 87 = .ok (.istore_n 3, 1) := by decide +kernel
theorem d196_88 : decode (mB 196) 88 = .ok (.iload_n 3, 1) := by decide +kernel
theorem d196_89 : decode (mB 196) 89 = .ok (.bipush 10, 2) := by decide +kernel
theorem d196_91 : decode (mB 196) 91 = .ok (.if_icmp .ge 21, 3) := by decide +kernel
theorem d196_94 : decode (mB 196) 94 = .ok (.aload_n 0, 1) := by decide +kernel
theorem d196_95 : decode (mB 196) 95 = .ok (.getfield 104, 3) := by decide +kernel
theorem d196_98 : decode (mB 196) 98 = .ok (.bipush 10, 2) := by decide +kernel
theorem d196_100 : decode (mB 196) 100 = .ok (.iload_n 2, 1) := by decide +kernel
theorem d196_101 : decode (mB 196) 101 = .ok (.imul, 1) := by decide +kernel
theorem d196_102 : decode (mB 196) 102 = .ok (.iload_n 3, 1) := by decide +kernel
theorem d196_103 : decode (mB 196) 103 = .ok (.iadd, 1) := by decide +kernel
theorem d196_104 : decode (mB 196) 104 = .ok (.lconst 0, 1) := by decide +kernel
theorem d196_105 : decode (mB 196) 105 = .ok (.lastore, 1) := by decide +kernel
theorem d196_106 : decode (mB 196) 106 = .ok (.iinc 3 1, 3) := by decide +kernel
theorem d196_109 : decode (mB 196) 109 = .ok (.goto (-21), 3) := by decide +kernel
theorem d196_112 : decode (mB 196) 112 = .ok (.iinc 2 1, 3) := by decide +kernel
theorem d196_115 : decode (mB 196) 115 = .ok (.goto (-77), 3) := by decide +kernel
theorem d196_118 : decode (mB 196) 118 = .ok (.iload_n 1, 1) := by decide +kernel
theorem d196_119 : decode (mB 196) 119 = .ok (.ireturn, 1) := by decide +kernel
theorem d9_0 : decode (mB 9) 0 = .ok (.aload_n 0, 1) := by decide +kernel
theorem d9_1 : decode (mB 9) 1 = .ok (.invokespecial 3, 3) := by decide +kernel
theorem d9_4 : decode (mB 9) 4 = .ok (.return_, 1) := by decide +kernel
theorem d62_0 : decode (mB 62) 0 = .ok (.aload_n 0, 1) := by decide +kernel
theorem d62_1 : decode (mB 62) 1 = .ok (.iload_n 1, 1) := by decide +kernel
theorem d62_2 : decode (mB 62) 2 = .ok (.putfield 9, 3) := by decide +kernel
theorem d62_5 : decode (mB 62) 5 = .ok (.aload_n 0, 1) := by decide +kernel
theorem d62_6 : decode (mB 62) 6 = .ok (.iload_n 3, 1) := by decide +kernel
theorem d62_7 : decode (mB 62) 7 = .ok (.putfield 15, 3) := by decide +kernel
theorem d62_10 : decode (mB 62) 10 = .ok (.aload_n 0, 1) := by decide +kernel
theorem d62_11 : decode (mB 62) 11 = .ok (.iload_n 2, 1) := by decide +kernel
theorem d62_12 : decode (mB 62) 12 = .ok (.iload 4, 2) := by decide +kernel
theorem d62_14 : decode (mB 62) 14 = .ok (.invokevirtual 18, 3) := by decide +kernel
theorem d62_17 : decode (mB 62) 17 = .ok (.return_, 1) := by decide +kernel
theorem d63_0 : decode (mB 63) 0 = .ok (.aload_n 0, 1) := by decide +kernel
theorem d63_1 : decode (mB 63) 1 = .ok (.iload_n 1, 1) := by decide +kernel
theorem d63_2 : decode (mB 63) 2 = .ok (.putfield 22, 3) := by decide +kernel
theorem d63_5 : decode (mB 63) 5 = .ok (.aload_n 0, 1) := by decide +kernel
theorem d63_6 : decode (mB 63) 6 = .ok (.iload_n 2, 1) := by decide +kernel
theorem d63_7 : decode (mB 63) 7 = .ok (.putfield 25, 3) := by decide +kernel
theorem d63_10 : decode (mB 63) 10 = .ok (.aload_n 0, 1) := by decide +kernel
theorem d63_11 : decode (mB 63) 11 = .ok (.iconst 0, 1) := by decide +kernel
theorem d63_12 : decode (mB 63) 12 = .ok (.putfield 28, 3) := by decide +kernel
theorem d63_15 : decode (mB 63) 15 = .ok (.aload_n 0, 1) := by decide +kernel
theorem d63_16 : decode (mB 63) 16 = .ok (.iconst 0, 1) := by decide +kernel
theorem d63_17 : decode (mB 63) 17 = .ok (.putfield 31, 3) := by decide +kernel
theorem d63_20 : decode (mB 63) 20 = .ok (.return_, 1) := by decide +kernel
theorem d115_0 : decode (mB 115) 0 = .ok (.aload_n 0, 1) := by decide +kernel
theorem d115_1 : decode (mB 115) 1 = .ok (.aload_n 1, 1) := by decide +kernel
theorem d115_2 : decode (mB 115) 2 = .ok (.getfield 9, 3) := by decide +kernel
theorem d115_5 : decode (mB 115) 5 = .ok (.putfield 9, 3) := by decide +kernel
theorem d115_8 : decode (mB 115) 8 = .ok (.aload_n 0, 1) := by decide +kernel
theorem d115_9 : decode (mB 115) 9 = .ok (.aload_n 1, 1) := by decide +kernel
theorem d115_10 : decode (mB 115) 10 = .ok (.getfield 22, 3) := by decide +kernel
theorem d115_13 : decode (mB 115) 13 = .ok (.putfield 22, 3) := by decide +kernel
theorem d115_16 : decode (mB 115) 16 = .ok (.aload_n 0, 1) := by decide +kernel
theorem d115_17 : decode (mB 115) 17 = .ok (.aload_n 1, 1) := by decide +kernel
theorem d115_18 : decode (mB 115) 18 = .ok (.getfield 15, 3) := by decide +kernel
theorem d115_21 : decode (mB 115) 21 = .ok (.putfield 15, 3) := by decide +kernel
theorem d115_24 : decode (mB 115) 24 = .ok (.aload_n 0, 1) := by decide +kernel
theorem d115_25 : decode (mB 115) 25 = .ok (.aload_n 1, 1) := by decide +kernel
theorem d115_26 : decode (mB 115) 26 = .ok (.getfield 25, 3) := by decide +kernel
theorem d115_29 : decode (mB 115) 29 = .ok (.putfield 25, 3) := by decide +kernel
theorem d115_32 : decode (mB 115) 32 = .ok (.aload_n 0, 1) := by decide +kernel
theorem d115_33 : decode (mB 115) 33 = .ok (.aload_n 1, 1) := by decide +kernel
theorem d115_34 : decode (mB 115) 34 = .ok (.getfield 28, 3) := by decide +kernel
theorem d115_37 : decode (mB 115) 37 = .ok (.putfield 28, 3) := by decide +kernel
theorem d115_40 : decode (mB 115) 40 = .ok (.aload_n 0, 1) := by decide +kernel
theorem d115_41 : decode (mB 115) 41 = .ok (.aload_n 1, 1) := by decide +kernel
theorem d115_42 : decode (mB 115) 42 = .ok (.getfield 35, 3) := by decide +kernel
theorem d115_45 : decode (mB 115) 45 = .ok (.putfield 35, 3) := by decide +kernel
theorem d115_48 : decode (mB 115) 48 = .ok (.aload_n 0, 1) := by decide +kernel
theorem d115_49 : decode (mB 115) 49 = .ok (.aload_n 1, 1) := by decide +kernel
theorem d115_50 : decode (mB 115) 50 = .ok (.getfield 31, 3) := by decide +kernel
theorem d115_53 : decode (mB 115) 53 = .ok (.putfield 31, 3) := by decide +kernel
theorem d115_56 : decode (mB 115) 56 = .ok (.aload_n 0, 1) := by decide +kernel
theorem d115_57 : decode (mB 115) 57 = .ok (.aload_n 1, 1) := by decide +kernel
theorem d115_58 : decode (mB 115) 58 = .ok (.getfield 38, 3) := by decide +kernel
theorem d115_61 : decode (mB 115) 61 = .ok (.putfield 38, 3) := by decide +kernel
theorem d115_64 : decode (mB 115) 64 = .ok (.aload_n 0, 1) := by decide +kernel
theorem d115_65 : decode (mB 115) 65 = .ok (.aload_n 1, 1) := by decide +kernel
theorem d115_66 : decode (mB 115) 66 = .ok (.getfield 42, 3) := by decide +kernel
theorem d115_69 : decode (mB 115) 69 = .ok (.putfield 42, 3) := by decide +kernel
theorem d115_72 : decode (mB 115) 72 = .ok (.return_, 1) := by decide +kernel
theorem d6_0 : decode (mB 6) 0 = .ok (.aload_n 0, 1) := by decide +kernel
theorem d6_1 : decode (mB 6) 1 = .ok (.invokespecial 1, 3) := by decide +kernel
theorem d6_4 : decode (mB 6) 4 = .ok (.aload_n 0, 1) := by decide +kernel
theorem d6_5 : decode (mB 6) 5 = .ok (.iload_n 1, 1) := by decide +kernel
theorem d6_6 : decode (mB 6) 6 = .ok (.newarray .int, 2) := by decide +kernel
theorem d6_8 : decode (mB 6) 8 = .ok (.putfield 7, 3) := by decide +kernel
theorem d6_11 : decode (mB 6) 11 = .ok (.aload_n 0, 1) := by decide +kernel
theorem d6_12 : decode (mB 6) 12 = .ok (.iload_n 1, 1) := by decide +kernel
theorem d6_13 : decode (mB 6) 13 = .ok (.newarray .int, 2) := by decide +kernel
theorem d6_15 : decode (mB 6) 15 = .ok (.putfield 13, 3) := by decide +kernel
theorem d6_18 : decode (mB 6) 18 = .ok (.aload_n 0, 1) := by decide +kernel
theorem d6_19 : decode (mB 6) 19 = .ok (.iload_n 1, 1) := by decide +kernel
theorem d6_20 : decode (mB 6) 20 = .ok (.newarray .int, 2) := by decide +kernel
theorem d6_22 : decode (mB 6) 22 = .ok (.putfield 16, 3) := by decide +kernel
theorem d6_25 : decode (mB 6) 25 = .ok (.aload_n 0, 1) := by decide +kernel
theorem d6_26 : decode (mB 6) 26 = .ok (.iload_n 1, 1) := by decide +kernel
theorem d6_27 : decode (mB 6) 27 = .ok (.newarray .long, 2) := by decide +kernel
theorem d6_29 : decode (mB 6) 29 = .ok (.putfield 19, 3) := by decide +kernel
theorem d6_32 : decode (mB 6) 32 = .ok (.return_, 1) := by decide +kernel
theorem d73_0 : decode (mB 73) 0 = .ok (.aload_n 0, 1) := by decide +kernel
theorem d73_1 : decode (mB 73) 1 = .ok (.getfield 23, 3) := by decide +kernel
theorem d73_4 : decode (mB 73) 4 = .ok (.aload_n 0, 1) := by decide +kernel
theorem d73_5 : decode (mB 73) 5 = .ok (.getfield 7, 3) := by decide +kernel
theorem d73_8 : decode (mB 73) 8 = .ok (.arraylength, 1) := by decide +kernel
theorem d73_9 : decode (mB 73) 9 = .ok (.if_icmp .lt 4, 3) := by decide +kernel
theorem d73_12 : decode (mB 73) 12 = .ok (.return_, 1) := by decide +kernel
theorem d73_13 : decode (mB 73) 13 = .ok (.aload_n 0, 1) := by decide +kernel
theorem d73_14 : decode (mB 73) 14 = .ok (.getfield 7, 3) := by decide +kernel
theorem d73_17 : decode (mB 73) 17 = .ok (.aload_n 0, 1) := by decide +kernel
theorem d73_18 : decode (mB 73) 18 = .ok (.getfield 23, 3) := by decide +kernel
theorem d73_21 : decode (mB 73) 21 = .ok (.iload_n 1, 1) := by decide +kernel
theorem d73_22 : decode (mB 73) 22 = .ok (.iastore, 1) := by decide +kernel
theorem d73_23 : decode (mB 73) 23 = .ok (.aload_n 0, 1) := by decide +kernel
theorem d73_24 : decode (mB 73) 24 = .ok (.getfield 13, 3) := by decide +kernel
theorem d73_27 : decode (mB 73) 27 = .ok (.aload_n 0, 1) := by decide +kernel
theorem d73_28 : decode (mB 73) 28 = .ok (.getfield 23, 3) := by decide +kernel
theorem d73_31 : decode (mB 73) 31 = .ok (.iload_n 2, 1) := by decide +kernel
theorem d73_32 : decode (mB 73) 32 = .ok (.iastore, 1) := by decide +kernel
theorem d73_33 : decode (mB 73) 33 = .ok (.aload_n 0, 1) := by decide +kernel
theorem d73_34 : decode (mB 73) 34 = .ok (.getfield 16, 3) := by decide +kernel
theorem d73_37 : decode (mB 73) 37 = .ok (.aload_n 0, 1) := by decide +kernel
theorem d73_38 : decode (mB 73) 38 = .ok (.getfield 23, 3) := by decide +kernel
theorem d73_41 : decode (mB 73) 41 = .ok (.aload_n 0, 1) := by decide +kernel
theorem d73_42 : decode (mB 73) 42 = .ok (.getfield 27, 3) := by decide +kernel
theorem d73_45 : decode (mB 73) 45 = .ok (.iastore, 1) := by decide +kernel
theorem d73_46 : decode (mB 73) 46 = .ok (.aload_n 0, 1) := by decide +kernel
theorem d73_47 : decode (mB 73) 47 = .ok (.getfield 19, 3) := by decide +kernel
theorem d73_50 : decode (mB 73) 50 = .ok (.aload_n 0, 1) := by decide +kernel
theorem d73_51 : decode (mB 73) 51 = .ok (.getfield 23, 3) := by decide +kernel
theorem d73_54 : decode (mB 73) 54 = .ok (.lload_n 3, 1) := by decide +kernel
theorem d73_55 : decode (mB 73) 55 = .ok (.lastore, 1) := by decide +kernel
theorem d73_56 : decode (mB 73) 56 = .ok (.aload_n 0, 1) := by decide +kernel
theorem d73_57 : decode (mB 73) 57 = .ok (.dup, 1) := by decide +kernel
theorem d73_58 : decode (mB 73) 58 = .ok (.getfield 23, 3) := by decide +kernel
theorem d73_61 : decode (mB 73) 61 = .ok (.iconst 1, 1) := by decide +kernel
theorem d73_62 : decode (mB 73) 62 = .ok (.iadd, 1) := by decide +kernel
theorem d73_63 : decode (mB 73) 63 = .ok (.putfield 23, 3) := by decide +kernel
theorem d73_66 : decode (mB 73) 66 = .ok (.return_, 1) := by decide +kernel
theorem d7_0 : decode (mB 7) 0 = .ok (.aload_n 0, 1) := by decide +kernel
theorem d7_1 : decode (mB 7) 1 = .ok (.invokespecial 3, 3) := by decide +kernel
theorem d7_4 : decode (mB 7) 4 = .ok (.aload_n 0, 1) := by decide +kernel
theorem d7_5 : decode (mB 7) 5 = .ok (.new 9, 3) := by decide +kernel
theorem d7_8 : decode (mB 7) 8 = .ok (.dup, 1) := by decide +kernel
theorem d7_9 : decode (mB 7) 9 = .ok (.invokespecial 11, 3) := by decide +kernel
theorem d7_12 : decode (mB 7) 12 = .ok (.putfield 12, 3) := by decide +kernel
theorem d7_15 : decode (mB 7) 15 = .ok (.aload_n 0, 1) := by decide +kernel
theorem d7_16 : decode (mB 7) 16 = .ok (.bipush 10, 2) := by decide +kernel
theorem d7_18 : decode (mB 7) 18 = .ok (.newarray .long, 2) := by decide +kernel
theorem d7_20 : decode (mB 7) 20 = .ok (.putfield 18, 3) := by decide +kernel
theorem d7_23 : decode (mB 7) 23 = .ok (.aload_n 0, 1) := by decide +kernel
theorem d7_24 : decode (mB 7) 24 = .ok (.bipush 9, 2) := by decide +kernel
theorem d7_26 : decode (mB 7) 26 = .ok (.anewarray 22, 3) := by decide +kernel
theorem d7_29 : decode (mB 7) 29 = .ok (.putfield 24, 3) := by decide +kernel
theorem d7_32 : decode (mB 7) 32 = .ok (.aload_n 0, 1) := by decide +kernel
theorem d7_33 : decode (mB 7) 33 = .ok (.iload_n 1, 1) := by decide +kernel
theorem d7_34 : decode (mB 7) 34 = .ok (.putfield 28, 3) := by decide +kernel
theorem d7_37 : decode (mB 7) 37 = .ok (.aload_n 0, 1) := by decide +kernel
theorem d7_38 : decode (mB 7) 38 = .ok (.aload_n 2, 1) := by decide +kernel
theorem d7_39 : decode (mB 7) 39 = .ok (.putfield 32, 3) := by decide +kernel
theorem d7_42 : decode (mB 7) 42 = .ok (.aload_n 0, 1) := by decide +kernel
theorem d7_43 : decode (mB 7) 43 = .ok (.aload_n 3, 1) := by decide +kernel
theorem d7_44 : decode (mB 7) 44 = .ok (.putfield 36, 3) := by decide +kernel
theorem d7_47 : decode (mB 7) 47 = .ok (.aload_n 0, 1) := by decide +kernel
theorem d7_48 : decode (mB 7) 48 = .ok (.iconst (-1), 1) := by decide +kernel
theorem d7_49 : decode (mB 7) 49 = .ok (.putfield 40, 3) := by decide +kernel
theorem d7_52 : decode (mB 7) 52 = .ok (.iconst 0, 1) := by decide +kernel
theorem d7_53 : decode (mB 7) 53 = .ok (.istore 4, 2) := by decide +kernel
theorem d7_55 : decode (mB 7) 55 = .ok (.iload 4, 2) := by decide +kernel
theorem d7_57 : decode (mB 7) 57 = .ok (.bipush 8, 2) := by decide +kernel
theorem d7_59 : decode (mB 7) 59 = .ok (.if_icmp .gt 23, 3) := by decide +kernel
theorem d7_62 : decode (mB 7) 62 = .ok (.aload_n 0, 1) := by decide +kernel
theorem d7_63 : decode (mB 7) 63 = .ok (.getfield 24, 3) := by decide +kernel
theorem d7_66 : decode (mB 7) 66 = .ok (.iload 4, 2) := by decide +kernel
theorem d7_68 : decode (mB 7) 68 = .ok (.new 22, 3) := by decide +kernel
theorem d7_71 : decode (mB 7) 71 = .ok (.dup, 1) := by decide +kernel
theorem d7_72 : decode (mB 7) 72 = .ok (.invokespecial 43, 3) := by decide +kernel
theorem d7_75 : decode (mB 7) 75 = .ok (.aastore, 1) := by decide +kernel
theorem d7_76 : decode (mB 7) 76 = .ok (.iinc 4 1, 3) := by decide +kernel
theorem d7_79 : decode (mB 7) 79 = .ok (.goto (-24), 3) := by decide +kernel
theorem d7_82 : decode (mB 7) 82 = .ok (.return_, 1) := by decide +kernel
theorem d60_0 : decode (mB 60) 0 = .ok (.aload_n 0, 1) := by decide +kernel
theorem d60_1 : decode (mB 60) 1 = .ok (.iconst 0, 1) := by decide +kernel
theorem d60_2 : decode (mB 60) 2 = .ok (.putfield 44, 3) := by decide +kernel
theorem d60_5 : decode (mB 60) 5 = .ok (.aload_n 0, 1) := by decide +kernel
theorem d60_6 : decode (mB 60) 6 = .ok (.iconst 0, 1) := by decide +kernel
theorem d60_7 : decode (mB 60) 7 = .ok (.putfield 47, 3) := by decide +kernel
theorem d60_10 : decode (mB 60) 10 = .ok (.aload_n 0, 1) := by decide +kernel
theorem d60_11 : decode (mB 60) 11 = .ok (.lconst 0, 1) := by decide +kernel
theorem d60_12 : decode (mB 60) 12 = .ok (.putfield 50, 3) := by decide +kernel
theorem d60_15 : decode (mB 60) 15 = .ok (.iconst 0, 1) := by decide +kernel
theorem d60_16 : decode (mB 60) 16 = .ok (.istore_n 1, 1) := by decide +kernel
theorem d60_17 : decode (mB 60) 17 = .ok (.iload_n 1, 1) := by decide +kernel
theorem d60_18 : decode (mB 60) 18 = .ok (.bipush 10, 2) := by decide +kernel
theorem d60_20 : decode (mB 60) 20 = .ok (.if_icmp .ge 16, 3) := by decide +kernel
theorem d60_23 : decode (mB 60) 23 = .ok (.aload_n 0, 1) := by decide +kernel
theorem d60_24 : decode (mB 60) 24 = .ok (.getfield 18, 3) := by decide +kernel
theorem d60_27 : decode (mB 60) 27 = .ok (.iload_n 1, 1) := by decide +kernel
theorem d60_28 : decode (mB 60) 28 = .ok (.lconst 0, 1) := by decide +kernel
theorem d60_29 : decode (mB 60) 29 = .ok (.lastore, 1) := by decide +kernel
theorem d60_30 : decode (mB 60) 30 = .ok (.iinc 1 1, 3) := by decide +kernel
theorem d60_33 : decode (mB 60) 33 = .ok (.goto (-16), 3) := by decide +kernel
theorem d60_36 : decode (mB 60) 36 = .ok (.aload_n 0, 1) := by decide +kernel
theorem d60_37 : decode (mB 60) 37 = .ok (.invokevirtual 54, 3) := by decide +kernel
theorem d60_40 : decode (mB 60) 40 = .ok (.return_, 1) := by decide +kernel
theorem d61_0 : decode (mB 61) 0 = .ok (.aload_n 0, 1) := by decide +kernel
theorem d61_1 : decode (mB 61) 1 = .ok (.getfield 12, 3) := by decide +kernel
theorem d61_4 : decode (mB 61) 4 = .ok (.iconst 0, 1) := by decide +kernel
theorem d61_5 : decode (mB 61) 5 = .ok (.putfield 57, 3) := by decide +kernel
theorem d61_8 : decode (mB 61) 8 = .ok (.aload_n 0, 1) := by decide +kernel
theorem d61_9 : decode (mB 61) 9 = .ok (.iconst 0, 1) := by decide +kernel
theorem d61_10 : decode (mB 61) 10 = .ok (.putfield 60, 3) := by decide +kernel
theorem d61_13 : decode (mB 61) 13 = .ok (.aload_n 0, 1) := by decide +kernel
theorem d61_14 : decode (mB 61) 14 = .ok (.iconst 0, 1) := by decide +kernel
theorem d61_15 : decode (mB 61) 15 = .ok (.putfield 63, 3) := by decide +kernel
theorem d61_18 : decode (mB 61) 18 = .ok (.aload_n 0, 1) := by decide +kernel
theorem d61_19 : decode (mB 61) 19 = .ok (.iconst 0, 1) := by decide +kernel
theorem d61_20 : decode (mB 61) 20 = .ok (.putfield 66, 3) := by decide +kernel
theorem d61_23 : decode (mB 61) 23 = .ok (.aload_n 0, 1) := by decide +kernel
theorem d61_24 : decode (mB 61) 24 = .ok (.iconst (-1), 1) := by decide +kernel
theorem d61_25 : decode (mB 61) 25 = .ok (.putfield 40, 3) := by decide +kernel
theorem d61_28 : decode (mB 61) 28 = .ok (.return_, 1) := by decide +kernel
theorem d59_0 : decode (mB 59) 0 = .ok (.aload_n 0, 1) := by decide +kernel
theorem d59_1 : decode (mB 59) 1 = .ok (.invokevirtual 69, 3) := by decide +kernel
theorem d59_4 : decode (mB 59) 4 = .ok (.aload_n 0, 1) := by decide +kernel
theorem d59_5 : decode (mB 59) 5 = .ok (.aload_n 1, 1) := by decide +kernel
theorem d59_6 : decode (mB 59) 6 = .ok (.putfield 36, 3) := by decide +kernel
theorem d59_9 : decode (mB 59) 9 = .ok (.aload_n 0, 1) := by decide +kernel
theorem d59_10 : decode (mB 59) 10 = .ok (.getfield 24, 3) := by decide +kernel
theorem d59_13 : decode (mB 59) 13 = .ok (.iconst 0, 1) := by decide +kernel
theorem d59_14 : decode (mB 59) 14 = .ok (.aaload, 1) := by decide +kernel
theorem d59_15 : decode (mB 59) 15 = .ok (.iconst (-1), 1) := by decide +kernel
theorem d59_16 : decode (mB 59) 16 = .ok (.iconst 0, 1) := by decide +kernel
theorem d59_17 : decode (mB 59) 17 = .ok (.iconst 0, 1) := by decide +kernel
theorem d59_18 : decode (mB 59) 18 = .ok (.aload_n 0, 1) := by decide +kernel
theorem d59_19 : decode (mB 59) 19 = .ok (.getfield 36, 3) := by decide +kernel
theorem d59_22 : decode (mB 59) 22 = .ok (.getfield 72, 3) := by decide +kernel
theorem d59_25 : decode (mB 59) 25 = .ok (.bipush 120, 2) := by decide +kernel
theorem d59_27 : decode (mB 59) 27 = .ok (.iaload, 1) := by decide +kernel
theorem d59_28 : decode (mB 59) 28 = .ok (.invokevirtual 78, 3) := by decide +kernel
theorem d59_31 : decode (mB 59) 31 = .ok (.aload_n 0, 1) := by decide +kernel
theorem d59_32 : decode (mB 59) 32 = .ok (.iconst 1, 1) := by decide +kernel
theorem d59_33 : decode (mB 59) 33 = .ok (.putfield 44, 3) := by decide +kernel
theorem d59_36 : decode (mB 59) 36 = .ok (.return_, 1) := by decide +kernel
theorem d83_0 : decode (mB 83) 0 = .ok (.aload_n 0, 1) := by decide +kernel
theorem d83_1 : decode (mB 83) 1 = .ok (.iconst 2, 1) := by decide +kernel
theorem d83_2 : decode (mB 83) 2 = .ok (.putfield 44, 3) := by decide +kernel
theorem d83_5 : decode (mB 83) 5 = .ok (.aload_n 0, 1) := by decide +kernel
theorem d83_6 : decode (mB 83) 6 = .ok (.invokevirtual 54, 3) := by decide +kernel
theorem d83_9 : decode (mB 83) 9 = .ok (.aload_n 0, 1) := by decide +kernel
theorem d83_10 : decode (mB 83) 10 = .ok (.getfield 32, 3) := by decide +kernel
theorem d83_13 : decode (mB 83) 13 = .ok (.iconst 4, 1) := by decide +kernel
theorem d83_14 : decode (mB 83) 14 = .ok (.aload_n 0, 1) := by decide +kernel
theorem d83_15 : decode (mB 83) 15 = .ok (.getfield 28, 3) := by decide +kernel
theorem d83_18 : decode (mB 83) 18 = .ok (.lconst 0, 1) := by decide +kernel
theorem d83_19 : decode (mB 83) 19 = .ok (.invokevirtual 82, 3) := by decide +kernel
theorem d83_22 : decode (mB 83) 22 = .ok (.iconst 2, 1) := by decide +kernel
theorem d83_23 : decode (mB 83) 23 = .ok (.ireturn, 1) := by decide +kernel
theorem d95_0 : decode (mB 95) 0 = .ok (.aload_n 0, 1) := by decide +kernel
theorem d95_1 : decode (mB 95) 1 = .ok (.iconst 3, 1) := by decide +kernel
theorem d95_2 : decode (mB 95) 2 = .ok (.putfield 44, 3) := by decide +kernel
theorem d95_5 : decode (mB 95) 5 = .ok (.aload_n 0, 1) := by decide +kernel
theorem d95_6 : decode (mB 95) 6 = .ok (.aload_n 0, 1) := by decide +kernel
theorem d95_7 : decode (mB 95) 7 = .ok (.getfield 88, 3) := by decide +kernel
theorem d95_10 : decode (mB 95) 10 = .ok (.putfield 50, 3) := by decide +kernel
theorem d95_13 : decode (mB 95) 13 = .ok (.aload_n 0, 1) := by decide +kernel
theorem d95_14 : decode (mB 95) 14 = .ok (.invokevirtual 54, 3) := by decide +kernel
theorem d95_17 : decode (mB 95) 17 = .ok (.aload_n 0, 1) := by decide +kernel
theorem d95_18 : decode (mB 95) 18 = .ok (.getfield 32, 3) := by decide +kernel
theorem d95_21 : decode (mB 95) 21 = .ok (.iconst 5, 1) := by decide +kernel
theorem d95_22 : decode (mB 95) 22 = .ok (.aload_n 0, 1) := by decide +kernel
theorem d95_23 : decode (mB 95) 23 = .ok (.getfield 28, 3) := by decide +kernel
theorem d95_26 : decode (mB 95) 26 = .ok (.aload_n 0, 1) := by decide +kernel
theorem d95_27 : decode (mB 95) 27 = .ok (.getfield 88, 3) := by decide +kernel
theorem d95_30 : decode (mB 95) 30 = .ok (.invokevirtual 82, 3) := by decide +kernel
theorem d95_33 : decode (mB 95) 33 = .ok (.iconst 3, 1) := by decide +kernel
theorem d95_34 : decode (mB 95) 34 = .ok (.ireturn, 1) := by decide +kernel
theorem d70_0 : decode (mB 70) 0 = .ok (.aload_n 0, 1) := by decide +kernel
theorem d70_1 : decode (mB 70) 1 = .ok (.getfield 24, 3) := by decide +kernel
theorem d70_4 : decode (mB 70) 4 = .ok (.aload_n 0, 1) := by decide +kernel
theorem d70_5 : decode (mB 70) 5 = .ok (.getfield 63, 3) := by decide +kernel
theorem d70_8 : decode (mB 70) 8 = .ok (.aaload, 1) := by decide +kernel
theorem d70_9 : decode (mB 70) 9 = .ok (.getfield 91, 3) := by decide +kernel
theorem d70_12 : decode (mB 70) 12 = .ok (.ireturn, 1) := by decide +kernel
theorem d104_0 : decode (mB 104) 0 = .ok (.iconst 1, 1) := by decide +kernel
theorem d104_1 : decode (mB 104) 1 = .ok (.istore_n 1, 1) := by decide +kernel
theorem d104_2 : decode (mB 104) 2 = .ok (.iload_n 1, 1) := by decide +kernel
theorem d104_3 : decode (mB 104) 3 = .ok (.aload_n 0, 1) := by decide +kernel
theorem d104_4 : decode (mB 104) 4 = .ok (.getfield 63, 3) := by decide +kernel
theorem d104_7 : decode (mB 104) 7 = .ok (.if_icmp .gt 23, 3) := by decide +kernel
theorem d104_10 : decode (mB 104) 10 = .ok (.aload_n 0, 1) := by decide +kernel
theorem d104_11 : decode (mB 104) 11 = .ok (.getfield 24, 3) := by decide +kernel
theorem d104_14 : decode (mB 104) 14 = .ok (.iload_n 1, 1) := by decide +kernel
theorem d104_15 : decode (mB 104) 15 = .ok (.aaload, 1) := by decide +kernel
theorem d104_16 : decode (mB 104) 16 = .ok (.getfield 94, 3) := by decide +kernel
theorem d104_19 : decode (mB 104) 19 = .ok (.ifCond .eq 5, 3) := by decide +kernel
theorem d104_22 : decode (mB 104) 22 = .ok (.iconst 1, 1) := by decide +kernel
theorem d104_23 : decode (mB 104) 23 = .ok (.ireturn, 1) := by decide +kernel
theorem d104_24 : decode (mB 104) 24 = .ok (.iinc 1 1, 3) := by decide +kernel
theorem d104_27 : decode (mB 104) 27 = .ok (.goto (-25), 3) := by decide +kernel
theorem d104_30 : decode (mB 104) 30 = .ok (.iconst 0, 1) := by decide +kernel
theorem d104_31 : decode (mB 104) 31 = .ok (.ireturn, 1) := by decide +kernel
theorem d79_0 : decode (mB 79) 0 = .ok (.aload_n 0, 1) := by decide +kernel
theorem d79_1 : decode (mB 79) 1 = .ok (.getfield 24, 3) := by decide +kernel
theorem d79_4 : decode (mB 79) 4 = .ok (.aload_n 0, 1) := by decide +kernel
theorem d79_5 : decode (mB 79) 5 = .ok (.getfield 63, 3) := by decide +kernel
theorem d79_8 : decode (mB 79) 8 = .ok (.aaload, 1) := by decide +kernel
theorem d79_9 : decode (mB 79) 9 = .ok (.astore_n 1, 1) := by decide +kernel
theorem d79_10 : decode (mB 79) 10 = .ok (.aload_n 1, 1) := by decide +kernel
theorem d79_11 : decode (mB 79) 11 = .ok (.getfield 91, 3) := by decide +kernel
theorem d79_14 : decode (mB 79) 14 = .ok (.ifCond .lt 19, 3) := by decide +kernel
theorem d79_17 : decode (mB 79) 17 = .ok (.aload_n 1, 1) := by decide +kernel
theorem d79_18 : decode (mB 79) 18 = .ok (.aload_n 0, 1) := by decide +kernel
theorem d79_19 : decode (mB 79) 19 = .ok (.getfield 36, 3) := by decide +kernel
theorem d79_22 : decode (mB 79) 22 = .ok (.getfield 98, 3) := by decide +kernel
theorem d79_25 : decode (mB 79) 25 = .ok (.aload_n 1, 1) := by decide +kernel
theorem d79_26 : decode (mB 79) 26 = .ok (.getfield 91, 3) := by decide +kernel
theorem d79_29 : decode (mB 79) 29 = .ok (.iaload, 1) := by decide +kernel
theorem d79_30 : decode (mB 79) 30 = .ok (.putfield 91, 3) := by decide +kernel
theorem d79_33 : decode (mB 79) 33 = .ok (.iconst 0, 1) := by decide +kernel
theorem d79_34 : decode (mB 79) 34 = .ok (.ireturn, 1) := by decide +kernel
theorem d87_0 : decode (mB 87) 0 = .ok (.aload_n 0, 1) := by decide +kernel
theorem d87_1 : decode (mB 87) 1 = .ok (.invokevirtual 101, 3) := by decide +kernel
theorem d87_4 : decode (mB 87) 4 = .ok (.istore_n 3, 1) := by decide +kernel
theorem d87_5 : decode (mB 87) 5 = .ok (.iload_n 3, 1) := by decide +kernel
theorem d87_6 : decode (mB 87) 6 = .ok (.ifCond .lt 26, 3) := by decide +kernel
theorem d87_9 : decode (mB 87) 9 = .ok (.aload_n 0, 1) := by decide +kernel
theorem d87_10 : decode (mB 87) 10 = .ok (.getfield 63, 3) := by decide +kernel
theorem d87_13 : decode (mB 87) 13 = .ok (.bipush 8, 2) := by decide +kernel
theorem d87_15 : decode (mB 87) 15 = .ok (.if_icmp .ge 17, 3) := by decide +kernel
theorem d87_18 : decode (mB 87) 18 = .ok (.aload_n 0, 1) := by decide +kernel
theorem d87_19 : decode (mB 87) 19 = .ok (.getfield 36, 3) := by decide +kernel
theorem d87_22 : decode (mB 87) 22 = .ok (.iload_n 3, 1) := by decide +kernel
theorem d87_23 : decode (mB 87) 23 = .ok (.iload_n 1, 1) := by decide +kernel
theorem d87_24 : decode (mB 87) 24 = .ok (.invokevirtual 105, 3) := by decide +kernel
theorem d87_27 : decode (mB 87) 27 = .ok (.bipush (-2), 2) := by decide +kernel
theorem d87_29 : decode (mB 87) 29 = .ok (.if_icmp .ne 8, 3) := by decide +kernel
theorem d87_32 : decode (mB 87) 32 = .ok (.aload_n 0, 1) := by decide +kernel
theorem d87_33 : decode (mB 87) 33 = .ok (.invokevirtual 109, 3) := by decide +kernel
theorem d87_36 : decode (mB 87) 36 = .ok (.ireturn, 1) := by decide +kernel
theorem d87_37 : decode (mB 87) 37 = .ok (.aload_n 0, 1) := by decide +kernel
theorem d87_38 : decode (mB 87) 38 = .ok (.dup, 1) := by decide +kernel
theorem d87_39 : decode (mB 87) 39 = .ok (.getfield 63, 3) := by decide +kernel
theorem d87_42 : decode (mB 87) 42 = .ok (.iconst 1, 1) := by decide +kernel
theorem d87_43 : decode (mB 87) 43 = .ok (.iadd, 1) := by decide +kernel
theorem d87_44 : decode (mB 87) 44 = .ok (.putfield 63, 3) := by decide +kernel
theorem d87_47 : decode (mB 87) 47 = .ok (.aload_n 0, 1) := by decide +kernel
theorem d87_48 : decode (mB 87) 48 = .ok (.getfield 24, 3) := by decide +kernel
theorem d87_51 : decode (mB 87) 51 = .ok (.aload_n 0, 1) := by decide +kernel
theorem d87_52 : decode (mB 87) 52 = .ok (.getfield 63, 3) := by decide +kernel
theorem d87_55 : decode (mB 87) 55 = .ok (.aaload, 1) := by decide +kernel
theorem d87_56 : decode (mB 87) 56 = .ok (.astore 4, 2) := by decide +kernel
theorem d87_58 : decode (mB 87) 58 = .ok (.aload 4, 2) := by decide +kernel
theorem d87_60 : decode (mB 87) 60 = .ok (.iload_n 3, 1) := by decide +kernel
theorem d87_61 : decode (mB 87) 61 = .ok (.iload_n 1, 1) := by decide +kernel
theorem d87_62 : decode (mB 87) 62 = .ok (.aload_n 0, 1) := by decide +kernel
theorem d87_63 : decode (mB 87) 63 = .ok (.getfield 60, 3) := by decide +kernel
theorem d87_66 : decode (mB 87) 66 = .ok (.aload_n 0, 1) := by decide +kernel
theorem d87_67 : decode (mB 87) 67 = .ok (.getfield 36, 3) := by decide +kernel
theorem d87_70 : decode (mB 87) 70 = .ok (.iload_n 3, 1) := by decide +kernel
theorem d87_71 : decode (mB 87) 71 = .ok (.iload_n 1, 1) := by decide +kernel
theorem d87_72 : decode (mB 87) 72 = .ok (.invokevirtual 105, 3) := by decide +kernel
theorem d87_75 : decode (mB 87) 75 = .ok (.invokevirtual 78, 3) := by decide +kernel
theorem d87_78 : decode (mB 87) 78 = .ok (.aload_n 0, 1) := by decide +kernel
theorem d87_79 : decode (mB 87) 79 = .ok (.iload_n 2, 1) := by decide +kernel
theorem d87_80 : decode (mB 87) 80 = .ok (.putfield 60, 3) := by decide +kernel
theorem d87_83 : decode (mB 87) 83 = .ok (.aload_n 0, 1) := by decide +kernel
theorem d87_84 : decode (mB 87) 84 = .ok (.getfield 36, 3) := by decide +kernel
theorem d87_87 : decode (mB 87) 87 = .ok (.getfield 112, 3) := by decide +kernel
theorem d87_90 : decode (mB 87) 90 = .ok (.iload_n 3, 1) := by decide +kernel
theorem d87_91 : decode (mB 87) 91 = .ok (.iaload, 1) := by decide +kernel
theorem d87_92 : decode (mB 87) 92 = .ok (.bipush 23, 2) := by decide +kernel
theorem d87_94 : decode (mB 87) 94 = .ok (.if_icmp .ne 35, 3) := by decide +kernel
theorem d87_97 : decode (mB 87) 97 = .ok (.iload_n 1, 1) := by decide +kernel
theorem d87_98 : decode (mB 87) 98 = .ok (.ifCond .ne 31, 3) := by decide +kernel
theorem d87_101 : decode (mB 87) 101 = .ok (.aload 4, 2) := by decide +kernel
theorem d87_103 : decode (mB 87) 103 = .ok (.iconst 1, 1) := by decide +kernel
theorem d87_104 : decode (mB 87) 104 = .ok (.putfield 115, 3) := by decide +kernel
theorem d87_107 : decode (mB 87) 107 = .ok (.aload 4, 2) := by decide +kernel
theorem d87_109 : decode (mB 87) 109 = .ok (.aload_n 0, 1) := by decide +kernel
theorem d87_110 : decode (mB 87) 110 = .ok (.getfield 32, 3) := by decide +kernel
theorem d87_113 : decode (mB 87) 113 = .ok (.getfield 118, 3) := by decide +kernel
theorem d87_116 : decode (mB 87) 116 = .ok (.putfield 121, 3) := by decide +kernel
theorem d87_119 : decode (mB 87) 119 = .ok (.aload_n 0, 1) := by decide +kernel
theorem d87_120 : decode (mB 87) 120 = .ok (.dup, 1) := by decide +kernel
theorem d87_121 : decode (mB 87) 121 = .ok (.getfield 66, 3) := by decide +kernel
theorem d87_124 : decode (mB 87) 124 = .ok (.iconst 1, 1) := by decide +kernel
theorem d87_125 : decode (mB 87) 125 = .ok (.iadd, 1) := by decide +kernel
theorem d87_126 : decode (mB 87) 126 = .ok (.putfield 66, 3) := by decide +kernel
theorem d87_129 : decode (mB 87) 129 = .ok (.iconst 0, 1) := by decide +kernel
theorem d87_130 : decode (mB 87) 130 = .ok (.ireturn, 1) := by decide +kernel
theorem d71_0 : decode (mB 71) 0 = .ok (.aload_n 1, 1) := by decide +kernel
theorem d71_1 : decode (mB 71) 1 = .ok (.iload_n 2, 1) := by decide +kernel
theorem d71_2 : decode (mB 71) 2 = .ok (.aload_n 0, 1) := by decide +kernel
theorem d71_3 : decode (mB 71) 3 = .ok (.getfield 36, 3) := by decide +kernel
theorem d71_6 : decode (mB 71) 6 = .ok (.aload_n 1, 1) := by decide +kernel
theorem d71_7 : decode (mB 71) 7 = .ok (.getfield 124, 3) := by decide +kernel
theorem d71_10 : decode (mB 71) 10 = .ok (.iload_n 2, 1) := by decide +kernel
theorem d71_11 : decode (mB 71) 11 = .ok (.invokevirtual 105, 3) := by decide +kernel
theorem d71_14 : decode (mB 71) 14 = .ok (.invokevirtual 127, 3) := by decide +kernel
theorem d71_17 : decode (mB 71) 17 = .ok (.aload_n 0, 1) := by decide +kernel
theorem d71_18 : decode (mB 71) 18 = .ok (.iload_n 3, 1) := by decide +kernel
theorem d71_19 : decode (mB 71) 19 = .ok (.putfield 60, 3) := by decide +kernel
theorem d71_22 : decode (mB 71) 22 = .ok (.return_, 1) := by decide +kernel
theorem d75_0 : decode (mB 75) 0 = .ok (.aload_n 0, 1) := by decide +kernel
theorem d75_1 : decode (mB 75) 1 = .ok (.getfield 24, 3) := by decide +kernel
theorem d75_4 : decode (mB 75) 4 = .ok (.aload_n 0, 1) := by decide +kernel
theorem d75_5 : decode (mB 75) 5 = .ok (.getfield 63, 3) := by decide +kernel
theorem d75_8 : decode (mB 75) 8 = .ok (.aaload, 1) := by decide +kernel
theorem d75_9 : decode (mB 75) 9 = .ok (.astore_n 1, 1) := by decide +kernel
theorem d75_10 : decode (mB 75) 10 = .ok (.aload_n 0, 1) := by decide +kernel
theorem d75_11 : decode (mB 75) 11 = .ok (.aload_n 1, 1) := by decide +kernel
theorem d75_12 : decode (mB 75) 12 = .ok (.invokevirtual 131, 3) := by decide +kernel
theorem d75_15 : decode (mB 75) 15 = .ok (.aload_n 0, 1) := by decide +kernel
theorem d75_16 : decode (mB 75) 16 = .ok (.aload_n 1, 1) := by decide +kernel
theorem d75_17 : decode (mB 75) 17 = .ok (.getfield 135, 3) := by decide +kernel
theorem d75_20 : decode (mB 75) 20 = .ok (.putfield 60, 3) := by decide +kernel
theorem d75_23 : decode (mB 75) 23 = .ok (.aload_n 0, 1) := by decide +kernel
theorem d75_24 : decode (mB 75) 24 = .ok (.dup, 1) := by decide +kernel
theorem d75_25 : decode (mB 75) 25 = .ok (.getfield 63, 3) := by decide +kernel
theorem d75_28 : decode (mB 75) 28 = .ok (.iconst 1, 1) := by decide +kernel
theorem d75_29 : decode (mB 75) 29 = .ok (.isub, 1) := by decide +kernel
theorem d75_30 : decode (mB 75) 30 = .ok (.putfield 63, 3) := by decide +kernel
theorem d75_33 : decode (mB 75) 33 = .ok (.return_, 1) := by decide +kernel
theorem d76_0 : decode (mB 76) 0 = .ok (.aload_n 1, 1) := by decide +kernel
theorem d76_1 : decode (mB 76) 1 = .ok (.getfield 115, 3) := by decide +kernel
theorem d76_4 : decode (mB 76) 4 = .ok (.iconst 1, 1) := by decide +kernel
theorem d76_5 : decode (mB 76) 5 = .ok (.if_icmp .ne 16, 3) := by decide +kernel
theorem d76_8 : decode (mB 76) 8 = .ok (.aload_n 0, 1) := by decide +kernel
theorem d76_9 : decode (mB 76) 9 = .ok (.dup, 1) := by decide +kernel
theorem d76_10 : decode (mB 76) 10 = .ok (.getfield 66, 3) := by decide +kernel
theorem d76_13 : decode (mB 76) 13 = .ok (.iconst 1, 1) := by decide +kernel
theorem d76_14 : decode (mB 76) 14 = .ok (.isub, 1) := by decide +kernel
theorem d76_15 : decode (mB 76) 15 = .ok (.putfield 66, 3) := by decide +kernel
theorem d76_18 : decode (mB 76) 18 = .ok (.goto 29, 3) := by decide +kernel
theorem d76_21 : decode (mB 76) 21 = .ok (.aload_n 1, 1) := by decide +kernel
theorem d76_22 : decode (mB 76) 22 = .ok (.getfield 115, 3) := by decide +kernel
theorem d76_25 : decode (mB 76) 25 = .ok (.iconst 2, 1) := by decide +kernel
theorem d76_26 : decode (mB 76) 26 = .ok (.if_icmp .ne 21, 3) := by decide +kernel
theorem d76_29 : decode (mB 76) 29 = .ok (.aload_n 0, 1) := by decide +kernel
theorem d76_30 : decode (mB 76) 30 = .ok (.getfield 12, 3) := by decide +kernel
theorem d76_33 : decode (mB 76) 33 = .ok (.aload_n 0, 1) := by decide +kernel
theorem d76_34 : decode (mB 76) 34 = .ok (.getfield 12, 3) := by decide +kernel
theorem d76_37 : decode (mB 76) 37 = .ok (.aload_n 0, 1) := by decide +kernel
theorem d76_38 : decode (mB 76) 38 = .ok (.getfield 63, 3) := by decide +kernel
theorem d76_41 : decode (mB 76) 41 = .ok (.invokevirtual 138, 3) := by decide +kernel
theorem d76_44 : decode (mB 76) 44 = .ok (.invokevirtual 142, 3) := by decide +kernel
theorem d76_47 : decode (mB 76) 47 = .ok (.aload_n 1, 1) := by decide +kernel
theorem d76_48 : decode (mB 76) 48 = .ok (.iconst 0, 1) := by decide +kernel
theorem d76_49 : decode (mB 76) 49 = .ok (.putfield 115, 3) := by decide +kernel
theorem d76_52 : decode (mB 76) 52 = .ok (.return_, 1) := by decide +kernel
theorem d66_0 : decode (mB 66) 0 = .ok (.iconst 1, 1) := by decide +kernel
theorem d66_1 : decode (mB 66) 1 = .ok (.istore_n 1, 1) := by decide +kernel
theorem d66_2 : decode (mB 66) 2 = .ok (.iload_n 1, 1) := by decide +kernel
theorem d66_3 : decode (mB 66) 3 = .ok (.aload_n 0, 1) := by decide +kernel
theorem d66_4 : decode (mB 66) 4 = .ok (.getfield 63, 3) := by decide +kernel
theorem d66_7 : decode (mB 66) 7 = .ok (.if_icmp .gt 84, 3) := by decide +kernel
theorem d66_10 : decode (mB 66) 10 = .ok (.aload_n 0, 1) := by decide +kernel
theorem d66_11 : decode (mB 66) 11 = .ok (.getfield 66, 3) := by decide +kernel
theorem d66_14 : decode (mB 66) 14 = .ok (.ifCond .le 77, 3) := by decide +kernel
theorem d66_17 : decode (mB 66) 17 = .ok (.aload_n 0, 1) := by decide +kernel
theorem d66_18 : decode (mB 66) 18 = .ok (.getfield 24, 3) := by decide +kernel
theorem d66_21 : decode (mB 66) 21 = .ok (.iload_n 1, 1) := by decide +kernel
theorem d66_22 : decode (mB 66) 22 = .ok (.aaload, 1) := by decide +kernel
theorem d66_23 : decode (mB 66) 23 = .ok (.astore_n 2, 1) := by decide +kernel
theorem d66_24 : decode (mB 66) 24 = .ok (.aload_n 2, 1) := by decide +kernel
theorem d66_25 : decode (mB 66) 25 = .ok (.getfield 115, 3) := by decide +kernel
theorem d66_28 : decode (mB 66) 28 = .ok (.iconst 1, 1) := by decide +kernel
theorem d66_29 : decode (mB 66) 29 = .ok (.if_icmp .ne 56, 3) := by decide +kernel
theorem d66_32 : decode (mB 66) 32 = .ok (.aload_n 0, 1) := by decide +kernel
theorem d66_33 : decode (mB 66) 33 = .ok (.getfield 32, 3) := by decide +kernel
theorem d66_36 : decode (mB 66) 36 = .ok (.getfield 118, 3) := by decide +kernel
theorem d66_39 : decode (mB 66) 39 = .ok (.aload_n 2, 1) := by decide +kernel
theorem d66_40 : decode (mB 66) 40 = .ok (.getfield 121, 3) := by decide +kernel
theorem d66_43 : decode (mB 66) 43 = .ok (.isub, 1) := by decide +kernel
theorem d66_44 : decode (mB 66) 44 = .ok (.aload_n 0, 1) := by decide +kernel
theorem d66_45 : decode (mB 66) 45 = .ok (.getfield 36, 3) := by decide +kernel
theorem d66_48 : decode (mB 66) 48 = .ok (.getfield 146, 3) := by decide +kernel
theorem d66_51 : decode (mB 66) 51 = .ok (.aload_n 2, 1) := by decide +kernel
theorem d66_52 : decode (mB 66) 52 = .ok (.getfield 124, 3) := by decide +kernel
theorem d66_55 : decode (mB 66) 55 = .ok (.iaload, 1) := by decide +kernel
theorem d66_56 : decode (mB 66) 56 = .ok (.if_icmp .lt 29, 3) := by decide +kernel
theorem d66_59 : decode (mB 66) 59 = .ok (.aload_n 2, 1) := by decide +kernel
theorem d66_60 : decode (mB 66) 60 = .ok (.iconst 2, 1) := by decide +kernel
theorem d66_61 : decode (mB 66) 61 = .ok (.putfield 115, 3) := by decide +kernel
theorem d66_64 : decode (mB 66) 64 = .ok (.aload_n 0, 1) := by decide +kernel
theorem d66_65 : decode (mB 66) 65 = .ok (.dup, 1) := by decide +kernel
theorem d66_66 : decode (mB 66) 66 = .ok (.getfield 66, 3) := by decide +kernel
theorem d66_69 : decode (mB 66) 69 = .ok (.iconst 1, 1) := by decide +kernel
theorem d66_70 : decode (mB 66) 70 = .ok (.isub, 1) := by decide +kernel
theorem d66_71 : decode (mB 66) 71 = .ok (.putfield 66, 3) := by decide +kernel
theorem d66_74 : decode (mB 66) 74 = .ok (.aload_n 0, 1) := by decide +kernel
theorem d66_75 : decode (mB 66) 75 = .ok (.getfield 12, 3) := by decide +kernel
theorem d66_78 : decode (mB 66) 78 = .ok (.bipush 7, 2) := by decide +kernel
theorem d66_80 : decode (mB 66) 80 = .ok (.iload_n 1, 1) := by decide +kernel
theorem d66_81 : decode (mB 66) 81 = .ok (.lconst 0, 1) := by decide +kernel
theorem d66_82 : decode (mB 66) 82 = .ok (.invokevirtual 149, 3) := by decide +kernel
theorem d66_85 : decode (mB 66) 85 = .ok (.iinc 1 1, 3) := by decide +kernel
theorem d66_88 : decode (mB 66) 88 = .ok (.goto (-86), 3) := by decide +kernel
theorem d66_91 : decode (mB 66) 91 = .ok (.return_, 1) := by decide +kernel
theorem d69_0 : decode (mB 69) 0 = .ok (.iconst 0, 1) := by decide +kernel
theorem d69_1 : decode (mB 69) 1 = .ok (.istore_n 1, 1) := by decide +kernel
theorem d69_2 : decode (mB 69) 2 = .ok (.iload_n 1, 1) := by decide +kernel
theorem d69_3 : decode (mB 69) 3 = .ok (.bipush 24, 2) := by decide +kernel
theorem d69_5 : decode (mB 69) 5 = .ok (.if_icmp .ge 153, 3) := by decide +kernel
theorem d69_8 : decode (mB 69) 8 = .ok (.aload_n 0, 1) := by decide +kernel
theorem d69_9 : decode (mB 69) 9 = .ok (.getfield 63, 3) := by decide +kernel
theorem d69_12 : decode (mB 69) 12 = .ok (.ifCond .le 146, 3) := by decide +kernel
theorem d69_15 : decode (mB 69) 15 = .ok (.aload_n 0, 1) := by decide +kernel
theorem d69_16 : decode (mB 69) 16 = .ok (.invokevirtual 101, 3) := by decide +kernel
theorem d69_19 : decode (mB 69) 19 = .ok (.iconst (-1), 1) := by decide +kernel
theorem d69_20 : decode (mB 69) 20 = .ok (.if_icmp .ne 138, 3) := by decide +kernel
theorem d69_23 : decode (mB 69) 23 = .ok (.aload_n 0, 1) := by decide +kernel
theorem d69_24 : decode (mB 69) 24 = .ok (.getfield 24, 3) := by decide +kernel
theorem d69_27 : decode (mB 69) 27 = .ok (.aload_n 0, 1) := by decide +kernel
theorem d69_28 : decode (mB 69) 28 = .ok (.getfield 63, 3) := by decide +kernel
theorem d69_31 : decode (mB 69) 31 = .ok (.aaload, 1) := by decide +kernel
theorem d69_32 : decode (mB 69) 32 = .ok (.astore_n 2, 1) := by decide +kernel
theorem d69_33 : decode (mB 69) 33 = .ok (.aload_n 0, 1) := by decide +kernel
theorem d69_34 : decode (mB 69) 34 = .ok (.getfield 36, 3) := by decide +kernel
theorem d69_37 : decode (mB 69) 37 = .ok (.getfield 112, 3) := by decide +kernel
theorem d69_40 : decode (mB 69) 40 = .ok (.aload_n 2, 1) := by decide +kernel
theorem d69_41 : decode (mB 69) 41 = .ok (.getfield 124, 3) := by decide +kernel
theorem d69_44 : decode (mB 69) 44 = .ok (.iaload, 1) := by decide +kernel
theorem d69_45 : decode (mB 69) 45 = .ok (.istore_n 3, 1) := by decide +kernel
theorem d69_46 : decode (mB 69) 46 = .ok (.iload_n 3, 1) := by decide +kernel
theorem d69_47 : decode (mB 69) 47 = .ok (.bipush 20, 2) := by decide +kernel
theorem d69_49 : decode (mB 69) 49 = .ok (.if_icmp .ne 37, 3) := by decide +kernel
theorem d69_52 : decode (mB 69) 52 = .ok (.aload_n 2, 1) := by decide +kernel
theorem d69_53 : decode (mB 69) 53 = .ok (.getfield 152, 3) := by decide +kernel
theorem d69_56 : decode (mB 69) 56 = .ok (.iconst 1, 1) := by decide +kernel
theorem d69_57 : decode (mB 69) 57 = .ok (.if_icmp .ge 29, 3) := by decide +kernel
theorem d69_60 : decode (mB 69) 60 = .ok (.aload_n 0, 1) := by decide +kernel
theorem d69_61 : decode (mB 69) 61 = .ok (.aload_n 2, 1) := by decide +kernel
theorem d69_62 : decode (mB 69) 62 = .ok (.iconst 1, 1) := by decide +kernel
theorem d69_63 : decode (mB 69) 63 = .ok (.aload_n 2, 1) := by decide +kernel
theorem d69_64 : decode (mB 69) 64 = .ok (.getfield 135, 3) := by decide +kernel
theorem d69_67 : decode (mB 69) 67 = .ok (.invokevirtual 155, 3) := by decide +kernel
theorem d69_70 : decode (mB 69) 70 = .ok (.aload_n 0, 1) := by decide +kernel
theorem d69_71 : decode (mB 69) 71 = .ok (.getfield 32, 3) := by decide +kernel
theorem d69_74 : decode (mB 69) 74 = .ok (.iconst 2, 1) := by decide +kernel
theorem d69_75 : decode (mB 69) 75 = .ok (.aload_n 0, 1) := by decide +kernel
theorem d69_76 : decode (mB 69) 76 = .ok (.getfield 28, 3) := by decide +kernel
theorem d69_79 : decode (mB 69) 79 = .ok (.lconst 0, 1) := by decide +kernel
theorem d69_80 : decode (mB 69) 80 = .ok (.invokevirtual 82, 3) := by decide +kernel
theorem d69_83 : decode (mB 69) 83 = .ok (.goto 69, 3) := by decide +kernel
theorem d69_86 : decode (mB 69) 86 = .ok (.iload_n 3, 1) := by decide +kernel
theorem d69_87 : decode (mB 69) 87 = .ok (.bipush 20, 2) := by decide +kernel
theorem d69_89 : decode (mB 69) 89 = .ok (.if_icmp .ne 19, 3) := by decide +kernel
theorem d69_92 : decode (mB 69) 92 = .ok (.aload_n 2, 1) := by decide +kernel
theorem d69_93 : decode (mB 69) 93 = .ok (.getfield 152, 3) := by decide +kernel
theorem d69_96 : decode (mB 69) 96 = .ok (.iconst 2, 1) := by decide +kernel
theorem d69_97 : decode (mB 69) 97 = .ok (.if_icmp .ge 11, 3) := by decide +kernel
theorem d69_100 : decode (mB 69) 100 = .ok (.aload_n 0, 1) := by decide +kernel
theorem d69_101 : decode (mB 69) 101 = .ok (.aload_n 2, 1) := by decide +kernel
theorem d69_102 : decode (mB 69) 102 = .ok (.invokevirtual 159, 3) := by decide +kernel
theorem d69_105 : decode (mB 69) 105 = .ok (.goto 47, 3) := by decide +kernel
theorem d69_108 : decode (mB 69) 108 = .ok (.aload_n 2, 1) := by decide +kernel
theorem d69_109 : decode (mB 69) 109 = .ok (.getfield 94, 3) := by decide +kernel
theorem d69_112 : decode (mB 69) 112 = .ok (.ifCond .eq 25, 3) := by decide +kernel
theorem d69_115 : decode (mB 69) 115 = .ok (.aload_n 0, 1) := by decide +kernel
theorem d69_116 : decode (mB 69) 116 = .ok (.aload_n 2, 1) := by decide +kernel
theorem d69_117 : decode (mB 69) 117 = .ok (.getfield 162, 3) := by decide +kernel
theorem d69_120 : decode (mB 69) 120 = .ok (.putfield 88, 3) := by decide +kernel
theorem d69_123 : decode (mB 69) 123 = .ok (.aload_n 0, 1) := by decide +kernel
theorem d69_124 : decode (mB 69) 124 = .ok (.aload_n 2, 1) := by decide +kernel
theorem d69_125 : decode (mB 69) 125 = .ok (.getfield 165, 3) := by decide +kernel
theorem d69_128 : decode (mB 69) 128 = .ok (.putfield 168, 3) := by decide +kernel
theorem d69_131 : decode (mB 69) 131 = .ok (.aload_n 0, 1) := by decide +kernel
theorem d69_132 : decode (mB 69) 132 = .ok (.invokevirtual 171, 3) := by decide +kernel
theorem d69_135 : decode (mB 69) 135 = .ok (.iconst 1, 1) := by decide +kernel
theorem d69_136 : decode (mB 69) 136 = .ok (.ireturn, 1) := by decide +kernel
theorem d69_137 : decode (mB 69) 137 = .ok (.aload_n 0, 1) := by decide +kernel
theorem d69_138 : decode (mB 69) 138 = .ok (.invokevirtual 171, 3) := by decide +kernel
theorem d69_141 : decode (mB 69) 141 = .ok (.iload_n 3, 1) := by decide +kernel
theorem d69_142 : decode (mB 69) 142 = .ok (.bipush 8, 2) := by decide +kernel
theorem d69_144 : decode (mB 69) 144 = .ok (.if_icmp .eq 8, 3) := by decide +kernel
theorem d69_147 : decode (mB 69) 147 = .ok (.aload_n 0, 1) := by decide +kernel
theorem d69_148 : decode (mB 69) 148 = .ok (.invokevirtual 109, 3) := by decide +kernel
theorem d69_151 : decode (mB 69) 151 = .ok (.pop, 1) := by decide +kernel
theorem d69_152 : decode (mB 69) 152 = .ok (.iinc 1 1, 3) := by decide +kernel
theorem d69_155 : decode (mB 69) 155 = .ok (.goto (-153), 3) := by decide +kernel
theorem d69_158 : decode (mB 69) 158 = .ok (.iconst 0, 1) := by decide +kernel
theorem d69_159 : decode (mB 69) 159 = .ok (.ireturn, 1) := by decide +kernel
theorem d74_0 : decode (mB 74) 0 = .ok (.aload_n 0, 1) := by decide +kernel
theorem d74_1 : decode (mB 74) 1 = .ok (.aload_n 1, 1) := by decide +kernel
theorem d74_2 : decode (mB 74) 2 = .ok (.iconst 2, 1) := by decide +kernel
theorem d74_3 : decode (mB 74) 3 = .ok (.aload_n 1, 1) := by decide +kernel
theorem d74_4 : decode (mB 74) 4 = .ok (.getfield 135, 3) := by decide +kernel
theorem d74_7 : decode (mB 74) 7 = .ok (.iconst 1, 1) := by decide +kernel
theorem d74_8 : decode (mB 74) 8 = .ok (.invokestatic 174, 3) := by decide +kernel
theorem d74_11 : decode (mB 74) 11 = .ok (.invokevirtual 155, 3) := by decide +kernel
theorem d74_14 : decode (mB 74) 14 = .ok (.aload_n 0, 1) := by decide +kernel
theorem d74_15 : decode (mB 74) 15 = .ok (.getfield 32, 3) := by decide +kernel
theorem d74_18 : decode (mB 74) 18 = .ok (.iconst 3, 1) := by decide +kernel
theorem d74_19 : decode (mB 74) 19 = .ok (.aload_n 0, 1) := by decide +kernel
theorem d74_20 : decode (mB 74) 20 = .ok (.getfield 28, 3) := by decide +kernel
theorem d74_23 : decode (mB 74) 23 = .ok (.lconst 0, 1) := by decide +kernel
theorem d74_24 : decode (mB 74) 24 = .ok (.invokevirtual 82, 3) := by decide +kernel
theorem d74_27 : decode (mB 74) 27 = .ok (.return_, 1) := by decide +kernel
theorem d93_0 : decode (mB 93) 0 = .ok (.aload_n 0, 1) := by decide +kernel
theorem d93_1 : decode (mB 93) 1 = .ok (.getfield 63, 3) := by decide +kernel
theorem d93_4 : decode (mB 93) 4 = .ok (.istore_n 1, 1) := by decide +kernel
theorem d93_5 : decode (mB 93) 5 = .ok (.iload_n 1, 1) := by decide +kernel
theorem d93_6 : decode (mB 93) 6 = .ok (.ifCond .le 28, 3) := by decide +kernel
theorem d93_9 : decode (mB 93) 9 = .ok (.aload_n 0, 1) := by decide +kernel
theorem d93_10 : decode (mB 93) 10 = .ok (.aload_n 0, 1) := by decide +kernel
theorem d93_11 : decode (mB 93) 11 = .ok (.getfield 24, 3) := by decide +kernel
theorem d93_14 : decode (mB 93) 14 = .ok (.iload_n 1, 1) := by decide +kernel
theorem d93_15 : decode (mB 93) 15 = .ok (.aaload, 1) := by decide +kernel
theorem d93_16 : decode (mB 93) 16 = .ok (.invokevirtual 179, 3) := by decide +kernel
theorem d93_19 : decode (mB 93) 19 = .ok (.ifCond .eq 5, 3) := by decide +kernel
theorem d93_22 : decode (mB 93) 22 = .ok (.iconst 1, 1) := by decide +kernel
theorem d93_23 : decode (mB 93) 23 = .ok (.ireturn, 1) := by decide +kernel
theorem d93_24 : decode (mB 93) 24 = .ok (.aload_n 0, 1) := by decide +kernel
theorem d93_25 : decode (mB 93) 25 = .ok (.invokevirtual 171, 3) := by decide +kernel
theorem d93_28 : decode (mB 93) 28 = .ok (.iinc 1 (-1), 3) := by decide +kernel
theorem d93_31 : decode (mB 93) 31 = .ok (.goto (-26), 3) := by decide +kernel
theorem d93_34 : decode (mB 93) 34 = .ok (.aload_n 0, 1) := by decide +kernel
theorem d93_35 : decode (mB 93) 35 = .ok (.invokevirtual 183, 3) := by decide +kernel
theorem d93_38 : decode (mB 93) 38 = .ok (.ireturn, 1) := by decide +kernel
theorem d94_0 : decode (mB 94) 0 = .ok (.aload_n 0, 1) := by decide +kernel
theorem d94_1 : decode (mB 94) 1 = .ok (.getfield 36, 3) := by decide +kernel
theorem d94_4 : decode (mB 94) 4 = .ok (.getfield 112, 3) := by decide +kernel
theorem d94_7 : decode (mB 94) 7 = .ok (.aload_n 1, 1) := by decide +kernel
theorem d94_8 : decode (mB 94) 8 = .ok (.getfield 124, 3) := by decide +kernel
theorem d94_11 : decode (mB 94) 11 = .ok (.iaload, 1) := by decide +kernel
theorem d94_12 : decode (mB 94) 12 = .ok (.istore_n 2, 1) := by decide +kernel
theorem d94_13 : decode (mB 94) 13 = .ok (.iload_n 2, 1) := by decide +kernel
theorem d94_14 : decode (mB 94) 14 = .ok (.bipush 18, 2) := by decide +kernel
theorem d94_16 : decode (mB 94) 16 = .ok (.if_icmp .ne 54, 3) := by decide +kernel
theorem d94_19 : decode (mB 94) 19 = .ok (.aload_n 1, 1) := by decide +kernel
theorem d94_20 : decode (mB 94) 20 = .ok (.getfield 152, 3) := by decide +kernel
theorem d94_23 : decode (mB 94) 23 = .ok (.ifCond .ne 47, 3) := by decide +kernel
theorem d94_26 : decode (mB 94) 26 = .ok (.aload_n 0, 1) := by decide +kernel
theorem d94_27 : decode (mB 94) 27 = .ok (.getfield 168, 3) := by decide +kernel
theorem d94_30 : decode (mB 94) 30 = .ok (.ifCond .ne 40, 3) := by decide +kernel
theorem d94_33 : decode (mB 94) 33 = .ok (.aload_n 0, 1) := by decide +kernel
theorem d94_34 : decode (mB 94) 34 = .ok (.getfield 18, 3) := by decide +kernel
theorem d94_37 : decode (mB 94) 37 = .ok (.aload_n 0, 1) := by decide +kernel
theorem d94_38 : decode (mB 94) 38 = .ok (.getfield 36, 3) := by decide +kernel
theorem d94_41 : decode (mB 94) 41 = .ok (.getfield 186, 3) := by decide +kernel
theorem d94_44 : decode (mB 94) 44 = .ok (.aload_n 1, 1) := by decide +kernel
theorem d94_45 : decode (mB 94) 45 = .ok (.getfield 124, 3) := by decide +kernel
theorem d94_48 : decode (mB 94) 48 = .ok (.iaload, 1) := by decide +kernel
theorem d94_49 : decode (mB 94) 49 = .ok (.aload_n 0, 1) := by decide +kernel
theorem d94_50 : decode (mB 94) 50 = .ok (.getfield 88, 3) := by decide +kernel
theorem d94_53 : decode (mB 94) 53 = .ok (.lastore, 1) := by decide +kernel
theorem d94_54 : decode (mB 94) 54 = .ok (.aload_n 0, 1) := by decide +kernel
theorem d94_55 : decode (mB 94) 55 = .ok (.aload_n 1, 1) := by decide +kernel
theorem d94_56 : decode (mB 94) 56 = .ok (.iconst 1, 1) := by decide +kernel
theorem d94_57 : decode (mB 94) 57 = .ok (.aload_n 1, 1) := by decide +kernel
theorem d94_58 : decode (mB 94) 58 = .ok (.getfield 135, 3) := by decide +kernel
theorem d94_61 : decode (mB 94) 61 = .ok (.iconst 1, 1) := by decide +kernel
theorem d94_62 : decode (mB 94) 62 = .ok (.invokestatic 174, 3) := by decide +kernel
theorem d94_65 : decode (mB 94) 65 = .ok (.invokevirtual 155, 3) := by decide +kernel
theorem d94_68 : decode (mB 94) 68 = .ok (.iconst 1, 1) := by decide +kernel
theorem d94_69 : decode (mB 94) 69 = .ok (.ireturn, 1) := by decide +kernel
theorem d94_70 : decode (mB 94) 70 = .ok (.iload_n 2, 1) := by decide +kernel
theorem d94_71 : decode (mB 94) 71 = .ok (.bipush 20, 2) := by decide +kernel
theorem d94_73 : decode (mB 94) 73 = .ok (.if_icmp .ne 39, 3) := by decide +kernel
theorem d94_76 : decode (mB 94) 76 = .ok (.aload_n 1, 1) := by decide +kernel
theorem d94_77 : decode (mB 94) 77 = .ok (.getfield 152, 3) := by decide +kernel
theorem d94_80 : decode (mB 94) 80 = .ok (.iconst 1, 1) := by decide +kernel
theorem d94_81 : decode (mB 94) 81 = .ok (.if_icmp .ne 31, 3) := by decide +kernel
theorem d94_84 : decode (mB 94) 84 = .ok (.aload_n 0, 1) := by decide +kernel
theorem d94_85 : decode (mB 94) 85 = .ok (.aload_n 1, 1) := by decide +kernel
theorem d94_86 : decode (mB 94) 86 = .ok (.invokevirtual 159, 3) := by decide +kernel
theorem d94_89 : decode (mB 94) 89 = .ok (.aload_n 1, 1) := by decide +kernel
theorem d94_90 : decode (mB 94) 90 = .ok (.iconst 1, 1) := by decide +kernel
theorem d94_91 : decode (mB 94) 91 = .ok (.putfield 94, 3) := by decide +kernel
theorem d94_94 : decode (mB 94) 94 = .ok (.aload_n 1, 1) := by decide +kernel
theorem d94_95 : decode (mB 94) 95 = .ok (.aload_n 0, 1) := by decide +kernel
theorem d94_96 : decode (mB 94) 96 = .ok (.getfield 88, 3) := by decide +kernel
theorem d94_99 : decode (mB 94) 99 = .ok (.putfield 162, 3) := by decide +kernel
theorem d94_102 : decode (mB 94) 102 = .ok (.aload_n 1, 1) := by decide +kernel
theorem d94_103 : decode (mB 94) 103 = .ok (.aload_n 0, 1) := by decide +kernel
theorem d94_104 : decode (mB 94) 104 = .ok (.getfield 168, 3) := by decide +kernel
theorem d94_107 : decode (mB 94) 107 = .ok (.putfield 165, 3) := by decide +kernel
theorem d94_110 : decode (mB 94) 110 = .ok (.iconst 1, 1) := by decide +kernel
theorem d94_111 : decode (mB 94) 111 = .ok (.ireturn, 1) := by decide +kernel
theorem d94_112 : decode (mB 94) 112 = .ok (.iload_n 2, 1) := by decide +kernel
theorem d94_113 : decode (mB 94) 113 = .ok (.bipush 23, 2) := by decide +kernel
theorem d94_115 : decode (mB 94) 115 = .ok (.if_icmp .ne 37, 3) := by decide +kernel
theorem d94_118 : decode (mB 94) 118 = .ok (.aload_n 1, 1) := by decide +kernel
theorem d94_119 : decode (mB 94) 119 = .ok (.getfield 152, 3) := by decide +kernel
theorem d94_122 : decode (mB 94) 122 = .ok (.ifCond .ne 30, 3) := by decide +kernel
theorem d94_125 : decode (mB 94) 125 = .ok (.aload_n 0, 1) := by decide +kernel
theorem d94_126 : decode (mB 94) 126 = .ok (.getfield 168, 3) := by decide +kernel
theorem d94_129 : decode (mB 94) 129 = .ok (.aload_n 0, 1) := by decide +kernel
theorem d94_130 : decode (mB 94) 130 = .ok (.getfield 63, 3) := by decide +kernel
theorem d94_133 : decode (mB 94) 133 = .ok (.if_icmp .ne 19, 3) := by decide +kernel
theorem d94_136 : decode (mB 94) 136 = .ok (.aload_n 0, 1) := by decide +kernel
theorem d94_137 : decode (mB 94) 137 = .ok (.invokevirtual 171, 3) := by decide +kernel
theorem d94_140 : decode (mB 94) 140 = .ok (.aload_n 0, 1) := by decide +kernel
theorem d94_141 : decode (mB 94) 141 = .ok (.iconst 1, 1) := by decide +kernel
theorem d94_142 : decode (mB 94) 142 = .ok (.aload_n 0, 1) := by decide +kernel
theorem d94_143 : decode (mB 94) 143 = .ok (.getfield 60, 3) := by decide +kernel
theorem d94_146 : decode (mB 94) 146 = .ok (.invokevirtual 189, 3) := by decide +kernel
theorem d94_149 : decode (mB 94) 149 = .ok (.pop, 1) := by decide +kernel
theorem d94_150 : decode (mB 94) 150 = .ok (.iconst 1, 1) := by decide +kernel
theorem d94_151 : decode (mB 94) 151 = .ok (.ireturn, 1) := by decide +kernel
theorem d94_152 : decode (mB 94) 152 = .ok (.iconst 0, 1) := by decide +kernel
theorem d94_153 : decode (mB 94) 153 = .ok (.ireturn, 1) := by decide +kernel
theorem d113_0 : decode (mB 113) 0 = .ok (.aload_n 0, 1) := by decide +kernel
theorem d113_1 : decode (mB 113) 1 = .ok (.aload_n 1, 1) := by decide +kernel
theorem d113_2 : decode (mB 113) 2 = .ok (.getfield 28, 3) := by decide +kernel
theorem d113_5 : decode (mB 113) 5 = .ok (.putfield 28, 3) := by decide +kernel
theorem d113_8 : decode (mB 113) 8 = .ok (.aload_n 0, 1) := by decide +kernel
theorem d113_9 : decode (mB 113) 9 = .ok (.aload_n 1, 1) := by decide +kernel
theorem d113_10 : decode (mB 113) 10 = .ok (.getfield 36, 3) := by decide +kernel
theorem d113_13 : decode (mB 113) 13 = .ok (.putfield 36, 3) := by decide +kernel
theorem d113_16 : decode (mB 113) 16 = .ok (.aload_n 0, 1) := by decide +kernel
theorem d113_17 : decode (mB 113) 17 = .ok (.aload_n 1, 1) := by decide +kernel
theorem d113_18 : decode (mB 113) 18 = .ok (.getfield 44, 3) := by decide +kernel
theorem d113_21 : decode (mB 113) 21 = .ok (.putfield 44, 3) := by decide +kernel
theorem d113_24 : decode (mB 113) 24 = .ok (.aload_n 0, 1) := by decide +kernel
theorem d113_25 : decode (mB 113) 25 = .ok (.aload_n 1, 1) := by decide +kernel
theorem d113_26 : decode (mB 113) 26 = .ok (.getfield 60, 3) := by decide +kernel
theorem d113_29 : decode (mB 113) 29 = .ok (.putfield 60, 3) := by decide +kernel
theorem d113_32 : decode (mB 113) 32 = .ok (.aload_n 0, 1) := by decide +kernel
theorem d113_33 : decode (mB 113) 33 = .ok (.aload_n 1, 1) := by decide +kernel
theorem d113_34 : decode (mB 113) 34 = .ok (.getfield 63, 3) := by decide +kernel
theorem d113_37 : decode (mB 113) 37 = .ok (.putfield 63, 3) := by decide +kernel
theorem d113_40 : decode (mB 113) 40 = .ok (.aload_n 0, 1) := by decide +kernel
theorem d113_41 : decode (mB 113) 41 = .ok (.aload_n 1, 1) := by decide +kernel
theorem d113_42 : decode (mB 113) 42 = .ok (.getfield 66, 3) := by decide +kernel
theorem d113_45 : decode (mB 113) 45 = .ok (.putfield 66, 3) := by decide +kernel
theorem d113_48 : decode (mB 113) 48 = .ok (.aload_n 0, 1) := by decide +kernel
theorem d113_49 : decode (mB 113) 49 = .ok (.aload_n 1, 1) := by decide +kernel
theorem d113_50 : decode (mB 113) 50 = .ok (.getfield 40, 3) := by decide +kernel
theorem d113_53 : decode (mB 113) 53 = .ok (.putfield 40, 3) := by decide +kernel
theorem d113_56 : decode (mB 113) 56 = .ok (.aload_n 0, 1) := by decide +kernel
theorem d113_57 : decode (mB 113) 57 = .ok (.getfield 12, 3) := by decide +kernel
theorem d113_60 : decode (mB 113) 60 = .ok (.aload_n 1, 1) := by decide +kernel
theorem d113_61 : decode (mB 113) 61 = .ok (.getfield 12, 3) := by decide +kernel
theorem d113_64 : decode (mB 113) 64 = .ok (.invokevirtual 192, 3) := by decide +kernel
theorem d113_67 : decode (mB 113) 67 = .ok (.iconst 0, 1) := by decide +kernel
theorem d113_68 : decode (mB 113) 68 = .ok (.istore_n 2, 1) := by decide +kernel
theorem d113_69 : decode (mB 113) 69 = .ok (.iload_n 2, 1) := by decide +kernel
theorem d113_70 : decode (mB 113) 70 = .ok (.aload_n 0, 1) := by decide +kernel
theorem d113_71 : decode (mB 113) 71 = .ok (.getfield 63, 3) := by decide +kernel
theorem d113_74 : decode (mB 113) 74 = .ok (.if_icmp .gt 24, 3) := by decide +kernel
theorem d113_77 : decode (mB 113) 77 = .ok (.aload_n 0, 1) := by decide +kernel
theorem d113_78 : decode (mB 113) 78 = .ok (.getfield 24, 3) := by decide +kernel
theorem d113_81 : decode (mB 113) 81 = .ok (.iload_n 2, 1) := by decide +kernel
theorem d113_82 : decode (mB 113) 82 = .ok (.aaload, 1) := by decide +kernel
theorem d113_83 : decode (mB 113) 83 = .ok (.aload_n 1, 1) := by decide +kernel
theorem d113_84 : decode (mB 113) 84 = .ok (.getfield 24, 3) := by decide +kernel
theorem d113_87 : decode (mB 113) 87 = .ok (.iload_n 2, 1) := by decide +kernel
theorem d113_88 : decode (mB 113) 88 = .ok (.aaload, 1) := by decide +kernel
theorem d113_89 : decode (mB 113) 89 = .ok (.invokevirtual 196, 3) := by decide +kernel
theorem d113_92 : decode (mB 113) 92 = .ok (.iinc 2 1, 3) := by decide +kernel
theorem d113_95 : decode (mB 113) 95 = .ok (.goto (-26), 3) := by decide +kernel
theorem d113_98 : decode (mB 113) 98 = .ok (.return_, 1) := by decide +kernel
theorem d2_0 : decode (mB 2) 0 = .ok (.aload_n 0, 1) := by decide +kernel
theorem d2_1 : decode (mB 2) 1 = .ok (.invokespecial 3, 3) := by decide +kernel
theorem d2_4 : decode (mB 2) 4 = .ok (.aload_n 0, 1) := by decide +kernel
theorem d2_5 : decode (mB 2) 5 = .ok (.new 9, 3) := by decide +kernel
theorem d2_8 : decode (mB 2) 8 = .ok (.dup, 1) := by decide +kernel
theorem d2_9 : decode (mB 2) 9 = .ok (.invokespecial 11, 3) := by decide +kernel
theorem d2_12 : decode (mB 2) 12 = .ok (.putfield 12, 3) := by decide +kernel
theorem d2_15 : decode (mB 2) 15 = .ok (.return_, 1) := by decide +kernel
theorem d14_0 : decode (mB 14) 0 = .ok (.aload_n 0, 1) := by decide +kernel
theorem d14_1 : decode (mB 14) 1 = .ok (.getfield 12, 3) := by decide +kernel
theorem d14_4 : decode (mB 14) 4 = .ok (.aload_n 1, 1) := by decide +kernel
theorem d14_5 : decode (mB 14) 5 = .ok (.iload_n 2, 1) := by decide +kernel
theorem d14_6 : decode (mB 14) 6 = .ok (.invokevirtual 18, 3) := by decide +kernel
theorem d14_9 : decode (mB 14) 9 = .ok (.aload_n 3, 1) := by decide +kernel
theorem d14_10 : decode (mB 14) 10 = .ok (.invokevirtual 22, 3) := by decide +kernel
theorem d14_13 : decode (mB 14) 13 = .ok (.aload_n 0, 1) := by decide +kernel
theorem d14_14 : decode (mB 14) 14 = .ok (.aload_n 3, 1) := by decide +kernel
theorem d14_15 : decode (mB 14) 15 = .ok (.putfield 27, 3) := by decide +kernel
theorem d14_18 : decode (mB 14) 18 = .ok (.aload_n 0, 1) := by decide +kernel
theorem d14_19 : decode (mB 14) 19 = .ok (.iconst 0, 1) := by decide +kernel
theorem d14_20 : decode (mB 14) 20 = .ok (.putfield 31, 3) := by decide +kernel
theorem d14_23 : decode (mB 14) 23 = .ok (.aload_n 0, 1) := by decide +kernel
theorem d14_24 : decode (mB 14) 24 = .ok (.bipush 120, 2) := by decide +kernel
theorem d14_26 : decode (mB 14) 26 = .ok (.iconst 0, 1) := by decide +kernel
theorem d14_27 : decode (mB 14) 27 = .ok (.iconst 0, 1) := by decide +kernel
theorem d14_28 : decode (mB 14) 28 = .ok (.invokevirtual 35, 3) := by decide +kernel
theorem d14_31 : decode (mB 14) 31 = .ok (.istore 4, 2) := by decide +kernel
theorem d14_33 : decode (mB 14) 33 = .ok (.iload 4, 2) := by decide +kernel
theorem d14_35 : decode (mB 14) 35 = .ok (.ifCond .eq 7, 3) := by decide +kernel
theorem d14_38 : decode (mB 14) 38 = .ok (.iconst (-1), 1) := by decide +kernel
theorem d14_39 : decode (mB 14) 39 = .ok (.goto 15, 3) := by decide +kernel
theorem d14_42 : decode (mB 14) 42 = .ok (.aload_n 0, 1) := by decide +kernel
theorem d14_43 : decode (mB 14) 43 = .ok (.getfield 12, 3) := by decide +kernel
theorem d14_46 : decode (mB 14) 46 = .ok (.getfield 39, 3) := by decide +kernel
theorem d14_49 : decode (mB 14) 49 = .ok (.aload_n 0, 1) := by decide +kernel
theorem d14_50 : decode (mB 14) 50 = .ok (.getfield 31, 3) := by decide +kernel
theorem d14_53 : decode (mB 14) 53 = .ok (.iaload, 1) := by decide +kernel
theorem d14_54 : decode (mB 14) 54 = .ok (.ireturn, 1) := by decide +kernel
theorem d36_0 : decode (mB 36) 0 = .ok (.aload_n 0, 1) := by decide +kernel
theorem d36_1 : decode (mB 36) 1 = .ok (.getfield 27, 3) := by decide +kernel
theorem d36_4 : decode (mB 36) 4 = .ok (.getfield 43, 3) := by decide +kernel
theorem d36_7 : decode (mB 36) 7 = .ok (.iload_n 1, 1) := by decide +kernel
theorem d36_8 : decode (mB 36) 8 = .ok (.iconst (-1), 1) := by decide +kernel
theorem d36_9 : decode (mB 36) 9 = .ok (.iastore, 1) := by decide +kernel
theorem d36_10 : decode (mB 36) 10 = .ok (.iconst (-1), 1) := by decide +kernel
theorem d36_11 : decode (mB 36) 11 = .ok (.istore 4, 2) := by decide +kernel
theorem d36_13 : decode (mB 36) 13 = .ok (.iconst 0, 1) := by decide +kernel
theorem d36_14 : decode (mB 36) 14 = .ok (.istore 5, 2) := by decide +kernel
theorem d36_16 : decode (mB 36) 16 = .ok (.iload 5, 2) := by decide +kernel
theorem d36_18 : decode (mB 36) 18 = .ok (.bipush 40, 2) := by decide +kernel
theorem d36_20 : decode (mB 36) 20 = .ok (.if_icmp .gt 80, 3) := by decide +kernel
theorem d36_23 : decode (mB 36) 23 = .ok (.aload_n 0, 1) := by decide +kernel
theorem d36_24 : decode (mB 36) 24 = .ok (.getfield 12, 3) := by decide +kernel
theorem d36_27 : decode (mB 36) 27 = .ok (.getfield 46, 3) := by decide +kernel
theorem d36_30 : decode (mB 36) 30 = .ok (.aload_n 0, 1) := by decide +kernel
theorem d36_31 : decode (mB 36) 31 = .ok (.getfield 31, 3) := by decide +kernel
theorem d36_34 : decode (mB 36) 34 = .ok (.iaload, 1) := by decide +kernel
theorem d36_35 : decode (mB 36) 35 = .ok (.iload_n 3, 1) := by decide +kernel
theorem d36_36 : decode (mB 36) 36 = .ok (.if_icmp .eq 64, 3) := by decide +kernel
theorem d36_39 : decode (mB 36) 39 = .ok (.aload_n 0, 1) := by decide +kernel
theorem d36_40 : decode (mB 36) 40 = .ok (.getfield 27, 3) := by decide +kernel
theorem d36_43 : decode (mB 36) 43 = .ok (.getfield 49, 3) := by decide +kernel
theorem d36_46 : decode (mB 36) 46 = .ok (.istore 6, 2) := by decide +kernel
theorem d36_48 : decode (mB 36) 48 = .ok (.aload_n 0, 1) := by decide +kernel
theorem d36_49 : decode (mB 36) 49 = .ok (.iload_n 2, 1) := by decide +kernel
theorem d36_50 : decode (mB 36) 50 = .ok (.invokevirtual 52, 3) := by decide +kernel
theorem d36_53 : decode (mB 36) 53 = .ok (.ifCond .ne 5, 3) := by decide +kernel
theorem d36_56 : decode (mB 36) 56 = .ok (.iconst 0, 1) := by decide +kernel
theorem d36_57 : decode (mB 36) 57 = .ok (.ireturn, 1) := by decide +kernel
theorem d36_58 : decode (mB 36) 58 = .ok (.iload 4, 2) := by decide +kernel
theorem d36_60 : decode (mB 36) 60 = .ok (.iconst (-1), 1) := by decide +kernel
theorem d36_61 : decode (mB 36) 61 = .ok (.if_icmp .ne 17, 3) := by decide +kernel
theorem d36_64 : decode (mB 36) 64 = .ok (.aload_n 0, 1) := by decide +kernel
theorem d36_65 : decode (mB 36) 65 = .ok (.getfield 27, 3) := by decide +kernel
theorem d36_68 : decode (mB 36) 68 = .ok (.getfield 43, 3) := by decide +kernel
theorem d36_71 : decode (mB 36) 71 = .ok (.iload_n 1, 1) := by decide +kernel
theorem d36_72 : decode (mB 36) 72 = .ok (.iload 6, 2) := by decide +kernel
theorem d36_74 : decode (mB 36) 74 = .ok (.iastore, 1) := by decide +kernel
theorem d36_75 : decode (mB 36) 75 = .ok (.goto 15, 3) := by decide +kernel
theorem d36_78 : decode (mB 36) 78 = .ok (.aload_n 0, 1) := by decide +kernel
theorem d36_79 : decode (mB 36) 79 = .ok (.getfield 27, 3) := by decide +kernel
theorem d36_82 : decode (mB 36) 82 = .ok (.getfield 56, 3) := by decide +kernel
theorem d36_85 : decode (mB 36) 85 = .ok (.iload 4, 2) := by decide +kernel
theorem d36_87 : decode (mB 36) 87 = .ok (.iload 6, 2) := by decide +kernel
theorem d36_89 : decode (mB 36) 89 = .ok (.iastore, 1) := by decide +kernel
theorem d36_90 : decode (mB 36) 90 = .ok (.iload 6, 2) := by decide +kernel
theorem d36_92 : decode (mB 36) 92 = .ok (.istore 4, 2) := by decide +kernel
theorem d36_94 : decode (mB 36) 94 = .ok (.iinc 5 1, 3) := by decide +kernel
theorem d36_97 : decode (mB 36) 97 = .ok (.goto (-81), 3) := by decide +kernel
theorem d36_100 : decode (mB 36) 100 = .ok (.iconst 1, 1) := by decide +kernel
theorem d36_101 : decode (mB 36) 101 = .ok (.ireturn, 1) := by decide +kernel
theorem d37_0 : decode (mB 37) 0 = .ok (.aload_n 0, 1) := by decide +kernel
theorem d37_1 : decode (mB 37) 1 = .ok (.getfield 12, 3) := by decide +kernel
theorem d37_4 : decode (mB 37) 4 = .ok (.getfield 46, 3) := by decide +kernel
theorem d37_7 : decode (mB 37) 7 = .ok (.aload_n 0, 1) := by decide +kernel
theorem d37_8 : decode (mB 37) 8 = .ok (.getfield 31, 3) := by decide +kernel
theorem d37_11 : decode (mB 37) 11 = .ok (.iaload, 1) := by decide +kernel
theorem d37_12 : decode (mB 37) 12 = .ok (.istore_n 2, 1) := by decide +kernel
theorem d37_13 : decode (mB 37) 13 = .ok (.aload_n 0, 1) := by decide +kernel
theorem d37_14 : decode (mB 37) 14 = .ok (.getfield 27, 3) := by decide +kernel
theorem d37_17 : decode (mB 37) 17 = .ok (.getfield 49, 3) := by decide +kernel
theorem d37_20 : decode (mB 37) 20 = .ok (.bipush 40, 2) := by decide +kernel
theorem d37_22 : decode (mB 37) 22 = .ok (.if_icmp .ge 10, 3) := by decide +kernel
theorem d37_25 : decode (mB 37) 25 = .ok (.iload_n 2, 1) := by decide +kernel
theorem d37_26 : decode (mB 37) 26 = .ok (.invokestatic 59, 3) := by decide +kernel
theorem d37_29 : decode (mB 37) 29 = .ok (.ifCond .ne 5, 3) := by decide +kernel
theorem d37_32 : decode (mB 37) 32 = .ok (.iconst 0, 1) := by decide +kernel
theorem d37_33 : decode (mB 37) 33 = .ok (.ireturn, 1) := by decide +kernel
theorem d37_34 : decode (mB 37) 34 = .ok (.aload_n 0, 1) := by decide +kernel
theorem d37_35 : decode (mB 37) 35 = .ok (.getfield 27, 3) := by decide +kernel
theorem d37_38 : decode (mB 37) 38 = .ok (.iload_n 2, 1) := by decide +kernel
theorem d37_39 : decode (mB 37) 39 = .ok (.invokevirtual 62, 3) := by decide +kernel
theorem d37_42 : decode (mB 37) 42 = .ok (.istore_n 3, 1) := by decide +kernel
theorem d37_43 : decode (mB 37) 43 = .ok (.iload_n 2, 1) := by decide +kernel
theorem d37_44 : decode (mB 37) 44 = .ok (.iconst 2, 1) := by decide +kernel
theorem d37_45 : decode (mB 37) 45 = .ok (.if_icmp .ne 43, 3) := by decide +kernel
theorem d37_48 : decode (mB 37) 48 = .ok (.aload_n 0, 1) := by decide +kernel
theorem d37_49 : decode (mB 37) 49 = .ok (.iload_n 3, 1) := by decide +kernel
theorem d37_50 : decode (mB 37) 50 = .ok (.invokevirtual 66, 3) := by decide +kernel
theorem d37_53 : decode (mB 37) 53 = .ok (.ifCond .eq 33, 3) := by decide +kernel
theorem d37_56 : decode (mB 37) 56 = .ok (.aload_n 0, 1) := by decide +kernel
theorem d37_57 : decode (mB 37) 57 = .ok (.bipush 61, 2) := by decide +kernel
theorem d37_59 : decode (mB 37) 59 = .ok (.invokevirtual 69, 3) := by decide +kernel
theorem d37_62 : decode (mB 37) 62 = .ok (.ifCond .eq 24, 3) := by decide +kernel
theorem d37_65 : decode (mB 37) 65 = .ok (.aload_n 0, 1) := by decide +kernel
theorem d37_66 : decode (mB 37) 66 = .ok (.iload_n 3, 1) := by decide +kernel
theorem d37_67 : decode (mB 37) 67 = .ok (.invokevirtual 72, 3) := by decide +kernel
theorem d37_70 : decode (mB 37) 70 = .ok (.ifCond .eq 16, 3) := by decide +kernel
theorem d37_73 : decode (mB 37) 73 = .ok (.aload_n 0, 1) := by decide +kernel
theorem d37_74 : decode (mB 37) 74 = .ok (.bipush 59, 2) := by decide +kernel
theorem d37_76 : decode (mB 37) 76 = .ok (.invokevirtual 69, 3) := by decide +kernel
theorem d37_79 : decode (mB 37) 79 = .ok (.ifCond .eq 7, 3) := by decide +kernel
theorem d37_82 : decode (mB 37) 82 = .ok (.iconst 1, 1) := by decide +kernel
theorem d37_83 : decode (mB 37) 83 = .ok (.goto 4, 3) := by decide +kernel
theorem d37_86 : decode (mB 37) 86 = .ok (.iconst 0, 1) := by decide +kernel
theorem d37_87 : decode (mB 37) 87 = .ok (.ireturn, 1) := by decide +kernel
theorem d37_88 : decode (mB 37) 88 = .ok (.aload_n 0, 1) := by decide +kernel
theorem d37_89 : decode (mB 37) 89 = .ok (.dup, 1) := by decide +kernel
theorem d37_90 : decode (mB 37) 90 = .ok (.getfield 31, 3) := by decide +kernel
theorem d37_93 : decode (mB 37) 93 = .ok (.iconst 1, 1) := by decide +kernel
theorem d37_94 : decode (mB 37) 94 = .ok (.iadd, 1) := by decide +kernel
theorem d37_95 : decode (mB 37) 95 = .ok (.putfield 31, 3) := by decide +kernel
theorem d37_98 : decode (mB 37) 98 = .ok (.iload_n 2, 1) := by decide +kernel
theorem d37_99 : decode (mB 37) 99 = .ok (.tableswitch 431 5 23 #[89, 112, 431, 145, 169, 431, 212, 431, 89, 255, 431, 431, 431, 298, 431, 341, 431, 431, 395], 89) := by decide +kernel
theorem d37_188 : decode (mB 37) 188 = .ok (.aload_n 0, 1) := by decide +kernel
theorem d37_189 : decode (mB 37) 189 = .ok (.iload_n 3, 1) := by decide +kernel
theorem d37_190 : decode (mB 37) 190 = .ok (.invokevirtual 72, 3) := by decide +kernel
theorem d37_193 : decode (mB 37) 193 = .ok (.ifCond .eq 16, 3) := by decide +kernel
theorem d37_196 : decode (mB 37) 196 = .ok (.aload_n 0, 1) := by decide +kernel
theorem d37_197 : decode (mB 37) 197 = .ok (.bipush 59, 2) := by decide +kernel
theorem d37_199 : decode (mB 37) 199 = .ok (.invokevirtual 69, 3) := by decide +kernel
theorem d37_202 : decode (mB 37) 202 = .ok (.ifCond .eq 7, 3) := by decide +kernel
theorem d37_205 : decode (mB 37) 205 = .ok (.iconst 1, 1) := by decide +kernel
theorem d37_206 : decode (mB 37) 206 = .ok (.goto 4, 3) := by decide +kernel
theorem d37_209 : decode (mB 37) 209 = .ok (.iconst 0, 1) := by decide +kernel
theorem d37_210 : decode (mB 37) 210 = .ok (.ireturn, 1) := by decide +kernel
theorem d37_211 : decode (mB 37) 211 = .ok (.aload_n 0, 1) := by decide +kernel
theorem d37_212 : decode (mB 37) 212 = .ok (.iload_n 3, 1) := by decide +kernel
theorem d37_213 : decode (mB 37) 213 = .ok (.invokevirtual 75, 3) := by decide +kernel
theorem d37_216 : decode (mB 37) 216 = .ok (.ifCond .eq 26, 3) := by decide +kernel
theorem d37_219 : decode (mB 37) 219 = .ok (.aload_n 0, 1) := by decide +kernel
theorem d37_220 : decode (mB 37) 220 = .ok (.iload_n 3, 1) := by decide +kernel
theorem d37_221 : decode (mB 37) 221 = .ok (.iconst 0, 1) := by decide +kernel
theorem d37_222 : decode (mB 37) 222 = .ok (.iload_n 1, 1) := by decide +kernel
theorem d37_223 : decode (mB 37) 223 = .ok (.invokevirtual 78, 3) := by decide +kernel
theorem d37_226 : decode (mB 37) 226 = .ok (.ifCond .eq 16, 3) := by decide +kernel
theorem d37_229 : decode (mB 37) 229 = .ok (.aload_n 0, 1) := by decide +kernel
theorem d37_230 : decode (mB 37) 230 = .ok (.iload_n 3, 1) := by decide +kernel
theorem d37_231 : decode (mB 37) 231 = .ok (.iload_n 1, 1) := by decide +kernel
theorem d37_232 : decode (mB 37) 232 = .ok (.invokevirtual 81, 3) := by decide +kernel
theorem d37_235 : decode (mB 37) 235 = .ok (.ifCond .eq 7, 3) := by decide +kernel
theorem d37_238 : decode (mB 37) 238 = .ok (.iconst 1, 1) := by decide +kernel
theorem d37_239 : decode (mB 37) 239 = .ok (.goto 4, 3) := by decide +kernel
theorem d37_242 : decode (mB 37) 242 = .ok (.iconst 0, 1) := by decide +kernel
theorem d37_243 : decode (mB 37) 243 = .ok (.ireturn, 1) := by decide +kernel
theorem d37_244 : decode (mB 37) 244 = .ok (.aload_n 0, 1) := by decide +kernel
theorem d37_245 : decode (mB 37) 245 = .ok (.iload_n 3, 1) := by decide +kernel
theorem d37_246 : decode (mB 37) 246 = .ok (.invokevirtual 75, 3) := by decide +kernel
theorem d37_249 : decode (mB 37) 249 = .ok (.ifCond .eq 17, 3) := by decide +kernel
theorem d37_252 : decode (mB 37) 252 = .ok (.aload_n 0, 1) := by decide +kernel
theorem d37_253 : decode (mB 37) 253 = .ok (.iload_n 3, 1) := by decide +kernel
theorem d37_254 : decode (mB 37) 254 = .ok (.iconst 0, 1) := by decide +kernel
theorem d37_255 : decode (mB 37) 255 = .ok (.iload_n 1, 1) := by decide +kernel
theorem d37_256 : decode (mB 37) 256 = .ok (.invokevirtual 78, 3) := by decide +kernel
theorem d37_259 : decode (mB 37) 259 = .ok (.ifCond .eq 7, 3) := by decide +kernel
theorem d37_262 : decode (mB 37) 262 = .ok (.iconst 1, 1) := by decide +kernel
theorem d37_263 : decode (mB 37) 263 = .ok (.goto 4, 3) := by decide +kernel
theorem d37_266 : decode (mB 37) 266 = .ok (.iconst 0, 1) := by decide +kernel
theorem d37_267 : decode (mB 37) 267 = .ok (.ireturn, 1) := by decide +kernel
theorem d37_268 : decode (mB 37) 268 = .ok (.aload_n 0, 1) := by decide +kernel
theorem d37_269 : decode (mB 37) 269 = .ok (.iload_n 3, 1) := by decide +kernel
theorem d37_270 : decode (mB 37) 270 = .ok (.iconst 3, 1) := by decide +kernel
theorem d37_271 : decode (mB 37) 271 = .ok (.bipush 8, 2) := by decide +kernel
theorem d37_273 : decode (mB 37) 273 = .ok (.invokevirtual 85, 3) := by decide +kernel
theorem d37_276 : decode (mB 37) 276 = .ok (.ifCond .eq 33, 3) := by decide +kernel
theorem d37_279 : decode (mB 37) 279 = .ok (.aload_n 0, 1) := by decide +kernel
theorem d37_280 : decode (mB 37) 280 = .ok (.bipush 10, 2) := by decide +kernel
theorem d37_282 : decode (mB 37) 282 = .ok (.invokevirtual 69, 3) := by decide +kernel
theorem d37_285 : decode (mB 37) 285 = .ok (.ifCond .eq 24, 3) := by decide +kernel
theorem d37_288 : decode (mB 37) 288 = .ok (.aload_n 0, 1) := by decide +kernel
theorem d37_289 : decode (mB 37) 289 = .ok (.iload_n 3, 1) := by decide +kernel
theorem d37_290 : decode (mB 37) 290 = .ok (.invokevirtual 66, 3) := by decide +kernel
theorem d37_293 : decode (mB 37) 293 = .ok (.ifCond .eq 16, 3) := by decide +kernel
theorem d37_296 : decode (mB 37) 296 = .ok (.aload_n 0, 1) := by decide +kernel
theorem d37_297 : decode (mB 37) 297 = .ok (.bipush 59, 2) := by decide +kernel
theorem d37_299 : decode (mB 37) 299 = .ok (.invokevirtual 69, 3) := by decide +kernel
theorem d37_302 : decode (mB 37) 302 = .ok (.ifCond .eq 7, 3) := by decide +kernel
theorem d37_305 : decode (mB 37) 305 = .ok (.iconst 1, 1) := by decide +kernel
theorem d37_306 : decode (mB 37) 306 = .ok (.goto 4, 3) := by decide +kernel
theorem d37_309 : decode (mB 37) 309 = .ok (.iconst 0, 1) := by decide +kernel
theorem d37_310 : decode (mB 37) 310 = .ok (.ireturn, 1) := by decide +kernel
theorem d37_311 : decode (mB 37) 311 = .ok (.aload_n 0, 1) := by decide +kernel
theorem d37_312 : decode (mB 37) 312 = .ok (.iload_n 3, 1) := by decide +kernel
theorem d37_313 : decode (mB 37) 313 = .ok (.invokevirtual 72, 3) := by decide +kernel
theorem d37_316 : decode (mB 37) 316 = .ok (.ifCond .eq 36, 3) := by decide +kernel
theorem d37_319 : decode (mB 37) 319 = .ok (.aload_n 0, 1) := by decide +kernel
theorem d37_320 : decode (mB 37) 320 = .ok (.bipush 12, 2) := by decide +kernel
theorem d37_322 : decode (mB 37) 322 = .ok (.invokevirtual 69, 3) := by decide +kernel
theorem d37_325 : decode (mB 37) 325 = .ok (.ifCond .eq 27, 3) := by decide +kernel
theorem d37_328 : decode (mB 37) 328 = .ok (.aload_n 0, 1) := by decide +kernel
theorem d37_329 : decode (mB 37) 329 = .ok (.iload_n 3, 1) := by decide +kernel
theorem d37_330 : decode (mB 37) 330 = .ok (.iconst 3, 1) := by decide +kernel
theorem d37_331 : decode (mB 37) 331 = .ok (.bipush 8, 2) := by decide +kernel
theorem d37_333 : decode (mB 37) 333 = .ok (.invokevirtual 85, 3) := by decide +kernel
theorem d37_336 : decode (mB 37) 336 = .ok (.ifCond .eq 16, 3) := by decide +kernel
theorem d37_339 : decode (mB 37) 339 = .ok (.aload_n 0, 1) := by decide +kernel
theorem d37_340 : decode (mB 37) 340 = .ok (.bipush 59, 2) := by decide +kernel
theorem d37_342 : decode (mB 37) 342 = .ok (.invokevirtual 69, 3) := by decide +kernel
theorem d37_345 : decode (mB 37) 345 = .ok (.ifCond .eq 7, 3) := by decide +kernel
theorem d37_348 : decode (mB 37) 348 = .ok (.iconst 1, 1) := by decide +kernel
theorem d37_349 : decode (mB 37) 349 = .ok (.goto 4, 3) := by decide +kernel
theorem d37_352 : decode (mB 37) 352 = .ok (.iconst 0, 1) := by decide +kernel
theorem d37_353 : decode (mB 37) 353 = .ok (.ireturn, 1) := by decide +kernel
theorem d37_354 : decode (mB 37) 354 = .ok (.aload_n 0, 1) := by decide +kernel
theorem d37_355 : decode (mB 37) 355 = .ok (.iload_n 3, 1) := by decide +kernel
theorem d37_356 : decode (mB 37) 356 = .ok (.invokevirtual 72, 3) := by decide +kernel
theorem d37_359 : decode (mB 37) 359 = .ok (.ifCond .eq 36, 3) := by decide +kernel
theorem d37_362 : decode (mB 37) 362 = .ok (.aload_n 0, 1) := by decide +kernel
theorem d37_363 : decode (mB 37) 363 = .ok (.bipush 10, 2) := by decide +kernel
theorem d37_365 : decode (mB 37) 365 = .ok (.invokevirtual 69, 3) := by decide +kernel
theorem d37_368 : decode (mB 37) 368 = .ok (.ifCond .eq 27, 3) := by decide +kernel
theorem d37_371 : decode (mB 37) 371 = .ok (.aload_n 0, 1) := by decide +kernel
theorem d37_372 : decode (mB 37) 372 = .ok (.iload_n 3, 1) := by decide +kernel
theorem d37_373 : decode (mB 37) 373 = .ok (.iconst 4, 1) := by decide +kernel
theorem d37_374 : decode (mB 37) 374 = .ok (.bipush 6, 2) := by decide +kernel
theorem d37_376 : decode (mB 37) 376 = .ok (.invokevirtual 85, 3) := by decide +kernel
theorem d37_379 : decode (mB 37) 379 = .ok (.ifCond .eq 16, 3) := by decide +kernel
theorem d37_382 : decode (mB 37) 382 = .ok (.aload_n 0, 1) := by decide +kernel
theorem d37_383 : decode (mB 37) 383 = .ok (.bipush 59, 2) := by decide +kernel
theorem d37_385 : decode (mB 37) 385 = .ok (.invokevirtual 69, 3) := by decide +kernel
theorem d37_388 : decode (mB 37) 388 = .ok (.ifCond .eq 7, 3) := by decide +kernel
theorem d37_391 : decode (mB 37) 391 = .ok (.iconst 1, 1) := by decide +kernel
theorem d37_392 : decode (mB 37) 392 = .ok (.goto 4, 3) := by decide +kernel
theorem d37_395 : decode (mB 37) 395 = .ok (.iconst 0, 1) := by decide +kernel
theorem d37_396 : decode (mB 37) 396 = .ok (.ireturn, 1) := by decide +kernel
theorem d37_397 : decode (mB 37) 397 = .ok (.aload_n 0, 1) := by decide +kernel
theorem d37_398 : decode (mB 37) 398 = .ok (.iload_n 3, 1) := by decide +kernel
theorem d37_399 : decode (mB 37) 399 = .ok (.iconst 0, 1) := by decide +kernel
theorem d37_400 : decode (mB 37) 400 = .ok (.iload_n 1, 1) := by decide +kernel
theorem d37_401 : decode (mB 37) 401 = .ok (.invokevirtual 78, 3) := by decide +kernel
theorem d37_404 : decode (mB 37) 404 = .ok (.ifCond .eq 34, 3) := by decide +kernel
theorem d37_407 : decode (mB 37) 407 = .ok (.aload_n 0, 1) := by decide +kernel
theorem d37_408 : decode (mB 37) 408 = .ok (.bipush 19, 2) := by decide +kernel
theorem d37_410 : decode (mB 37) 410 = .ok (.invokevirtual 69, 3) := by decide +kernel
theorem d37_413 : decode (mB 37) 413 = .ok (.ifCond .eq 25, 3) := by decide +kernel
theorem d37_416 : decode (mB 37) 416 = .ok (.aload_n 0, 1) := by decide +kernel
theorem d37_417 : decode (mB 37) 417 = .ok (.iload_n 3, 1) := by decide +kernel
theorem d37_418 : decode (mB 37) 418 = .ok (.invokevirtual 66, 3) := by decide +kernel
theorem d37_421 : decode (mB 37) 421 = .ok (.ifCond .eq 17, 3) := by decide +kernel
theorem d37_424 : decode (mB 37) 424 = .ok (.aload_n 0, 1) := by decide +kernel
theorem d37_425 : decode (mB 37) 425 = .ok (.iload_n 3, 1) := by decide +kernel
theorem d37_426 : decode (mB 37) 426 = .ok (.iconst 1, 1) := by decide +kernel
theorem d37_427 : decode (mB 37) 427 = .ok (.iload_n 1, 1) := by decide +kernel
theorem d37_428 : decode (mB 37) 428 = .ok (.invokevirtual 78, 3) := by decide +kernel
theorem d37_431 : decode (mB 37) 431 = .ok (.ifCond .eq 7, 3) := by decide +kernel
theorem d37_434 : decode (mB 37) 434 = .ok (.iconst 1, 1) := by decide +kernel
theorem d37_435 : decode (mB 37) 435 = .ok (.goto 4, 3) := by decide +kernel
theorem d37_438 : decode (mB 37) 438 = .ok (.iconst 0, 1) := by decide +kernel
theorem d37_439 : decode (mB 37) 439 = .ok (.ireturn, 1) := by decide +kernel
theorem d37_440 : decode (mB 37) 440 = .ok (.aload_n 0, 1) := by decide +kernel
theorem d37_441 : decode (mB 37) 441 = .ok (.iload_n 3, 1) := by decide +kernel
theorem d37_442 : decode (mB 37) 442 = .ok (.iconst 0, 1) := by decide +kernel
theorem d37_443 : decode (mB 37) 443 = .ok (.iload_n 1, 1) := by decide +kernel
theorem d37_444 : decode (mB 37) 444 = .ok (.invokevirtual 78, 3) := by decide +kernel
theorem d37_447 : decode (mB 37) 447 = .ok (.ifCond .eq 45, 3) := by decide +kernel
theorem d37_450 : decode (mB 37) 450 = .ok (.aload_n 0, 1) := by decide +kernel
theorem d37_451 : decode (mB 37) 451 = .ok (.bipush 21, 2) := by decide +kernel
theorem d37_453 : decode (mB 37) 453 = .ok (.invokevirtual 69, 3) := by decide +kernel
theorem d37_456 : decode (mB 37) 456 = .ok (.ifCond .eq 36, 3) := by decide +kernel
theorem d37_459 : decode (mB 37) 459 = .ok (.aload_n 0, 1) := by decide +kernel
theorem d37_460 : decode (mB 37) 460 = .ok (.iload_n 3, 1) := by decide +kernel
theorem d37_461 : decode (mB 37) 461 = .ok (.iconst 1, 1) := by decide +kernel
theorem d37_462 : decode (mB 37) 462 = .ok (.iload_n 1, 1) := by decide +kernel
theorem d37_463 : decode (mB 37) 463 = .ok (.invokevirtual 78, 3) := by decide +kernel
theorem d37_466 : decode (mB 37) 466 = .ok (.ifCond .eq 26, 3) := by decide +kernel
theorem d37_469 : decode (mB 37) 469 = .ok (.aload_n 0, 1) := by decide +kernel
theorem d37_470 : decode (mB 37) 470 = .ok (.bipush 22, 2) := by decide +kernel
theorem d37_472 : decode (mB 37) 472 = .ok (.invokevirtual 69, 3) := by decide +kernel
theorem d37_475 : decode (mB 37) 475 = .ok (.ifCond .eq 17, 3) := by decide +kernel
theorem d37_478 : decode (mB 37) 478 = .ok (.aload_n 0, 1) := by decide +kernel
theorem d37_479 : decode (mB 37) 479 = .ok (.iload_n 3, 1) := by decide +kernel
theorem d37_480 : decode (mB 37) 480 = .ok (.iconst 2, 1) := by decide +kernel
theorem d37_481 : decode (mB 37) 481 = .ok (.iload_n 1, 1) := by decide +kernel
theorem d37_482 : decode (mB 37) 482 = .ok (.invokevirtual 78, 3) := by decide +kernel
theorem d37_485 : decode (mB 37) 485 = .ok (.ifCond .eq 7, 3) := by decide +kernel
theorem d37_488 : decode (mB 37) 488 = .ok (.iconst 1, 1) := by decide +kernel
theorem d37_489 : decode (mB 37) 489 = .ok (.goto 4, 3) := by decide +kernel
theorem d37_492 : decode (mB 37) 492 = .ok (.iconst 0, 1) := by decide +kernel
theorem d37_493 : decode (mB 37) 493 = .ok (.ireturn, 1) := by decide +kernel
theorem d37_494 : decode (mB 37) 494 = .ok (.aload_n 0, 1) := by decide +kernel
theorem d37_495 : decode (mB 37) 495 = .ok (.iload_n 3, 1) := by decide +kernel
theorem d37_496 : decode (mB 37) 496 = .ok (.iconst 4, 1) := by decide +kernel
theorem d37_497 : decode (mB 37) 497 = .ok (.ldc 88, 2) := by decide +kernel
theorem d37_499 : decode (mB 37) 499 = .ok (.invokevirtual 85, 3) := by decide +kernel
theorem d37_502 : decode (mB 37) 502 = .ok (.ifCond .eq 26, 3) := by decide +kernel
theorem d37_505 : decode (mB 37) 505 = .ok (.aload_n 0, 1) := by decide +kernel
theorem d37_506 : decode (mB 37) 506 = .ok (.iload_n 3, 1) := by decide +kernel
theorem d37_507 : decode (mB 37) 507 = .ok (.iconst 0, 1) := by decide +kernel
theorem d37_508 : decode (mB 37) 508 = .ok (.iload_n 1, 1) := by decide +kernel
theorem d37_509 : decode (mB 37) 509 = .ok (.invokevirtual 78, 3) := by decide +kernel
theorem d37_512 : decode (mB 37) 512 = .ok (.ifCond .eq 16, 3) := by decide +kernel
theorem d37_515 : decode (mB 37) 515 = .ok (.aload_n 0, 1) := by decide +kernel
theorem d37_516 : decode (mB 37) 516 = .ok (.iload_n 3, 1) := by decide +kernel
theorem d37_517 : decode (mB 37) 517 = .ok (.iload_n 1, 1) := by decide +kernel
theorem d37_518 : decode (mB 37) 518 = .ok (.invokevirtual 81, 3) := by decide +kernel
theorem d37_521 : decode (mB 37) 521 = .ok (.ifCond .eq 7, 3) := by decide +kernel
theorem d37_524 : decode (mB 37) 524 = .ok (.iconst 1, 1) := by decide +kernel
theorem d37_525 : decode (mB 37) 525 = .ok (.goto 4, 3) := by decide +kernel
theorem d37_528 : decode (mB 37) 528 = .ok (.iconst 0, 1) := by decide +kernel
theorem d37_529 : decode (mB 37) 529 = .ok (.ireturn, 1) := by decide +kernel
theorem d37_530 : decode (mB 37) 530 = .ok (.aload_n 0, 1) := by decide +kernel
theorem d37_531 : decode (mB 37) 531 = .ok (.iload_n 3, 1) := by decide +kernel
theorem d37_532 : decode (mB 37) 532 = .ok (.iconst 0, 1) := by decide +kernel
theorem d37_533 : decode (mB 37) 533 = .ok (.iload_n 1, 1) := by decide +kernel
theorem d37_534 : decode (mB 37) 534 = .ok (.invokevirtual 78, 3) := by decide +kernel
theorem d37_537 : decode (mB 37) 537 = .ok (.ireturn, 1) := by decide +kernel
theorem d38_0 : decode (mB 38) 0 = .ok (.iload_n 0, 1) := by decide +kernel
theorem d38_1 : decode (mB 38) 1 = .ok (.tableswitch 105 2 23 #[103, 105, 105, 103, 103, 105, 103, 103, 105, 103, 105, 103, 103, 103, 103, 103, 103, 105, 103, 105, 105, 103], 103) := by decide +kernel
theorem d38_104 : decode (mB 38) 104 = .ok (.iconst 1, 1) := by decide +kernel
theorem d38_105 : decode (mB 38) 105 = .ok (.ireturn, 1) := by decide +kernel
theorem d38_106 : decode (mB 38) 106 = .ok (.iconst 0, 1) := by decide +kernel
theorem d38_107 : decode (mB 38) 107 = .ok (.ireturn, 1) := by decide +kernel
theorem d41_0 : decode (mB 41) 0 = .ok (.aload_n 0, 1) := by decide +kernel
theorem d41_1 : decode (mB 41) 1 = .ok (.getfield 12, 3) := by decide +kernel
theorem d41_4 : decode (mB 41) 4 = .ok (.getfield 46, 3) := by decide +kernel
theorem d41_7 : decode (mB 41) 7 = .ok (.aload_n 0, 1) := by decide +kernel
theorem d41_8 : decode (mB 41) 8 = .ok (.getfield 31, 3) := by decide +kernel
theorem d41_11 : decode (mB 41) 11 = .ok (.iaload, 1) := by decide +kernel
theorem d41_12 : decode (mB 41) 12 = .ok (.iload_n 1, 1) := by decide +kernel
theorem d41_13 : decode (mB 41) 13 = .ok (.if_icmp .eq 5, 3) := by decide +kernel
theorem d41_16 : decode (mB 41) 16 = .ok (.iconst 0, 1) := by decide +kernel
theorem d41_17 : decode (mB 41) 17 = .ok (.ireturn, 1) := by decide +kernel
theorem d41_18 : decode (mB 41) 18 = .ok (.aload_n 0, 1) := by decide +kernel
theorem d41_19 : decode (mB 41) 19 = .ok (.dup, 1) := by decide +kernel
theorem d41_20 : decode (mB 41) 20 = .ok (.getfield 31, 3) := by decide +kernel
theorem d41_23 : decode (mB 41) 23 = .ok (.iconst 1, 1) := by decide +kernel
theorem d41_24 : decode (mB 41) 24 = .ok (.iadd, 1) := by decide +kernel
theorem d41_25 : decode (mB 41) 25 = .ok (.putfield 31, 3) := by decide +kernel
theorem d41_28 : decode (mB 41) 28 = .ok (.iconst 1, 1) := by decide +kernel
theorem d41_29 : decode (mB 41) 29 = .ok (.ireturn, 1) := by decide +kernel
theorem d40_0 : decode (mB 40) 0 = .ok (.aload_n 0, 1) := by decide +kernel
theorem d40_1 : decode (mB 40) 1 = .ok (.getfield 27, 3) := by decide +kernel
theorem d40_4 : decode (mB 40) 4 = .ok (.getfield 89, 3) := by decide +kernel
theorem d40_7 : decode (mB 40) 7 = .ok (.iload_n 1, 1) := by decide +kernel
theorem d40_8 : decode (mB 40) 8 = .ok (.aload_n 0, 1) := by decide +kernel
theorem d40_9 : decode (mB 40) 9 = .ok (.getfield 12, 3) := by decide +kernel
theorem d40_12 : decode (mB 40) 12 = .ok (.getfield 92, 3) := by decide +kernel
theorem d40_15 : decode (mB 40) 15 = .ok (.aload_n 0, 1) := by decide +kernel
theorem d40_16 : decode (mB 40) 16 = .ok (.getfield 31, 3) := by decide +kernel
theorem d40_19 : decode (mB 40) 19 = .ok (.iaload, 1) := by decide +kernel
theorem d40_20 : decode (mB 40) 20 = .ok (.iastore, 1) := by decide +kernel
theorem d40_21 : decode (mB 40) 21 = .ok (.aload_n 0, 1) := by decide +kernel
theorem d40_22 : decode (mB 40) 22 = .ok (.iconst 2, 1) := by decide +kernel
theorem d40_23 : decode (mB 40) 23 = .ok (.invokevirtual 69, 3) := by decide +kernel
theorem d40_26 : decode (mB 40) 26 = .ok (.ireturn, 1) := by decide +kernel
theorem d52_0 : decode (mB 52) 0 = .ok (.aload_n 0, 1) := by decide +kernel
theorem d52_1 : decode (mB 52) 1 = .ok (.getfield 27, 3) := by decide +kernel
theorem d52_4 : decode (mB 52) 4 = .ok (.getfield 95, 3) := by decide +kernel
theorem d52_7 : decode (mB 52) 7 = .ok (.iload_n 1, 1) := by decide +kernel
theorem d52_8 : decode (mB 52) 8 = .ok (.aload_n 0, 1) := by decide +kernel
theorem d52_9 : decode (mB 52) 9 = .ok (.getfield 12, 3) := by decide +kernel
theorem d52_12 : decode (mB 52) 12 = .ok (.getfield 92, 3) := by decide +kernel
theorem d52_15 : decode (mB 52) 15 = .ok (.aload_n 0, 1) := by decide +kernel
theorem d52_16 : decode (mB 52) 16 = .ok (.getfield 31, 3) := by decide +kernel
theorem d52_19 : decode (mB 52) 19 = .ok (.iaload, 1) := by decide +kernel
theorem d52_20 : decode (mB 52) 20 = .ok (.iastore, 1) := by decide +kernel
theorem d52_21 : decode (mB 52) 21 = .ok (.aload_n 0, 1) := by decide +kernel
theorem d52_22 : decode (mB 52) 22 = .ok (.getfield 12, 3) := by decide +kernel
theorem d52_25 : decode (mB 52) 25 = .ok (.getfield 92, 3) := by decide +kernel
theorem d52_28 : decode (mB 52) 28 = .ok (.aload_n 0, 1) := by decide +kernel
theorem d52_29 : decode (mB 52) 29 = .ok (.getfield 31, 3) := by decide +kernel
theorem d52_32 : decode (mB 52) 32 = .ok (.iaload, 1) := by decide +kernel
theorem d52_33 : decode (mB 52) 33 = .ok (.iload_n 3, 1) := by decide +kernel
theorem d52_34 : decode (mB 52) 34 = .ok (.if_icmp .ge 15, 3) := by decide +kernel
theorem d52_37 : decode (mB 52) 37 = .ok (.aload_n 0, 1) := by decide +kernel
theorem d52_38 : decode (mB 52) 38 = .ok (.iload_n 2, 1) := by decide +kernel
theorem d52_39 : decode (mB 52) 39 = .ok (.invokevirtual 69, 3) := by decide +kernel
theorem d52_42 : decode (mB 52) 42 = .ok (.ifCond .eq 7, 3) := by decide +kernel
theorem d52_45 : decode (mB 52) 45 = .ok (.iconst 1, 1) := by decide +kernel
theorem d52_46 : decode (mB 52) 46 = .ok (.goto 4, 3) := by decide +kernel
theorem d52_49 : decode (mB 52) 49 = .ok (.iconst 0, 1) := by decide +kernel
theorem d52_50 : decode (mB 52) 50 = .ok (.ireturn, 1) := by decide +kernel
theorem d49_0 : decode (mB 49) 0 = .ok (.iload_n 3, 1) := by decide +kernel
theorem d49_1 : decode (mB 49) 1 = .ok (.bipush 8, 2) := by decide +kernel
theorem d49_3 : decode (mB 49) 3 = .ok (.if_icmp .ge 12, 3) := by decide +kernel
theorem d49_6 : decode (mB 49) 6 = .ok (.aload_n 0, 1) := by decide +kernel
theorem d49_7 : decode (mB 49) 7 = .ok (.bipush 123, 2) := by decide +kernel
theorem d49_9 : decode (mB 49) 9 = .ok (.invokevirtual 69, 3) := by decide +kernel
theorem d49_12 : decode (mB 49) 12 = .ok (.ifCond .ne 5, 3) := by decide +kernel
theorem d49_15 : decode (mB 49) 15 = .ok (.iconst 0, 1) := by decide +kernel
theorem d49_16 : decode (mB 49) 16 = .ok (.ireturn, 1) := by decide +kernel
theorem d49_17 : decode (mB 49) 17 = .ok (.aload_n 0, 1) := by decide +kernel
theorem d49_18 : decode (mB 49) 18 = .ok (.getfield 27, 3) := by decide +kernel
theorem d49_21 : decode (mB 49) 21 = .ok (.aload_n 0, 1) := by decide +kernel
theorem d49_22 : decode (mB 49) 22 = .ok (.getfield 27, 3) := by decide +kernel
theorem d49_25 : decode (mB 49) 25 = .ok (.getfield 98, 3) := by decide +kernel
theorem d49_28 : decode (mB 49) 28 = .ok (.iload_n 3, 1) := by decide +kernel
theorem d49_29 : decode (mB 49) 29 = .ok (.iconst 1, 1) := by decide +kernel
theorem d49_30 : decode (mB 49) 30 = .ok (.iadd, 1) := by decide +kernel
theorem d49_31 : decode (mB 49) 31 = .ok (.invokestatic 101, 3) := by decide +kernel
theorem d49_34 : decode (mB 49) 34 = .ok (.putfield 98, 3) := by decide +kernel
theorem d49_37 : decode (mB 49) 37 = .ok (.aload_n 0, 1) := by decide +kernel
theorem d49_38 : decode (mB 49) 38 = .ok (.iconst 3, 1) := by decide +kernel
theorem d49_39 : decode (mB 49) 39 = .ok (.iload_n 1, 1) := by decide +kernel
theorem d49_40 : decode (mB 49) 40 = .ok (.imul, 1) := by decide +kernel
theorem d49_41 : decode (mB 49) 41 = .ok (.iload_n 2, 1) := by decide +kernel
theorem d49_42 : decode (mB 49) 42 = .ok (.iadd, 1) := by decide +kernel
theorem d49_43 : decode (mB 49) 43 = .ok (.iload_n 3, 1) := by decide +kernel
theorem d49_44 : decode (mB 49) 44 = .ok (.iconst 1, 1) := by decide +kernel
theorem d49_45 : decode (mB 49) 45 = .ok (.iadd, 1) := by decide +kernel
theorem d49_46 : decode (mB 49) 46 = .ok (.bipush 125, 2) := by decide +kernel
theorem d49_48 : decode (mB 49) 48 = .ok (.invokevirtual 35, 3) := by decide +kernel
theorem d49_51 : decode (mB 49) 51 = .ok (.ifCond .eq 16, 3) := by decide +kernel
theorem d49_54 : decode (mB 49) 54 = .ok (.aload_n 0, 1) := by decide +kernel
theorem d49_55 : decode (mB 49) 55 = .ok (.bipush 125, 2) := by decide +kernel
theorem d49_57 : decode (mB 49) 57 = .ok (.invokevirtual 69, 3) := by decide +kernel
theorem d49_60 : decode (mB 49) 60 = .ok (.ifCond .eq 7, 3) := by decide +kernel
theorem d49_63 : decode (mB 49) 63 = .ok (.iconst 1, 1) := by decide +kernel
theorem d49_64 : decode (mB 49) 64 = .ok (.goto 4, 3) := by decide +kernel
theorem d49_67 : decode (mB 49) 67 = .ok (.iconst 0, 1) := by decide +kernel
theorem d49_68 : decode (mB 49) 68 = .ok (.ireturn, 1) := by decide +kernel
theorem d51_0 : decode (mB 51) 0 = .ok (.aload_n 0, 1) := by decide +kernel
theorem d51_1 : decode (mB 51) 1 = .ok (.bipush 7, 2) := by decide +kernel
theorem d51_3 : decode (mB 51) 3 = .ok (.invokevirtual 69, 3) := by decide +kernel
theorem d51_6 : decode (mB 51) 6 = .ok (.ifCond .eq 13, 3) := by decide +kernel
theorem d51_9 : decode (mB 51) 9 = .ok (.aload_n 0, 1) := by decide +kernel
theorem d51_10 : decode (mB 51) 10 = .ok (.iload_n 1, 1) := by decide +kernel
theorem d51_11 : decode (mB 51) 11 = .ok (.iconst 1, 1) := by decide +kernel
theorem d51_12 : decode (mB 51) 12 = .ok (.iload_n 2, 1) := by decide +kernel
theorem d51_13 : decode (mB 51) 13 = .ok (.invokevirtual 78, 3) := by decide +kernel
theorem d51_16 : decode (mB 51) 16 = .ok (.ifCond .eq 7, 3) := by decide +kernel
theorem d51_19 : decode (mB 51) 19 = .ok (.iconst 1, 1) := by decide +kernel
theorem d51_20 : decode (mB 51) 20 = .ok (.goto 4, 3) := by decide +kernel
theorem d51_23 : decode (mB 51) 23 = .ok (.iconst 0, 1) := by decide +kernel
theorem d51_24 : decode (mB 51) 24 = .ok (.ireturn, 1) := by decide +kernel
theorem d48_0 : decode (mB 48) 0 = .ok (.aload_n 0, 1) := by decide +kernel
theorem d48_1 : decode (mB 48) 1 = .ok (.bipush 40, 2) := by decide +kernel
theorem d48_3 : decode (mB 48) 3 = .ok (.invokevirtual 69, 3) := by decide +kernel
theorem d48_6 : decode (mB 48) 6 = .ok (.ifCond .eq 24, 3) := by decide +kernel
theorem d48_9 : decode (mB 48) 9 = .ok (.aload_n 0, 1) := by decide +kernel
theorem d48_10 : decode (mB 48) 10 = .ok (.iload_n 1, 1) := by decide +kernel
theorem d48_11 : decode (mB 48) 11 = .ok (.invokevirtual 72, 3) := by decide +kernel
theorem d48_14 : decode (mB 48) 14 = .ok (.ifCond .eq 16, 3) := by decide +kernel
theorem d48_17 : decode (mB 48) 17 = .ok (.aload_n 0, 1) := by decide +kernel
theorem d48_18 : decode (mB 48) 18 = .ok (.bipush 41, 2) := by decide +kernel
theorem d48_20 : decode (mB 48) 20 = .ok (.invokevirtual 69, 3) := by decide +kernel
theorem d48_23 : decode (mB 48) 23 = .ok (.ifCond .eq 7, 3) := by decide +kernel
theorem d48_26 : decode (mB 48) 26 = .ok (.iconst 1, 1) := by decide +kernel
theorem d48_27 : decode (mB 48) 27 = .ok (.goto 4, 3) := by decide +kernel
theorem d48_30 : decode (mB 48) 30 = .ok (.iconst 0, 1) := by decide +kernel
theorem d48_31 : decode (mB 48) 31 = .ok (.ireturn, 1) := by decide +kernel
theorem d42_0 : decode (mB 42) 0 = .ok (.aload_n 0, 1) := by decide +kernel
theorem d42_1 : decode (mB 42) 1 = .ok (.getfield 27, 3) := by decide +kernel
theorem d42_4 : decode (mB 42) 4 = .ok (.getfield 107, 3) := by decide +kernel
theorem d42_7 : decode (mB 42) 7 = .ok (.iload_n 1, 1) := by decide +kernel
theorem d42_8 : decode (mB 42) 8 = .ok (.aload_n 0, 1) := by decide +kernel
theorem d42_9 : decode (mB 42) 9 = .ok (.getfield 27, 3) := by decide +kernel
theorem d42_12 : decode (mB 42) 12 = .ok (.getfield 110, 3) := by decide +kernel
theorem d42_15 : decode (mB 42) 15 = .ok (.iastore, 1) := by decide +kernel
theorem d42_16 : decode (mB 42) 16 = .ok (.aload_n 0, 1) := by decide +kernel
theorem d42_17 : decode (mB 42) 17 = .ok (.iconst 0, 1) := by decide +kernel
theorem d42_18 : decode (mB 42) 18 = .ok (.invokevirtual 113, 3) := by decide +kernel
theorem d42_21 : decode (mB 42) 21 = .ok (.istore_n 2, 1) := by decide +kernel
theorem d42_22 : decode (mB 42) 22 = .ok (.aload_n 0, 1) := by decide +kernel
theorem d42_23 : decode (mB 42) 23 = .ok (.getfield 27, 3) := by decide +kernel
theorem d42_26 : decode (mB 42) 26 = .ok (.getfield 116, 3) := by decide +kernel
theorem d42_29 : decode (mB 42) 29 = .ok (.iload_n 1, 1) := by decide +kernel
theorem d42_30 : decode (mB 42) 30 = .ok (.aload_n 0, 1) := by decide +kernel
theorem d42_31 : decode (mB 42) 31 = .ok (.getfield 27, 3) := by decide +kernel
theorem d42_34 : decode (mB 42) 34 = .ok (.getfield 110, 3) := by decide +kernel
theorem d42_37 : decode (mB 42) 37 = .ok (.iastore, 1) := by decide +kernel
theorem d42_38 : decode (mB 42) 38 = .ok (.iload_n 2, 1) := by decide +kernel
theorem d42_39 : decode (mB 42) 39 = .ok (.ireturn, 1) := by decide +kernel
theorem d43_0 : decode (mB 43) 0 = .ok (.aload_n 0, 1) := by decide +kernel
theorem d43_1 : decode (mB 43) 1 = .ok (.iload_n 1, 1) := by decide +kernel
theorem d43_2 : decode (mB 43) 2 = .ok (.invokevirtual 119, 3) := by decide +kernel
theorem d43_5 : decode (mB 43) 5 = .ok (.ifCond .ne 5, 3) := by decide +kernel
theorem d43_8 : decode (mB 43) 8 = .ok (.iconst 0, 1) := by decide +kernel
theorem d43_9 : decode (mB 43) 9 = .ok (.ireturn, 1) := by decide +kernel
theorem d43_10 : decode (mB 43) 10 = .ok (.aload_n 0, 1) := by decide +kernel
theorem d43_11 : decode (mB 43) 11 = .ok (.getfield 12, 3) := by decide +kernel
theorem d43_14 : decode (mB 43) 14 = .ok (.getfield 46, 3) := by decide +kernel
theorem d43_17 : decode (mB 43) 17 = .ok (.aload_n 0, 1) := by decide +kernel
theorem d43_18 : decode (mB 43) 18 = .ok (.getfield 31, 3) := by decide +kernel
theorem d43_21 : decode (mB 43) 21 = .ok (.iaload, 1) := by decide +kernel
theorem d43_22 : decode (mB 43) 22 = .ok (.istore_n 2, 1) := by decide +kernel
theorem d43_23 : decode (mB 43) 23 = .ok (.iload_n 2, 1) := by decide +kernel
theorem d43_24 : decode (mB 43) 24 = .ok (.bipush 60, 2) := by decide +kernel
theorem d43_26 : decode (mB 43) 26 = .ok (.if_icmp .eq 17, 3) := by decide +kernel
theorem d43_29 : decode (mB 43) 29 = .ok (.iload_n 2, 1) := by decide +kernel
theorem d43_30 : decode (mB 43) 30 = .ok (.bipush 61, 2) := by decide +kernel
theorem d43_32 : decode (mB 43) 32 = .ok (.if_icmp .eq 11, 3) := by decide +kernel
theorem d43_35 : decode (mB 43) 35 = .ok (.iload_n 2, 1) := by decide +kernel
theorem d43_36 : decode (mB 43) 36 = .ok (.bipush 35, 2) := by decide +kernel
theorem d43_38 : decode (mB 43) 38 = .ok (.if_icmp .eq 5, 3) := by decide +kernel
theorem d43_41 : decode (mB 43) 41 = .ok (.iconst 1, 1) := by decide +kernel
theorem d43_42 : decode (mB 43) 42 = .ok (.ireturn, 1) := by decide +kernel
theorem d43_43 : decode (mB 43) 43 = .ok (.aload_n 0, 1) := by decide +kernel
theorem d43_44 : decode (mB 43) 44 = .ok (.dup, 1) := by decide +kernel
theorem d43_45 : decode (mB 43) 45 = .ok (.getfield 31, 3) := by decide +kernel
theorem d43_48 : decode (mB 43) 48 = .ok (.iconst 1, 1) := by decide +kernel
theorem d43_49 : decode (mB 43) 49 = .ok (.iadd, 1) := by decide +kernel
theorem d43_50 : decode (mB 43) 50 = .ok (.putfield 31, 3) := by decide +kernel
theorem d43_53 : decode (mB 43) 53 = .ok (.aload_n 0, 1) := by decide +kernel
theorem d43_54 : decode (mB 43) 54 = .ok (.iload_n 1, 1) := by decide +kernel
theorem d43_55 : decode (mB 43) 55 = .ok (.invokevirtual 119, 3) := by decide +kernel
theorem d43_58 : decode (mB 43) 58 = .ok (.ifCond .eq 19, 3) := by decide +kernel
theorem d43_61 : decode (mB 43) 61 = .ok (.aload_n 0, 1) := by decide +kernel
theorem d43_62 : decode (mB 43) 62 = .ok (.getfield 27, 3) := by decide +kernel
theorem d43_65 : decode (mB 43) 65 = .ok (.iload_n 2, 1) := by decide +kernel
theorem d43_66 : decode (mB 43) 66 = .ok (.iconst 0, 1) := by decide +kernel
theorem d43_67 : decode (mB 43) 67 = .ok (.invokevirtual 122, 3) := by decide +kernel
theorem d43_70 : decode (mB 43) 70 = .ok (.ifCond .eq 7, 3) := by decide +kernel
theorem d43_73 : decode (mB 43) 73 = .ok (.iconst 1, 1) := by decide +kernel
theorem d43_74 : decode (mB 43) 74 = .ok (.goto 4, 3) := by decide +kernel
theorem d43_77 : decode (mB 43) 77 = .ok (.iconst 0, 1) := by decide +kernel
theorem d43_78 : decode (mB 43) 78 = .ok (.ireturn, 1) := by decide +kernel
theorem d44_0 : decode (mB 44) 0 = .ok (.aload_n 0, 1) := by decide +kernel
theorem d44_1 : decode (mB 44) 1 = .ok (.iload_n 1, 1) := by decide +kernel
theorem d44_2 : decode (mB 44) 2 = .ok (.invokevirtual 125, 3) := by decide +kernel
theorem d44_5 : decode (mB 44) 5 = .ok (.istore_n 2, 1) := by decide +kernel
theorem d44_6 : decode (mB 44) 6 = .ok (.iconst 0, 1) := by decide +kernel
theorem d44_7 : decode (mB 44) 7 = .ok (.istore_n 3, 1) := by decide +kernel
theorem d44_8 : decode (mB 44) 8 = .ok (.iload_n 3, 1) := by decide +kernel
theorem d44_9 : decode (mB 44) 9 = .ok (.bipush 60, 2) := by decide +kernel
theorem d44_11 : decode (mB 44) 11 = .ok (.if_icmp .ge 80, 3) := by decide +kernel
theorem d44_14 : decode (mB 44) 14 = .ok (.iload_n 2, 1) := by decide +kernel
theorem d44_15 : decode (mB 44) 15 = .ok (.ifCond .eq 76, 3) := by decide +kernel
theorem d44_18 : decode (mB 44) 18 = .ok (.aload_n 0, 1) := by decide +kernel
theorem d44_19 : decode (mB 44) 19 = .ok (.getfield 12, 3) := by decide +kernel
theorem d44_22 : decode (mB 44) 22 = .ok (.getfield 46, 3) := by decide +kernel
theorem d44_25 : decode (mB 44) 25 = .ok (.aload_n 0, 1) := by decide +kernel
theorem d44_26 : decode (mB 44) 26 = .ok (.getfield 31, 3) := by decide +kernel
theorem d44_29 : decode (mB 44) 29 = .ok (.iaload, 1) := by decide +kernel
theorem d44_30 : decode (mB 44) 30 = .ok (.istore 4, 2) := by decide +kernel
theorem d44_32 : decode (mB 44) 32 = .ok (.iload 4, 2) := by decide +kernel
theorem d44_34 : decode (mB 44) 34 = .ok (.bipush 43, 2) := by decide +kernel
theorem d44_36 : decode (mB 44) 36 = .ok (.if_icmp .eq 12, 3) := by decide +kernel
theorem d44_39 : decode (mB 44) 39 = .ok (.iload 4, 2) := by decide +kernel
theorem d44_41 : decode (mB 44) 41 = .ok (.bipush 45, 2) := by decide +kernel
theorem d44_43 : decode (mB 44) 43 = .ok (.if_icmp .eq 5, 3) := by decide +kernel
theorem d44_46 : decode (mB 44) 46 = .ok (.iconst 1, 1) := by decide +kernel
theorem d44_47 : decode (mB 44) 47 = .ok (.ireturn, 1) := by decide +kernel
theorem d44_48 : decode (mB 44) 48 = .ok (.aload_n 0, 1) := by decide +kernel
theorem d44_49 : decode (mB 44) 49 = .ok (.dup, 1) := by decide +kernel
theorem d44_50 : decode (mB 44) 50 = .ok (.getfield 31, 3) := by decide +kernel
theorem d44_53 : decode (mB 44) 53 = .ok (.iconst 1, 1) := by decide +kernel
theorem d44_54 : decode (mB 44) 54 = .ok (.iadd, 1) := by decide +kernel
theorem d44_55 : decode (mB 44) 55 = .ok (.putfield 31, 3) := by decide +kernel
theorem d44_58 : decode (mB 44) 58 = .ok (.aload_n 0, 1) := by decide +kernel
theorem d44_59 : decode (mB 44) 59 = .ok (.iload_n 1, 1) := by decide +kernel
theorem d44_60 : decode (mB 44) 60 = .ok (.invokevirtual 125, 3) := by decide +kernel
theorem d44_63 : decode (mB 44) 63 = .ok (.ifCond .eq 20, 3) := by decide +kernel
theorem d44_66 : decode (mB 44) 66 = .ok (.aload_n 0, 1) := by decide +kernel
theorem d44_67 : decode (mB 44) 67 = .ok (.getfield 27, 3) := by decide +kernel
theorem d44_70 : decode (mB 44) 70 = .ok (.iload 4, 2) := by decide +kernel
theorem d44_72 : decode (mB 44) 72 = .ok (.iconst 0, 1) := by decide +kernel
theorem d44_73 : decode (mB 44) 73 = .ok (.invokevirtual 122, 3) := by decide +kernel
theorem d44_76 : decode (mB 44) 76 = .ok (.ifCond .eq 7, 3) := by decide +kernel
theorem d44_79 : decode (mB 44) 79 = .ok (.iconst 1, 1) := by decide +kernel
theorem d44_80 : decode (mB 44) 80 = .ok (.goto 4, 3) := by decide +kernel
theorem d44_83 : decode (mB 44) 83 = .ok (.iconst 0, 1) := by decide +kernel
theorem d44_84 : decode (mB 44) 84 = .ok (.istore_n 2, 1) := by decide +kernel
theorem d44_85 : decode (mB 44) 85 = .ok (.iinc 3 1, 3) := by decide +kernel
theorem d44_88 : decode (mB 44) 88 = .ok (.goto (-80), 3) := by decide +kernel
theorem d44_91 : decode (mB 44) 91 = .ok (.iload_n 2, 1) := by decide +kernel
theorem d44_92 : decode (mB 44) 92 = .ok (.ireturn, 1) := by decide +kernel
theorem d45_0 : decode (mB 45) 0 = .ok (.aload_n 0, 1) := by decide +kernel
theorem d45_1 : decode (mB 45) 1 = .ok (.iload_n 1, 1) := by decide +kernel
theorem d45_2 : decode (mB 45) 2 = .ok (.invokevirtual 128, 3) := by decide +kernel
theorem d45_5 : decode (mB 45) 5 = .ok (.istore_n 2, 1) := by decide +kernel
theorem d45_6 : decode (mB 45) 6 = .ok (.iconst 0, 1) := by decide +kernel
theorem d45_7 : decode (mB 45) 7 = .ok (.istore_n 3, 1) := by decide +kernel
theorem d45_8 : decode (mB 45) 8 = .ok (.iload_n 3, 1) := by decide +kernel
theorem d45_9 : decode (mB 45) 9 = .ok (.bipush 60, 2) := by decide +kernel
theorem d45_11 : decode (mB 45) 11 = .ok (.if_icmp .ge 51, 3) := by decide +kernel
theorem d45_14 : decode (mB 45) 14 = .ok (.iload_n 2, 1) := by decide +kernel
theorem d45_15 : decode (mB 45) 15 = .ok (.ifCond .eq 47, 3) := by decide +kernel
theorem d45_18 : decode (mB 45) 18 = .ok (.aload_n 0, 1) := by decide +kernel
theorem d45_19 : decode (mB 45) 19 = .ok (.bipush 42, 2) := by decide +kernel
theorem d45_21 : decode (mB 45) 21 = .ok (.invokevirtual 69, 3) := by decide +kernel
theorem d45_24 : decode (mB 45) 24 = .ok (.ifCond .ne 5, 3) := by decide +kernel
theorem d45_27 : decode (mB 45) 27 = .ok (.iconst 1, 1) := by decide +kernel
theorem d45_28 : decode (mB 45) 28 = .ok (.ireturn, 1) := by decide +kernel
theorem d45_29 : decode (mB 45) 29 = .ok (.aload_n 0, 1) := by decide +kernel
theorem d45_30 : decode (mB 45) 30 = .ok (.iload_n 1, 1) := by decide +kernel
theorem d45_31 : decode (mB 45) 31 = .ok (.invokevirtual 128, 3) := by decide +kernel
theorem d45_34 : decode (mB 45) 34 = .ok (.ifCond .eq 20, 3) := by decide +kernel
theorem d45_37 : decode (mB 45) 37 = .ok (.aload_n 0, 1) := by decide +kernel
theorem d45_38 : decode (mB 45) 38 = .ok (.getfield 27, 3) := by decide +kernel
theorem d45_41 : decode (mB 45) 41 = .ok (.bipush 42, 2) := by decide +kernel
theorem d45_43 : decode (mB 45) 43 = .ok (.iconst 0, 1) := by decide +kernel
theorem d45_44 : decode (mB 45) 44 = .ok (.invokevirtual 122, 3) := by decide +kernel
theorem d45_47 : decode (mB 45) 47 = .ok (.ifCond .eq 7, 3) := by decide +kernel
theorem d45_50 : decode (mB 45) 50 = .ok (.iconst 1, 1) := by decide +kernel
theorem d45_51 : decode (mB 45) 51 = .ok (.goto 4, 3) := by decide +kernel
theorem d45_54 : decode (mB 45) 54 = .ok (.iconst 0, 1) := by decide +kernel
theorem d45_55 : decode (mB 45) 55 = .ok (.istore_n 2, 1) := by decide +kernel
theorem d45_56 : decode (mB 45) 56 = .ok (.iinc 3 1, 3) := by decide +kernel
theorem d45_59 : decode (mB 45) 59 = .ok (.goto (-51), 3) := by decide +kernel
theorem d45_62 : decode (mB 45) 62 = .ok (.iload_n 2, 1) := by decide +kernel
theorem d45_63 : decode (mB 45) 63 = .ok (.ireturn, 1) := by decide +kernel
theorem d46_0 : decode (mB 46) 0 = .ok (.aload_n 0, 1) := by decide +kernel
theorem d46_1 : decode (mB 46) 1 = .ok (.getfield 12, 3) := by decide +kernel
theorem d46_4 : decode (mB 46) 4 = .ok (.getfield 46, 3) := by decide +kernel
theorem d46_7 : decode (mB 46) 7 = .ok (.aload_n 0, 1) := by decide +kernel
theorem d46_8 : decode (mB 46) 8 = .ok (.getfield 31, 3) := by decide +kernel
theorem d46_11 : decode (mB 46) 11 = .ok (.iaload, 1) := by decide +kernel
theorem d46_12 : decode (mB 46) 12 = .ok (.istore_n 2, 1) := by decide +kernel
theorem d46_13 : decode (mB 46) 13 = .ok (.aload_n 0, 1) := by decide +kernel
theorem d46_14 : decode (mB 46) 14 = .ok (.getfield 27, 3) := by decide +kernel
theorem d46_17 : decode (mB 46) 17 = .ok (.getfield 131, 3) := by decide +kernel
theorem d46_20 : decode (mB 46) 20 = .ok (.bipush 60, 2) := by decide +kernel
theorem d46_22 : decode (mB 46) 22 = .ok (.if_icmp .lt 5, 3) := by decide +kernel
theorem d46_25 : decode (mB 46) 25 = .ok (.iconst 0, 1) := by decide +kernel
theorem d46_26 : decode (mB 46) 26 = .ok (.ireturn, 1) := by decide +kernel
theorem d46_27 : decode (mB 46) 27 = .ok (.iload_n 2, 1) := by decide +kernel
theorem d46_28 : decode (mB 46) 28 = .ok (.iconst 4, 1) := by decide +kernel
theorem d46_29 : decode (mB 46) 29 = .ok (.if_icmp .eq 8, 3) := by decide +kernel
theorem d46_32 : decode (mB 46) 32 = .ok (.iload_n 2, 1) := by decide +kernel
theorem d46_33 : decode (mB 46) 33 = .ok (.iconst 2, 1) := by decide +kernel
theorem d46_34 : decode (mB 46) 34 = .ok (.if_icmp .ne 49, 3) := by decide +kernel
theorem d46_37 : decode (mB 46) 37 = .ok (.aload_n 0, 1) := by decide +kernel
theorem d46_38 : decode (mB 46) 38 = .ok (.getfield 27, 3) := by decide +kernel
theorem d46_41 : decode (mB 46) 41 = .ok (.dup, 1) := by decide +kernel
theorem d46_42 : decode (mB 46) 42 = .ok (.getfield 131, 3) := by decide +kernel
theorem d46_45 : decode (mB 46) 45 = .ok (.iconst 1, 1) := by decide +kernel
theorem d46_46 : decode (mB 46) 46 = .ok (.iadd, 1) := by decide +kernel
theorem d46_47 : decode (mB 46) 47 = .ok (.putfield 131, 3) := by decide +kernel
theorem d46_50 : decode (mB 46) 50 = .ok (.aload_n 0, 1) := by decide +kernel
theorem d46_51 : decode (mB 46) 51 = .ok (.dup, 1) := by decide +kernel
theorem d46_52 : decode (mB 46) 52 = .ok (.getfield 31, 3) := by decide +kernel
theorem d46_55 : decode (mB 46) 55 = .ok (.iconst 1, 1) := by decide +kernel
theorem d46_56 : decode (mB 46) 56 = .ok (.iadd, 1) := by decide +kernel
theorem d46_57 : decode (mB 46) 57 = .ok (.putfield 31, 3) := by decide +kernel
theorem d46_60 : decode (mB 46) 60 = .ok (.aload_n 0, 1) := by decide +kernel
theorem d46_61 : decode (mB 46) 61 = .ok (.getfield 27, 3) := by decide +kernel
theorem d46_64 : decode (mB 46) 64 = .ok (.iload_n 2, 1) := by decide +kernel
theorem d46_65 : decode (mB 46) 65 = .ok (.aload_n 0, 1) := by decide +kernel
theorem d46_66 : decode (mB 46) 66 = .ok (.getfield 12, 3) := by decide +kernel
theorem d46_69 : decode (mB 46) 69 = .ok (.getfield 92, 3) := by decide +kernel
theorem d46_72 : decode (mB 46) 72 = .ok (.aload_n 0, 1) := by decide +kernel
theorem d46_73 : decode (mB 46) 73 = .ok (.getfield 31, 3) := by decide +kernel
theorem d46_76 : decode (mB 46) 76 = .ok (.iconst 1, 1) := by decide +kernel
theorem d46_77 : decode (mB 46) 77 = .ok (.isub, 1) := by decide +kernel
theorem d46_78 : decode (mB 46) 78 = .ok (.iaload, 1) := by decide +kernel
theorem d46_79 : decode (mB 46) 79 = .ok (.invokevirtual 122, 3) := by decide +kernel
theorem d46_82 : decode (mB 46) 82 = .ok (.ireturn, 1) := by decide +kernel
theorem d46_83 : decode (mB 46) 83 = .ok (.iload_n 2, 1) := by decide +kernel
theorem d46_84 : decode (mB 46) 84 = .ok (.bipush 45, 2) := by decide +kernel
theorem d46_86 : decode (mB 46) 86 = .ok (.if_icmp .eq 9, 3) := by decide +kernel
theorem d46_89 : decode (mB 46) 89 = .ok (.iload_n 2, 1) := by decide +kernel
theorem d46_90 : decode (mB 46) 90 = .ok (.bipush 40, 2) := by decide +kernel
theorem d46_92 : decode (mB 46) 92 = .ok (.if_icmp .ne 9, 3) := by decide +kernel
theorem d46_95 : decode (mB 46) 95 = .ok (.iload_n 1, 1) := by decide +kernel
theorem d46_96 : decode (mB 46) 96 = .ok (.bipush 8, 2) := by decide +kernel
theorem d46_98 : decode (mB 46) 98 = .ok (.if_icmp .lt 5, 3) := by decide +kernel
theorem d46_101 : decode (mB 46) 101 = .ok (.iconst 0, 1) := by decide +kernel
theorem d46_102 : decode (mB 46) 102 = .ok (.ireturn, 1) := by decide +kernel
theorem d46_103 : decode (mB 46) 103 = .ok (.aload_n 0, 1) := by decide +kernel
theorem d46_104 : decode (mB 46) 104 = .ok (.getfield 27, 3) := by decide +kernel
theorem d46_107 : decode (mB 46) 107 = .ok (.dup, 1) := by decide +kernel
theorem d46_108 : decode (mB 46) 108 = .ok (.getfield 131, 3) := by decide +kernel
theorem d46_111 : decode (mB 46) 111 = .ok (.iconst 1, 1) := by decide +kernel
theorem d46_112 : decode (mB 46) 112 = .ok (.iadd, 1) := by decide +kernel
theorem d46_113 : decode (mB 46) 113 = .ok (.putfield 131, 3) := by decide +kernel
theorem d46_116 : decode (mB 46) 116 = .ok (.aload_n 0, 1) := by decide +kernel
theorem d46_117 : decode (mB 46) 117 = .ok (.dup, 1) := by decide +kernel
theorem d46_118 : decode (mB 46) 118 = .ok (.getfield 31, 3) := by decide +kernel
theorem d46_121 : decode (mB 46) 121 = .ok (.iconst 1, 1) := by decide +kernel
theorem d46_122 : decode (mB 46) 122 = .ok (.iadd, 1) := by decide +kernel
theorem d46_123 : decode (mB 46) 123 = .ok (.putfield 31, 3) := by decide +kernel
theorem d46_126 : decode (mB 46) 126 = .ok (.iload_n 2, 1) := by decide +kernel
theorem d46_127 : decode (mB 46) 127 = .ok (.bipush 45, 2) := by decide +kernel
theorem d46_129 : decode (mB 46) 129 = .ok (.if_icmp .ne 32, 3) := by decide +kernel
theorem d46_132 : decode (mB 46) 132 = .ok (.aload_n 0, 1) := by decide +kernel
theorem d46_133 : decode (mB 46) 133 = .ok (.iload_n 1, 1) := by decide +kernel
theorem d46_134 : decode (mB 46) 134 = .ok (.iconst 1, 1) := by decide +kernel
theorem d46_135 : decode (mB 46) 135 = .ok (.iadd, 1) := by decide +kernel
theorem d46_136 : decode (mB 46) 136 = .ok (.invokevirtual 128, 3) := by decide +kernel
theorem d46_139 : decode (mB 46) 139 = .ok (.ifCond .eq 20, 3) := by decide +kernel
theorem d46_142 : decode (mB 46) 142 = .ok (.aload_n 0, 1) := by decide +kernel
theorem d46_143 : decode (mB 46) 143 = .ok (.getfield 27, 3) := by decide +kernel
theorem d46_146 : decode (mB 46) 146 = .ok (.bipush 24, 2) := by decide +kernel
theorem d46_148 : decode (mB 46) 148 = .ok (.iconst 0, 1) := by decide +kernel
theorem d46_149 : decode (mB 46) 149 = .ok (.invokevirtual 122, 3) := by decide +kernel
theorem d46_152 : decode (mB 46) 152 = .ok (.ifCond .eq 7, 3) := by decide +kernel
theorem d46_155 : decode (mB 46) 155 = .ok (.iconst 1, 1) := by decide +kernel
theorem d46_156 : decode (mB 46) 156 = .ok (.goto 4, 3) := by decide +kernel
theorem d46_159 : decode (mB 46) 159 = .ok (.iconst 0, 1) := by decide +kernel
theorem d46_160 : decode (mB 46) 160 = .ok (.ireturn, 1) := by decide +kernel
theorem d46_161 : decode (mB 46) 161 = .ok (.aload_n 0, 1) := by decide +kernel
theorem d46_162 : decode (mB 46) 162 = .ok (.iload_n 1, 1) := by decide +kernel
theorem d46_163 : decode (mB 46) 163 = .ok (.iconst 1, 1) := by decide +kernel
theorem d46_164 : decode (mB 46) 164 = .ok (.iadd, 1) := by decide +kernel
theorem d46_165 : decode (mB 46) 165 = .ok (.invokevirtual 113, 3) := by decide +kernel
theorem d46_168 : decode (mB 46) 168 = .ok (.ifCond .eq 16, 3) := by decide +kernel
theorem d46_171 : decode (mB 46) 171 = .ok (.aload_n 0, 1) := by decide +kernel
theorem d46_172 : decode (mB 46) 172 = .ok (.bipush 41, 2) := by decide +kernel
theorem d46_174 : decode (mB 46) 174 = .ok (.invokevirtual 69, 3) := by decide +kernel
theorem d46_177 : decode (mB 46) 177 = .ok (.ifCond .eq 7, 3) := by decide +kernel
theorem d46_180 : decode (mB 46) 180 = .ok (.iconst 1, 1) := by decide +kernel
theorem d46_181 : decode (mB 46) 181 = .ok (.goto 4, 3) := by decide +kernel
theorem d46_184 : decode (mB 46) 184 = .ok (.iconst 0, 1) := by decide +kernel
theorem d46_185 : decode (mB 46) 185 = .ok (.ireturn, 1) := by decide +kernel
theorem d4_0 : decode (mB 4) 0 = .ok (.aload_n 0, 1) := by decide +kernel
theorem d4_1 : decode (mB 4) 1 = .ok (.invokespecial 3, 3) := by decide +kernel
theorem d4_4 : decode (mB 4) 4 = .ok (.aload_n 0, 1) := by decide +kernel
theorem d4_5 : decode (mB 4) 5 = .ok (.bipush 40, 2) := by decide +kernel
theorem d4_7 : decode (mB 4) 7 = .ok (.newarray .int, 2) := by decide +kernel
theorem d4_9 : decode (mB 4) 9 = .ok (.putfield 9, 3) := by decide +kernel
theorem d4_12 : decode (mB 4) 12 = .ok (.aload_n 0, 1) := by decide +kernel
theorem d4_13 : decode (mB 4) 13 = .ok (.bipush 40, 2) := by decide +kernel
theorem d4_15 : decode (mB 4) 15 = .ok (.newarray .int, 2) := by decide +kernel
theorem d4_17 : decode (mB 4) 17 = .ok (.putfield 15, 3) := by decide +kernel
theorem d4_20 : decode (mB 4) 20 = .ok (.aload_n 0, 1) := by decide +kernel
theorem d4_21 : decode (mB 4) 21 = .ok (.bipush 40, 2) := by decide +kernel
theorem d4_23 : decode (mB 4) 23 = .ok (.newarray .int, 2) := by decide +kernel
theorem d4_25 : decode (mB 4) 25 = .ok (.putfield 18, 3) := by decide +kernel
theorem d4_28 : decode (mB 4) 28 = .ok (.aload_n 0, 1) := by decide +kernel
theorem d4_29 : decode (mB 4) 29 = .ok (.bipush 40, 2) := by decide +kernel
theorem d4_31 : decode (mB 4) 31 = .ok (.newarray .int, 2) := by decide +kernel
theorem d4_33 : decode (mB 4) 33 = .ok (.putfield 21, 3) := by decide +kernel
theorem d4_36 : decode (mB 4) 36 = .ok (.aload_n 0, 1) := by decide +kernel
theorem d4_37 : decode (mB 4) 37 = .ok (.bipush 40, 2) := by decide +kernel
theorem d4_39 : decode (mB 4) 39 = .ok (.newarray .int, 2) := by decide +kernel
theorem d4_41 : decode (mB 4) 41 = .ok (.putfield 24, 3) := by decide +kernel
theorem d4_44 : decode (mB 4) 44 = .ok (.aload_n 0, 1) := by decide +kernel
theorem d4_45 : decode (mB 4) 45 = .ok (.bipush 40, 2) := by decide +kernel
theorem d4_47 : decode (mB 4) 47 = .ok (.newarray .int, 2) := by decide +kernel
theorem d4_49 : decode (mB 4) 49 = .ok (.putfield 27, 3) := by decide +kernel
theorem d4_52 : decode (mB 4) 52 = .ok (.aload_n 0, 1) := by decide +kernel
theorem d4_53 : decode (mB 4) 53 = .ok (.bipush 121, 2) := by decide +kernel
theorem d4_55 : decode (mB 4) 55 = .ok (.newarray .int, 2) := by decide +kernel
theorem d4_57 : decode (mB 4) 57 = .ok (.putfield 30, 3) := by decide +kernel
theorem d4_60 : decode (mB 4) 60 = .ok (.aload_n 0, 1) := by decide +kernel
theorem d4_61 : decode (mB 4) 61 = .ok (.bipush 120, 2) := by decide +kernel
theorem d4_63 : decode (mB 4) 63 = .ok (.newarray .int, 2) := by decide +kernel
theorem d4_65 : decode (mB 4) 65 = .ok (.putfield 33, 3) := by decide +kernel
theorem d4_68 : decode (mB 4) 68 = .ok (.aload_n 0, 1) := by decide +kernel
theorem d4_69 : decode (mB 4) 69 = .ok (.bipush 120, 2) := by decide +kernel
theorem d4_71 : decode (mB 4) 71 = .ok (.newarray .int, 2) := by decide +kernel
theorem d4_73 : decode (mB 4) 73 = .ok (.putfield 36, 3) := by decide +kernel
theorem d4_76 : decode (mB 4) 76 = .ok (.aload_n 0, 1) := by decide +kernel
theorem d4_77 : decode (mB 4) 77 = .ok (.bipush 60, 2) := by decide +kernel
theorem d4_79 : decode (mB 4) 79 = .ok (.newarray .long, 2) := by decide +kernel
theorem d4_81 : decode (mB 4) 81 = .ok (.putfield 39, 3) := by decide +kernel
theorem d4_84 : decode (mB 4) 84 = .ok (.return_, 1) := by decide +kernel
theorem d35_0 : decode (mB 35) 0 = .ok (.aload_n 0, 1) := by decide +kernel
theorem d35_1 : decode (mB 35) 1 = .ok (.iconst 0, 1) := by decide +kernel
theorem d35_2 : decode (mB 35) 2 = .ok (.putfield 43, 3) := by decide +kernel
theorem d35_5 : decode (mB 35) 5 = .ok (.aload_n 0, 1) := by decide +kernel
theorem d35_6 : decode (mB 35) 6 = .ok (.iconst 0, 1) := by decide +kernel
theorem d35_7 : decode (mB 35) 7 = .ok (.putfield 47, 3) := by decide +kernel
theorem d35_10 : decode (mB 35) 10 = .ok (.aload_n 0, 1) := by decide +kernel
theorem d35_11 : decode (mB 35) 11 = .ok (.iconst 0, 1) := by decide +kernel
theorem d35_12 : decode (mB 35) 12 = .ok (.putfield 50, 3) := by decide +kernel
theorem d35_15 : decode (mB 35) 15 = .ok (.aload_n 0, 1) := by decide +kernel
theorem d35_16 : decode (mB 35) 16 = .ok (.iconst 0, 1) := by decide +kernel
theorem d35_17 : decode (mB 35) 17 = .ok (.putfield 53, 3) := by decide +kernel
theorem d35_20 : decode (mB 35) 20 = .ok (.aload_n 0, 1) := by decide +kernel
theorem d35_21 : decode (mB 35) 21 = .ok (.getfield 30, 3) := by decide +kernel
theorem d35_24 : decode (mB 35) 24 = .ok (.bipush 120, 2) := by decide +kernel
theorem d35_26 : decode (mB 35) 26 = .ok (.iconst (-1), 1) := by decide +kernel
theorem d35_27 : decode (mB 35) 27 = .ok (.iastore, 1) := by decide +kernel
theorem d35_28 : decode (mB 35) 28 = .ok (.return_, 1) := by decide +kernel
theorem d39_0 : decode (mB 39) 0 = .ok (.aload_n 0, 1) := by decide +kernel
theorem d39_1 : decode (mB 39) 1 = .ok (.getfield 43, 3) := by decide +kernel
theorem d39_4 : decode (mB 39) 4 = .ok (.istore_n 2, 1) := by decide +kernel
theorem d39_5 : decode (mB 39) 5 = .ok (.aload_n 0, 1) := by decide +kernel
theorem d39_6 : decode (mB 39) 6 = .ok (.getfield 9, 3) := by decide +kernel
theorem d39_9 : decode (mB 39) 9 = .ok (.iload_n 2, 1) := by decide +kernel
theorem d39_10 : decode (mB 39) 10 = .ok (.iload_n 1, 1) := by decide +kernel
theorem d39_11 : decode (mB 39) 11 = .ok (.iastore, 1) := by decide +kernel
theorem d39_12 : decode (mB 39) 12 = .ok (.aload_n 0, 1) := by decide +kernel
theorem d39_13 : decode (mB 39) 13 = .ok (.getfield 27, 3) := by decide +kernel
theorem d39_16 : decode (mB 39) 16 = .ok (.iload_n 2, 1) := by decide +kernel
theorem d39_17 : decode (mB 39) 17 = .ok (.iconst (-1), 1) := by decide +kernel
theorem d39_18 : decode (mB 39) 18 = .ok (.iastore, 1) := by decide +kernel
theorem d39_19 : decode (mB 39) 19 = .ok (.iconst 0, 1) := by decide +kernel
theorem d39_20 : decode (mB 39) 20 = .ok (.istore_n 3, 1) := by decide +kernel
theorem d39_21 : decode (mB 39) 21 = .ok (.iload_n 3, 1) := by decide +kernel
theorem d39_22 : decode (mB 39) 22 = .ok (.iconst 3, 1) := by decide +kernel
theorem d39_23 : decode (mB 39) 23 = .ok (.if_icmp .ge 21, 3) := by decide +kernel
theorem d39_26 : decode (mB 39) 26 = .ok (.aload_n 0, 1) := by decide +kernel
theorem d39_27 : decode (mB 39) 27 = .ok (.getfield 30, 3) := by decide +kernel
theorem d39_30 : decode (mB 39) 30 = .ok (.iconst 3, 1) := by decide +kernel
theorem d39_31 : decode (mB 39) 31 = .ok (.iload_n 2, 1) := by decide +kernel
theorem d39_32 : decode (mB 39) 32 = .ok (.imul, 1) := by decide +kernel
theorem d39_33 : decode (mB 39) 33 = .ok (.iload_n 3, 1) := by decide +kernel
theorem d39_34 : decode (mB 39) 34 = .ok (.iadd, 1) := by decide +kernel
theorem d39_35 : decode (mB 39) 35 = .ok (.bipush (-2), 2) := by decide +kernel
theorem d39_37 : decode (mB 39) 37 = .ok (.iastore, 1) := by decide +kernel
theorem d39_38 : decode (mB 39) 38 = .ok (.iinc 3 1, 3) := by decide +kernel
theorem d39_41 : decode (mB 39) 41 = .ok (.goto (-20), 3) := by decide +kernel
theorem d39_44 : decode (mB 39) 44 = .ok (.aload_n 0, 1) := by decide +kernel
theorem d39_45 : decode (mB 39) 45 = .ok (.dup, 1) := by decide +kernel
theorem d39_46 : decode (mB 39) 46 = .ok (.getfield 43, 3) := by decide +kernel
theorem d39_49 : decode (mB 39) 49 = .ok (.iconst 1, 1) := by decide +kernel
theorem d39_50 : decode (mB 39) 50 = .ok (.iadd, 1) := by decide +kernel
theorem d39_51 : decode (mB 39) 51 = .ok (.putfield 43, 3) := by decide +kernel
theorem d39_54 : decode (mB 39) 54 = .ok (.iload_n 2, 1) := by decide +kernel
theorem d39_55 : decode (mB 39) 55 = .ok (.ireturn, 1) := by decide +kernel
theorem d47_0 : decode (mB 47) 0 = .ok (.aload_n 0, 1) := by decide +kernel
theorem d47_1 : decode (mB 47) 1 = .ok (.getfield 53, 3) := by decide +kernel
theorem d47_4 : decode (mB 47) 4 = .ok (.bipush 120, 2) := by decide +kernel
