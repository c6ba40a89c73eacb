theorem dX5_init_0 : decode cX5_init 0 = .ok (.aload_n 0, 1) := by decide +kernel
theorem dX5_init_1 : decode cX5_init 1 = .ok (.invokespecial 1, 3) := by decide +kernel
theorem dX5_init_4 : decode cX5_init 4 = .ok (.aload_n 0, 1) := by decide +kernel
theorem dX5_init_5 : decode cX5_init 5 = .ok (.sipush 152, 3) := by decide +kernel
theorem dX5_init_8 : decode cX5_init 8 = .ok (.newarray .int, 2) := by decide +kernel
theorem dX5_init_10 : decode cX5_init 10 = .ok (.putfield 9, 3) := by decide +kernel
theorem dX5_init_13 : decode cX5_init 13 = .ok (.aload_n 0, 1) := by decide +kernel
theorem dX5_init_14 : decode cX5_init 14 = .ok (.sipush 152, 3) := by decide +kernel
theorem dX5_init_17 : decode cX5_init 17 = .ok (.newarray .int, 2) := by decide +kernel
theorem dX5_init_19 : decode cX5_init 19 = .ok (.putfield 13, 3) := by decide +kernel
theorem dX5_init_22 : decode cX5_init 22 = .ok (.aload_n 0, 1) := by decide +kernel
theorem dX5_init_23 : decode cX5_init 23 = .ok (.sipush 152, 3) := by decide +kernel
theorem dX5_init_26 : decode cX5_init 26 = .ok (.newarray .int, 2) := by decide +kernel
theorem dX5_init_28 : decode cX5_init 28 = .ok (.putfield 16, 3) := by decide +kernel
theorem dX5_init_31 : decode cX5_init 31 = .ok (.aload_n 0, 1) := by decide +kernel
theorem dX5_init_32 : decode cX5_init 32 = .ok (.bipush 8, 2) := by decide +kernel
theorem dX5_init_34 : decode cX5_init 34 = .ok (.newarray .int, 2) := by decide +kernel
theorem dX5_init_36 : decode cX5_init 36 = .ok (.putfield 19, 3) := by decide +kernel
theorem dX5_init_39 : decode cX5_init 39 = .ok (.aload_n 0, 1) := by decide +kernel
theorem dX5_init_40 : decode cX5_init 40 = .ok (.bipush 8, 2) := by decide +kernel
theorem dX5_init_42 : decode cX5_init 42 = .ok (.newarray .int, 2) := by decide +kernel
theorem dX5_init_44 : decode cX5_init 44 = .ok (.dup, 1) := by decide +kernel
theorem dX5_init_45 : decode cX5_init 45 = .ok (.iconst 0, 1) := by decide +kernel
theorem dX5_init_46 : decode cX5_init 46 = .ok (.iconst (-1), 1) := by decide +kernel
theorem dX5_init_47 : decode cX5_init 47 = .ok (.iastore, 1) := by decide +kernel
theorem dX5_init_48 : decode cX5_init 48 = .ok (.dup, 1) := by decide +kernel
theorem dX5_init_49 : decode cX5_init 49 = .ok (.iconst 1, 1) := by decide +kernel
theorem dX5_init_50 : decode cX5_init 50 = .ok (.iconst (-1), 1) := by decide +kernel
theorem dX5_init_51 : decode cX5_init 51 = .ok (.iastore, 1) := by decide +kernel
theorem dX5_init_52 : decode cX5_init 52 = .ok (.dup, 1) := by decide +kernel
theorem dX5_init_53 : decode cX5_init 53 = .ok (.iconst 2, 1) := by decide +kernel
theorem dX5_init_54 : decode cX5_init 54 = .ok (.iconst 0, 1) := by decide +kernel
theorem dX5_init_55 : decode cX5_init 55 = .ok (.iastore, 1) := by decide +kernel
theorem dX5_init_56 : decode cX5_init 56 = .ok (.dup, 1) := by decide +kernel
theorem dX5_init_57 : decode cX5_init 57 = .ok (.iconst 3, 1) := by decide +kernel
theorem dX5_init_58 : decode cX5_init 58 = .ok (.iconst 1, 1) := by decide +kernel
theorem dX5_init_59 : decode cX5_init 59 = .ok (.iastore, 1) := by decide +kernel
theorem dX5_init_60 : decode cX5_init 60 = .ok (.dup, 1) := by decide +kernel
theorem dX5_init_61 : decode cX5_init 61 = .ok (.iconst 4, 1) := by decide +kernel
theorem dX5_init_62 : decode cX5_init 62 = .ok (.iconst 1, 1) := by decide +kernel
theorem dX5_init_63 : decode cX5_init 63 = .ok (.iastore, 1) := by decide +kernel
theorem dX5_init_64 : decode cX5_init 64 = .ok (.dup, 1) := by decide +kernel
theorem dX5_init_65 : decode cX5_init 65 = .ok (.iconst 5, 1) := by decide +kernel
theorem dX5_init_66 : decode cX5_init 66 = .ok (.iconst 1, 1) := by decide +kernel
theorem dX5_init_67 : decode cX5_init 67 = .ok (.iastore, 1) := by decide +kernel
theorem dX5_init_68 : decode cX5_init 68 = .ok (.dup, 1) := by decide +kernel
theorem dX5_init_69 : decode cX5_init 69 = .ok (.bipush 6, 2) := by decide +kernel
theorem dX5_init_71 : decode cX5_init 71 = .ok (.iconst 0, 1) := by decide +kernel
theorem dX5_init_72 : decode cX5_init 72 = .ok (.iastore, 1) := by decide +kernel
theorem dX5_init_73 : decode cX5_init 73 = .ok (.dup, 1) := by decide +kernel
theorem dX5_init_74 : decode cX5_init 74 = .ok (.bipush 7, 2) := by decide +kernel
theorem dX5_init_76 : decode cX5_init 76 = .ok (.iconst (-1), 1) := by decide +kernel
theorem dX5_init_77 : decode cX5_init 77 = .ok (.iastore, 1) := by decide +kernel
theorem dX5_init_78 : decode cX5_init 78 = .ok (.putfield 22, 3) := by decide +kernel
theorem dX5_init_81 : decode cX5_init 81 = .ok (.aload_n 0, 1) := by decide +kernel
theorem dX5_init_82 : decode cX5_init 82 = .ok (.bipush 8, 2) := by decide +kernel
theorem dX5_init_84 : decode cX5_init 84 = .ok (.newarray .int, 2) := by decide +kernel
theorem dX5_init_86 : decode cX5_init 86 = .ok (.dup, 1) := by decide +kernel
theorem dX5_init_87 : decode cX5_init 87 = .ok (.iconst 0, 1) := by decide +kernel
theorem dX5_init_88 : decode cX5_init 88 = .ok (.iconst 0, 1) := by decide +kernel
theorem dX5_init_89 : decode cX5_init 89 = .ok (.iastore, 1) := by decide +kernel
theorem dX5_init_90 : decode cX5_init 90 = .ok (.dup, 1) := by decide +kernel
theorem dX5_init_91 : decode cX5_init 91 = .ok (.iconst 1, 1) := by decide +kernel
theorem dX5_init_92 : decode cX5_init 92 = .ok (.iconst 1, 1) := by decide +kernel
theorem dX5_init_93 : decode cX5_init 93 = .ok (.iastore, 1) := by decide +kernel
theorem dX5_init_94 : decode cX5_init 94 = .ok (.dup, 1) := by decide +kernel
theorem dX5_init_95 : decode cX5_init 95 = .ok (.iconst 2, 1) := by decide +kernel
theorem dX5_init_96 : decode cX5_init 96 = .ok (.iconst 1, 1) := by decide +kernel
theorem dX5_init_97 : decode cX5_init 97 = .ok (.iastore, 1) := by decide +kernel
theorem dX5_init_98 : decode cX5_init 98 = .ok (.dup, 1) := by decide +kernel
theorem dX5_init_99 : decode cX5_init 99 = .ok (.iconst 3, 1) := by decide +kernel
theorem dX5_init_100 : decode cX5_init 100 = .ok (.iconst 1, 1) := by decide +kernel
theorem dX5_init_101 : decode cX5_init 101 = .ok (.iastore, 1) := by decide +kernel
theorem dX5_init_102 : decode cX5_init 102 = .ok (.dup, 1) := by decide +kernel
theorem dX5_init_103 : decode cX5_init 103 = .ok (.iconst 4, 1) := by decide +kernel
theorem dX5_init_104 : decode cX5_init 104 = .ok (.iconst 0, 1) := by decide +kernel
theorem dX5_init_105 : decode cX5_init 105 = .ok (.iastore, 1) := by decide +kernel
theorem dX5_init_106 : decode cX5_init 106 = .ok (.dup, 1) := by decide +kernel
theorem dX5_init_107 : decode cX5_init 107 = .ok (.iconst 5, 1) := by decide +kernel
theorem dX5_init_108 : decode cX5_init 108 = .ok (.iconst (-1), 1) := by decide +kernel
theorem dX5_init_109 : decode cX5_init 109 = .ok (.iastore, 1) := by decide +kernel
theorem dX5_init_110 : decode cX5_init 110 = .ok (.dup, 1) := by decide +kernel
theorem dX5_init_111 : decode cX5_init 111 = .ok (.bipush 6, 2) := by decide +kernel
theorem dX5_init_113 : decode cX5_init 113 = .ok (.iconst (-1), 1) := by decide +kernel
theorem dX5_init_114 : decode cX5_init 114 = .ok (.iastore, 1) := by decide +kernel
theorem dX5_init_115 : decode cX5_init 115 = .ok (.dup, 1) := by decide +kernel
theorem dX5_init_116 : decode cX5_init 116 = .ok (.bipush 7, 2) := by decide +kernel
theorem dX5_init_118 : decode cX5_init 118 = .ok (.iconst (-1), 1) := by decide +kernel
theorem dX5_init_119 : decode cX5_init 119 = .ok (.iastore, 1) := by decide +kernel
theorem dX5_init_120 : decode cX5_init 120 = .ok (.putfield 25, 3) := by decide +kernel
theorem dX5_init_123 : decode cX5_init 123 = .ok (.aload_n 0, 1) := by decide +kernel
theorem dX5_init_124 : decode cX5_init 124 = .ok (.bipush 120, 2) := by decide +kernel
theorem dX5_init_126 : decode cX5_init 126 = .ok (.newarray .int, 2) := by decide +kernel
theorem dX5_init_128 : decode cX5_init 128 = .ok (.putfield 28, 3) := by decide +kernel
theorem dX5_init_131 : decode cX5_init 131 = .ok (.aload_n 0, 1) := by decide +kernel
theorem dX5_init_132 : decode cX5_init 132 = .ok (.bipush 7, 2) := by decide +kernel
theorem dX5_init_134 : decode cX5_init 134 = .ok (.anewarray 31, 3) := by decide +kernel
theorem dX5_init_137 : decode cX5_init 137 = .ok (.dup, 1) := by decide +kernel
theorem dX5_init_138 : decode cX5_init 138 = .ok (.iconst 0, 1) := by decide +kernel
theorem dX5_init_139 : decode cX5_init 139 = .ok (.ldc 33, 2) := by decide +kernel
theorem dX5_init_141 : decode cX5_init 141 = .ok (.aastore, 1) := by decide +kernel
theorem dX5_init_142 : decode cX5_init 142 = .ok (.dup, 1) := by decide +kernel
theorem dX5_init_143 : decode cX5_init 143 = .ok (.iconst 1, 1) := by decide +kernel
theorem dX5_init_144 : decode cX5_init 144 = .ok (.ldc 35, 2) := by decide +kernel
theorem dX5_init_146 : decode cX5_init 146 = .ok (.aastore, 1) := by decide +kernel
theorem dX5_init_147 : decode cX5_init 147 = .ok (.dup, 1) := by decide +kernel
theorem dX5_init_148 : decode cX5_init 148 = .ok (.iconst 2, 1) := by decide +kernel
theorem dX5_init_149 : decode cX5_init 149 = .ok (.ldc 37, 2) := by decide +kernel
theorem dX5_init_151 : decode cX5_init 151 = .ok (.aastore, 1) := by decide +kernel
theorem dX5_init_152 : decode cX5_init 152 = .ok (.dup, 1) := by decide +kernel
theorem dX5_init_153 : decode cX5_init 153 = .ok (.iconst 3, 1) := by decide +kernel
theorem dX5_init_154 : decode cX5_init 154 = .ok (.ldc 39, 2) := by decide +kernel
theorem dX5_init_156 : decode cX5_init 156 = .ok (.aastore, 1) := by decide +kernel
theorem dX5_init_157 : decode cX5_init 157 = .ok (.dup, 1) := by decide +kernel
theorem dX5_init_158 : decode cX5_init 158 = .ok (.iconst 4, 1) := by decide +kernel
theorem dX5_init_159 : decode cX5_init 159 = .ok (.ldc 41, 2) := by decide +kernel
theorem dX5_init_161 : decode cX5_init 161 = .ok (.aastore, 1) := by decide +kernel
theorem dX5_init_162 : decode cX5_init 162 = .ok (.dup, 1) := by decide +kernel
theorem dX5_init_163 : decode cX5_init 163 = .ok (.iconst 5, 1) := by decide +kernel
theorem dX5_init_164 : decode cX5_init 164 = .ok (.ldc 43, 2) := by decide +kernel
theorem dX5_init_166 : decode cX5_init 166 = .ok (.aastore, 1) := by decide +kernel
theorem dX5_init_167 : decode cX5_init 167 = .ok (.dup, 1) := by decide +kernel
theorem dX5_init_168 : decode cX5_init 168 = .ok (.bipush 6, 2) := by decide +kernel
theorem dX5_init_170 : decode cX5_init 170 = .ok (.ldc 45, 2) := by decide +kernel
theorem dX5_init_172 : decode cX5_init 172 = .ok (.aastore, 1) := by decide +kernel
theorem dX5_init_173 : decode cX5_init 173 = .ok (.putfield 47, 3) := by decide +kernel
theorem dX5_init_176 : decode cX5_init 176 = .ok (.aload_n 0, 1) := by decide +kernel
theorem dX5_init_177 : decode cX5_init 177 = .ok (.sipush 360, 3) := by decide +kernel
theorem dX5_init_180 : decode cX5_init 180 = .ok (.newarray .int, 2) := by decide +kernel
theorem dX5_init_182 : decode cX5_init 182 = .ok (.putfield 51, 3) := by decide +kernel
theorem dX5_init_185 : decode cX5_init 185 = .ok (.aload_n 0, 1) := by decide +kernel
theorem dX5_init_186 : decode cX5_init 186 = .ok (.iconst 4, 1) := by decide +kernel
theorem dX5_init_187 : decode cX5_init 187 = .ok (.newarray .int, 2) := by decide +kernel
theorem dX5_init_189 : decode cX5_init 189 = .ok (.putfield 54, 3) := by decide +kernel
theorem dX5_init_192 : decode cX5_init 192 = .ok (.aload_n 0, 1) := by decide +kernel
theorem dX5_init_193 : decode cX5_init 193 = .ok (.iconst 4, 1) := by decide +kernel
theorem dX5_init_194 : decode cX5_init 194 = .ok (.newarray .int, 2) := by decide +kernel
theorem dX5_init_196 : decode cX5_init 196 = .ok (.putfield 57, 3) := by decide +kernel
theorem dX5_init_199 : decode cX5_init 199 = .ok (.aload_n 0, 1) := by decide +kernel
theorem dX5_init_200 : decode cX5_init 200 = .ok (.sipush 160, 3) := by decide +kernel
theorem dX5_init_203 : decode cX5_init 203 = .ok (.newarray .int, 2) := by decide +kernel
theorem dX5_init_205 : decode cX5_init 205 = .ok (.putfield 60, 3) := by decide +kernel
theorem dX5_init_208 : decode cX5_init 208 = .ok (.aload_n 0, 1) := by decide +kernel
theorem dX5_init_209 : decode cX5_init 209 = .ok (.bipush 40, 2) := by decide +kernel
theorem dX5_init_211 : decode cX5_init 211 = .ok (.newarray .int, 2) := by decide +kernel
theorem dX5_init_213 : decode cX5_init 213 = .ok (.putfield 63, 3) := by decide +kernel
theorem dX5_init_216 : decode cX5_init 216 = .ok (.aload_n 0, 1) := by decide +kernel
theorem dX5_init_217 : decode cX5_init 217 = .ok (.getfield 9, 3) := by decide +kernel
theorem dX5_init_220 : decode cX5_init 220 = .ok (.iconst 1, 1) := by decide +kernel
theorem dX5_init_221 : decode cX5_init 221 = .ok (.bipush 100, 2) := by decide +kernel
theorem dX5_init_223 : decode cX5_init 223 = .ok (.iastore, 1) := by decide +kernel
theorem dX5_init_224 : decode cX5_init 224 = .ok (.aload_n 0, 1) := by decide +kernel
theorem dX5_init_225 : decode cX5_init 225 = .ok (.getfield 9, 3) := by decide +kernel
theorem dX5_init_228 : decode cX5_init 228 = .ok (.iconst 5, 1) := by decide +kernel
theorem dX5_init_229 : decode cX5_init 229 = .ok (.iconst 1, 1) := by decide +kernel
theorem dX5_init_230 : decode cX5_init 230 = .ok (.iastore, 1) := by decide +kernel
theorem dX5_init_231 : decode cX5_init 231 = .ok (.iconst 0, 1) := by decide +kernel
theorem dX5_init_232 : decode cX5_init 232 = .ok (.istore_n 1, 1) := by decide +kernel
theorem dX5_init_233 : decode cX5_init 233 = .ok (.iload_n 1, 1) := by decide +kernel
theorem dX5_init_234 : decode cX5_init 234 = .ok (.bipush 10, 2) := by decide +kernel
theorem dX5_init_236 : decode cX5_init 236 = .ok (.if_icmp .ge 19, 3) := by decide +kernel
theorem dX5_init_239 : decode cX5_init 239 = .ok (.aload_n 0, 1) := by decide +kernel
theorem dX5_init_240 : decode cX5_init 240 = .ok (.getfield 9, 3) := by decide +kernel
theorem dX5_init_243 : decode cX5_init 243 = .ok (.bipush 6, 2) := by decide +kernel
theorem dX5_init_245 : decode cX5_init 245 = .ok (.iload_n 1, 1) := by decide +kernel
theorem dX5_init_246 : decode cX5_init 246 = .ok (.iadd, 1) := by decide +kernel
theorem dX5_init_247 : decode cX5_init 247 = .ok (.iconst (-1), 1) := by decide +kernel
theorem dX5_init_248 : decode cX5_init 248 = .ok (.iastore, 1) := by decide +kernel
theorem dX5_init_249 : decode cX5_init 249 = .ok (.iinc 1 1, 3) := by decide +kernel
theorem dX5_init_252 : decode cX5_init 252 = .ok (.goto (-19), 3) := by decide +kernel
theorem dX5_init_255 : decode cX5_init 255 = .ok (.return_, 1) := by decide +kernel
theorem dX5_finding_0 : decode cX5_finding 0 = .ok (.aload_n 0, 1) := by decide +kernel
theorem dX5_finding_1 : decode cX5_finding 1 = .ok (.getfield 19, 3) := by decide +kernel
theorem dX5_finding_4 : decode cX5_finding 4 = .ok (.ldc 66, 2) := by decide +kernel
theorem dX5_finding_6 : decode cX5_finding 6 = .ok (.iload_n 1, 1) := by decide +kernel
theorem dX5_finding_7 : decode cX5_finding 7 = .ok (.isub, 1) := by decide +kernel
theorem dX5_finding_8 : decode cX5_finding 8 = .ok (.iconst 1, 1) := by decide +kernel
theorem dX5_finding_9 : decode cX5_finding 9 = .ok (.iadd, 1) := by decide +kernel
theorem dX5_finding_10 : decode cX5_finding 10 = .ok (.dup2, 1) := by decide +kernel
theorem dX5_finding_11 : decode cX5_finding 11 = .ok (.iaload, 1) := by decide +kernel
theorem dX5_finding_12 : decode cX5_finding 12 = .ok (.iconst 1, 1) := by decide +kernel
theorem dX5_finding_13 : decode cX5_finding 13 = .ok (.iadd, 1) := by decide +kernel
theorem dX5_finding_14 : decode cX5_finding 14 = .ok (.iastore, 1) := by decide +kernel
theorem dX5_finding_15 : decode cX5_finding 15 = .ok (.aload_n 0, 1) := by decide +kernel
theorem dX5_finding_16 : decode cX5_finding 16 = .ok (.getfield 19, 3) := by decide +kernel
theorem dX5_finding_19 : decode cX5_finding 19 = .ok (.iconst 0, 1) := by decide +kernel
theorem dX5_finding_20 : decode cX5_finding 20 = .ok (.dup2, 1) := by decide +kernel
theorem dX5_finding_21 : decode cX5_finding 21 = .ok (.iaload, 1) := by decide +kernel
theorem dX5_finding_22 : decode cX5_finding 22 = .ok (.iconst 1, 1) := by decide +kernel
theorem dX5_finding_23 : decode cX5_finding 23 = .ok (.iadd, 1) := by decide +kernel
theorem dX5_finding_24 : decode cX5_finding 24 = .ok (.iastore, 1) := by decide +kernel
theorem dX5_finding_25 : decode cX5_finding 25 = .ok (.iload_n 1, 1) := by decide +kernel
theorem dX5_finding_26 : decode cX5_finding 26 = .ok (.ireturn, 1) := by decide +kernel
theorem dX5_within_0 : decode cX5_within 0 = .ok (.iload_n 0, 1) := by decide +kernel
theorem dX5_within_1 : decode cX5_within 1 = .ok (.iload_n 1, 1) := by decide +kernel
theorem dX5_within_2 : decode cX5_within 2 = .ok (.if_icmp .lt 12, 3) := by decide +kernel
theorem dX5_within_5 : decode cX5_within 5 = .ok (.iload_n 0, 1) := by decide +kernel
theorem dX5_within_6 : decode cX5_within 6 = .ok (.iload_n 2, 1) := by decide +kernel
theorem dX5_within_7 : decode cX5_within 7 = .ok (.if_icmp .gt 7, 3) := by decide +kernel
theorem dX5_within_10 : decode cX5_within 10 = .ok (.iconst 1, 1) := by decide +kernel
theorem dX5_within_11 : decode cX5_within 11 = .ok (.goto 4, 3) := by decide +kernel
theorem dX5_within_14 : decode cX5_within 14 = .ok (.iconst 0, 1) := by decide +kernel
theorem dX5_within_15 : decode cX5_within 15 = .ok (.ireturn, 1) := by decide +kernel
theorem dX5_become_0 : decode cX5_become 0 = .ok (.aload_n 0, 1) := by decide +kernel
theorem dX5_become_1 : decode cX5_become 1 = .ok (.getfield 9, 3) := by decide +kernel
theorem dX5_become_4 : decode cX5_become 4 = .ok (.iload_n 1, 1) := by decide +kernel
theorem dX5_become_5 : decode cX5_become 5 = .ok (.iaload, 1) := by decide +kernel
theorem dX5_become_6 : decode cX5_become 6 = .ok (.istore_n 3, 1) := by decide +kernel
theorem dX5_become_7 : decode cX5_become 7 = .ok (.aload_n 0, 1) := by decide +kernel
theorem dX5_become_8 : decode cX5_become 8 = .ok (.getfield 9, 3) := by decide +kernel
theorem dX5_become_11 : decode cX5_become 11 = .ok (.iload_n 1, 1) := by decide +kernel
theorem dX5_become_12 : decode cX5_become 12 = .ok (.iload_n 2, 1) := by decide +kernel
theorem dX5_become_13 : decode cX5_become 13 = .ok (.iastore, 1) := by decide +kernel
theorem dX5_become_14 : decode cX5_become 14 = .ok (.iload_n 3, 1) := by decide +kernel
theorem dX5_become_15 : decode cX5_become 15 = .ok (.ireturn, 1) := by decide +kernel
theorem dX5_copyRow_0 : decode cX5_copyRow 0 = .ok (.iconst 0, 1) := by decide +kernel
theorem dX5_copyRow_1 : decode cX5_copyRow 1 = .ok (.istore_n 2, 1) := by decide +kernel
theorem dX5_copyRow_2 : decode cX5_copyRow 2 = .ok (.iload_n 2, 1) := by decide +kernel
theorem dX5_copyRow_3 : decode cX5_copyRow 3 = .ok (.sipush 152, 3) := by decide +kernel
theorem dX5_copyRow_6 : decode cX5_copyRow 6 = .ok (.if_icmp .ge 15, 3) := by decide +kernel
theorem dX5_copyRow_9 : decode cX5_copyRow 9 = .ok (.aload_n 1, 1) := by decide +kernel
theorem dX5_copyRow_10 : decode cX5_copyRow 10 = .ok (.iload_n 2, 1) := by decide +kernel
theorem dX5_copyRow_11 : decode cX5_copyRow 11 = .ok (.aload_n 0, 1) := by decide +kernel
theorem dX5_copyRow_12 : decode cX5_copyRow 12 = .ok (.iload_n 2, 1) := by decide +kernel
theorem dX5_copyRow_13 : decode cX5_copyRow 13 = .ok (.iaload, 1) := by decide +kernel
theorem dX5_copyRow_14 : decode cX5_copyRow 14 = .ok (.iastore, 1) := by decide +kernel
theorem dX5_copyRow_15 : decode cX5_copyRow 15 = .ok (.iinc 2 1, 3) := by decide +kernel
theorem dX5_copyRow_18 : decode cX5_copyRow 18 = .ok (.goto (-16), 3) := by decide +kernel
theorem dX5_copyRow_21 : decode cX5_copyRow 21 = .ok (.return_, 1) := by decide +kernel
theorem dX5_putBack_0 : decode cX5_putBack 0 = .ok (.aload_n 0, 1) := by decide +kernel
theorem dX5_putBack_1 : decode cX5_putBack 1 = .ok (.getfield 16, 3) := by decide +kernel
theorem dX5_putBack_4 : decode cX5_putBack 4 = .ok (.aload_n 0, 1) := by decide +kernel
theorem dX5_putBack_5 : decode cX5_putBack 5 = .ok (.getfield 9, 3) := by decide +kernel
theorem dX5_putBack_8 : decode cX5_putBack 8 = .ok (.invokestatic 67, 3) := by decide +kernel
theorem dX5_putBack_11 : decode cX5_putBack 11 = .ok (.iload_n 1, 1) := by decide +kernel
theorem dX5_putBack_12 : decode cX5_putBack 12 = .ok (.ireturn, 1) := by decide +kernel
theorem dX5_has_0 : decode cX5_has 0 = .ok (.iload_n 0, 1) := by decide +kernel
theorem dX5_has_1 : decode cX5_has 1 = .ok (.iload_n 1, 1) := by decide +kernel
theorem dX5_has_2 : decode cX5_has 2 = .ok (.ishr, 1) := by decide +kernel
theorem dX5_has_3 : decode cX5_has 3 = .ok (.iconst 1, 1) := by decide +kernel
theorem dX5_has_4 : decode cX5_has 4 = .ok (.iand, 1) := by decide +kernel
theorem dX5_has_5 : decode cX5_has 5 = .ok (.iconst 1, 1) := by decide +kernel
theorem dX5_has_6 : decode cX5_has 6 = .ok (.if_icmp .ne 7, 3) := by decide +kernel
theorem dX5_has_9 : decode cX5_has 9 = .ok (.iconst 1, 1) := by decide +kernel
theorem dX5_has_10 : decode cX5_has 10 = .ok (.goto 4, 3) := by decide +kernel
theorem dX5_has_13 : decode cX5_has 13 = .ok (.iconst 0, 1) := by decide +kernel
theorem dX5_has_14 : decode cX5_has 14 = .ok (.ireturn, 1) := by decide +kernel
theorem dX5_bits_0 : decode cX5_bits 0 = .ok (.iconst 0, 1) := by decide +kernel
theorem dX5_bits_1 : decode cX5_bits 1 = .ok (.istore_n 1, 1) := by decide +kernel
theorem dX5_bits_2 : decode cX5_bits 2 = .ok (.iload_n 0, 1) := by decide +kernel
theorem dX5_bits_3 : decode cX5_bits 3 = .ok (.istore_n 2, 1) := by decide +kernel
theorem dX5_bits_4 : decode cX5_bits 4 = .ok (.iload_n 2, 1) := by decide +kernel
theorem dX5_bits_5 : decode cX5_bits 5 = .ok (.ifCond .eq 15, 3) := by decide +kernel
theorem dX5_bits_8 : decode cX5_bits 8 = .ok (.iinc 1 1, 3) := by decide +kernel
theorem dX5_bits_11 : decode cX5_bits 11 = .ok (.iload_n 2, 1) := by decide +kernel
theorem dX5_bits_12 : decode cX5_bits 12 = .ok (.iload_n 2, 1) := by decide +kernel
theorem dX5_bits_13 : decode cX5_bits 13 = .ok (.iconst 1, 1) := by decide +kernel
theorem dX5_bits_14 : decode cX5_bits 14 = .ok (.isub, 1) := by decide +kernel
theorem dX5_bits_15 : decode cX5_bits 15 = .ok (.iand, 1) := by decide +kernel
theorem dX5_bits_16 : decode cX5_bits 16 = .ok (.istore_n 2, 1) := by decide +kernel
theorem dX5_bits_17 : decode cX5_bits 17 = .ok (.goto (-13), 3) := by decide +kernel
theorem dX5_bits_20 : decode cX5_bits 20 = .ok (.iload_n 1, 1) := by decide +kernel
theorem dX5_bits_21 : decode cX5_bits 21 = .ok (.ireturn, 1) := by decide +kernel
theorem dX5_isCat_0 : decode cX5_isCat 0 = .ok (.iload_n 1, 1) := by decide +kernel
theorem dX5_isCat_1 : decode cX5_isCat 1 = .ok (.iconst 0, 1) := by decide +kernel
theorem dX5_isCat_2 : decode cX5_isCat 2 = .ok (.aload_n 0, 1) := by decide +kernel
theorem dX5_isCat_3 : decode cX5_isCat 3 = .ok (.getfield 9, 3) := by decide +kernel
theorem dX5_isCat_6 : decode cX5_isCat 6 = .ok (.iconst 4, 1) := by decide +kernel
theorem dX5_isCat_7 : decode cX5_isCat 7 = .ok (.iaload, 1) := by decide +kernel
theorem dX5_isCat_8 : decode cX5_isCat 8 = .ok (.iconst 1, 1) := by decide +kernel
theorem dX5_isCat_9 : decode cX5_isCat 9 = .ok (.isub, 1) := by decide +kernel
theorem dX5_isCat_10 : decode cX5_isCat 10 = .ok (.invokestatic 71, 3) := by decide +kernel
theorem dX5_isCat_13 : decode cX5_isCat 13 = .ok (.ireturn, 1) := by decide +kernel
theorem dX5_isShip_0 : decode cX5_isShip 0 = .ok (.iload_n 0, 1) := by decide +kernel
theorem dX5_isShip_1 : decode cX5_isShip 1 = .ok (.iconst 0, 1) := by decide +kernel
theorem dX5_isShip_2 : decode cX5_isShip 2 = .ok (.iconst 3, 1) := by decide +kernel
theorem dX5_isShip_3 : decode cX5_isShip 3 = .ok (.invokestatic 71, 3) := by decide +kernel
theorem dX5_isShip_6 : decode cX5_isShip 6 = .ok (.ireturn, 1) := by decide +kernel
theorem dX5_isCell_0 : decode cX5_isCell 0 = .ok (.iload_n 0, 1) := by decide +kernel
theorem dX5_isCell_1 : decode cX5_isCell 1 = .ok (.iconst 0, 1) := by decide +kernel
theorem dX5_isCell_2 : decode cX5_isCell 2 = .ok (.bipush 99, 2) := by decide +kernel
theorem dX5_isCell_4 : decode cX5_isCell 4 = .ok (.invokestatic 71, 3) := by decide +kernel
theorem dX5_isCell_7 : decode cX5_isCell 7 = .ok (.ireturn, 1) := by decide +kernel
theorem dX5_isKind_0 : decode cX5_isKind 0 = .ok (.iload_n 0, 1) := by decide +kernel
theorem dX5_isKind_1 : decode cX5_isKind 1 = .ok (.iconst 0, 1) := by decide +kernel
theorem dX5_isKind_2 : decode cX5_isKind 2 = .ok (.bipush 6, 2) := by decide +kernel
theorem dX5_isKind_4 : decode cX5_isKind 4 = .ok (.invokestatic 71, 3) := by decide +kernel
theorem dX5_isKind_7 : decode cX5_isKind 7 = .ok (.ireturn, 1) := by decide +kernel
theorem dX5_areCats_0 : decode cX5_areCats 0 = .ok (.iload_n 1, 1) := by decide +kernel
theorem dX5_areCats_1 : decode cX5_areCats 1 = .ok (.iconst 0, 1) := by decide +kernel
theorem dX5_areCats_2 : decode cX5_areCats 2 = .ok (.iconst 1, 1) := by decide +kernel
theorem dX5_areCats_3 : decode cX5_areCats 3 = .ok (.aload_n 0, 1) := by decide +kernel
theorem dX5_areCats_4 : decode cX5_areCats 4 = .ok (.getfield 9, 3) := by decide +kernel
theorem dX5_areCats_7 : decode cX5_areCats 7 = .ok (.iconst 4, 1) := by decide +kernel
theorem dX5_areCats_8 : decode cX5_areCats 8 = .ok (.iaload, 1) := by decide +kernel
theorem dX5_areCats_9 : decode cX5_areCats 9 = .ok (.ishl, 1) := by decide +kernel
theorem dX5_areCats_10 : decode cX5_areCats 10 = .ok (.iconst 1, 1) := by decide +kernel
theorem dX5_areCats_11 : decode cX5_areCats 11 = .ok (.isub, 1) := by decide +kernel
theorem dX5_areCats_12 : decode cX5_areCats 12 = .ok (.invokestatic 71, 3) := by decide +kernel
theorem dX5_areCats_15 : decode cX5_areCats 15 = .ok (.ireturn, 1) := by decide +kernel
theorem dX5_at_0 : decode cX5_at 0 = .ok (.sipush 128, 3) := by decide +kernel
theorem dX5_at_3 : decode cX5_at 3 = .ok (.iconst 3, 1) := by decide +kernel
theorem dX5_at_4 : decode cX5_at 4 = .ok (.iload_n 0, 1) := by decide +kernel
theorem dX5_at_5 : decode cX5_at 5 = .ok (.imul, 1) := by decide +kernel
theorem dX5_at_6 : decode cX5_at 6 = .ok (.iadd, 1) := by decide +kernel
theorem dX5_at_7 : decode cX5_at 7 = .ok (.iload_n 1, 1) := by decide +kernel
theorem dX5_at_8 : decode cX5_at 8 = .ok (.iadd, 1) := by decide +kernel
theorem dX5_at_9 : decode cX5_at 9 = .ok (.ireturn, 1) := by decide +kernel
theorem dX5_catIs_0 : decode cX5_catIs 0 = .ok (.aload_n 0, 1) := by decide +kernel
theorem dX5_catIs_1 : decode cX5_catIs 1 = .ok (.getfield 9, 3) := by decide +kernel
theorem dX5_catIs_4 : decode cX5_catIs 4 = .ok (.iload_n 1, 1) := by decide +kernel
theorem dX5_catIs_5 : decode cX5_catIs 5 = .ok (.iload_n 2, 1) := by decide +kernel
theorem dX5_catIs_6 : decode cX5_catIs 6 = .ok (.invokestatic 75, 3) := by decide +kernel
theorem dX5_catIs_9 : decode cX5_catIs 9 = .ok (.iaload, 1) := by decide +kernel
theorem dX5_catIs_10 : decode cX5_catIs 10 = .ok (.ireturn, 1) := by decide +kernel
theorem dX5_atShip_0 : decode cX5_atShip 0 = .ok (.bipush 116, 2) := by decide +kernel
theorem dX5_atShip_2 : decode cX5_atShip 2 = .ok (.iconst 3, 1) := by decide +kernel
theorem dX5_atShip_3 : decode cX5_atShip 3 = .ok (.iload_n 0, 1) := by decide +kernel
theorem dX5_atShip_4 : decode cX5_atShip 4 = .ok (.imul, 1) := by decide +kernel
theorem dX5_atShip_5 : decode cX5_atShip 5 = .ok (.iadd, 1) := by decide +kernel
theorem dX5_atShip_6 : decode cX5_atShip 6 = .ok (.iload_n 1, 1) := by decide +kernel
theorem dX5_atShip_7 : decode cX5_atShip 7 = .ok (.iadd, 1) := by decide +kernel
theorem dX5_atShip_8 : decode cX5_atShip 8 = .ok (.ireturn, 1) := by decide +kernel
theorem dX5_shipIs_0 : decode cX5_shipIs 0 = .ok (.aload_n 0, 1) := by decide +kernel
theorem dX5_shipIs_1 : decode cX5_shipIs 1 = .ok (.getfield 9, 3) := by decide +kernel
theorem dX5_shipIs_4 : decode cX5_shipIs 4 = .ok (.iload_n 1, 1) := by decide +kernel
theorem dX5_shipIs_5 : decode cX5_shipIs 5 = .ok (.iload_n 2, 1) := by decide +kernel
theorem dX5_shipIs_6 : decode cX5_shipIs 6 = .ok (.invokestatic 79, 3) := by decide +kernel
theorem dX5_shipIs_9 : decode cX5_shipIs 9 = .ok (.iaload, 1) := by decide +kernel
theorem dX5_shipIs_10 : decode cX5_shipIs 10 = .ok (.ireturn, 1) := by decide +kernel
theorem dX5_comes_0 : decode cX5_comes 0 = .ok (.aload_n 0, 1) := by decide +kernel
theorem dX5_comes_1 : decode cX5_comes 1 = .ok (.getfield 9, 3) := by decide +kernel
theorem dX5_comes_4 : decode cX5_comes 4 = .ok (.iconst 4, 1) := by decide +kernel
theorem dX5_comes_5 : decode cX5_comes 5 = .ok (.iaload, 1) := by decide +kernel
theorem dX5_comes_6 : decode cX5_comes 6 = .ok (.istore 4, 2) := by decide +kernel
theorem dX5_comes_8 : decode cX5_comes 8 = .ok (.aload_n 0, 1) := by decide +kernel
theorem dX5_comes_9 : decode cX5_comes 9 = .ok (.getfield 9, 3) := by decide +kernel
theorem dX5_comes_12 : decode cX5_comes 12 = .ok (.iload 4, 2) := by decide +kernel
theorem dX5_comes_14 : decode cX5_comes 14 = .ok (.iconst 0, 1) := by decide +kernel
theorem dX5_comes_15 : decode cX5_comes 15 = .ok (.invokestatic 75, 3) := by decide +kernel
theorem dX5_comes_18 : decode cX5_comes 18 = .ok (.iload_n 1, 1) := by decide +kernel
theorem dX5_comes_19 : decode cX5_comes 19 = .ok (.iastore, 1) := by decide +kernel
theorem dX5_comes_20 : decode cX5_comes 20 = .ok (.aload_n 0, 1) := by decide +kernel
theorem dX5_comes_21 : decode cX5_comes 21 = .ok (.getfield 9, 3) := by decide +kernel
theorem dX5_comes_24 : decode cX5_comes 24 = .ok (.iload 4, 2) := by decide +kernel
theorem dX5_comes_26 : decode cX5_comes 26 = .ok (.iconst 1, 1) := by decide +kernel
theorem dX5_comes_27 : decode cX5_comes 27 = .ok (.invokestatic 75, 3) := by decide +kernel
theorem dX5_comes_30 : decode cX5_comes 30 = .ok (.iload_n 2, 1) := by decide +kernel
theorem dX5_comes_31 : decode cX5_comes 31 = .ok (.iastore, 1) := by decide +kernel
theorem dX5_comes_32 : decode cX5_comes 32 = .ok (.aload_n 0, 1) := by decide +kernel
theorem dX5_comes_33 : decode cX5_comes 33 = .ok (.getfield 9, 3) := by decide +kernel
theorem dX5_comes_36 : decode cX5_comes 36 = .ok (.iload 4, 2) := by decide +kernel
theorem dX5_comes_38 : decode cX5_comes 38 = .ok (.iconst 2, 1) := by decide +kernel
theorem dX5_comes_39 : decode cX5_comes 39 = .ok (.invokestatic 75, 3) := by decide +kernel
theorem dX5_comes_42 : decode cX5_comes 42 = .ok (.iload_n 3, 1) := by decide +kernel
theorem dX5_comes_43 : decode cX5_comes 43 = .ok (.iastore, 1) := by decide +kernel
theorem dX5_comes_44 : decode cX5_comes 44 = .ok (.aload_n 0, 1) := by decide +kernel
theorem dX5_comes_45 : decode cX5_comes 45 = .ok (.getfield 9, 3) := by decide +kernel
theorem dX5_comes_48 : decode cX5_comes 48 = .ok (.iconst 4, 1) := by decide +kernel
theorem dX5_comes_49 : decode cX5_comes 49 = .ok (.dup2, 1) := by decide +kernel
theorem dX5_comes_50 : decode cX5_comes 50 = .ok (.iaload, 1) := by decide +kernel
theorem dX5_comes_51 : decode cX5_comes 51 = .ok (.iconst 1, 1) := by decide +kernel
theorem dX5_comes_52 : decode cX5_comes 52 = .ok (.iadd, 1) := by decide +kernel
theorem dX5_comes_53 : decode cX5_comes 53 = .ok (.iastore, 1) := by decide +kernel
theorem dX5_comes_54 : decode cX5_comes 54 = .ok (.iload 4, 2) := by decide +kernel
theorem dX5_comes_56 : decode cX5_comes 56 = .ok (.ireturn, 1) := by decide +kernel
theorem dX5_cat_0 : decode cX5_cat 0 = .ok (.iload_n 1, 1) := by decide +kernel
theorem dX5_cat_1 : decode cX5_cat 1 = .ok (.invokestatic 82, 3) := by decide +kernel
theorem dX5_cat_4 : decode cX5_cat 4 = .ok (.ifCond .ne 10, 3) := by decide +kernel
theorem dX5_cat_7 : decode cX5_cat 7 = .ok (.aload_n 0, 1) := by decide +kernel
theorem dX5_cat_8 : decode cX5_cat 8 = .ok (.ldc 66, 2) := by decide +kernel
theorem dX5_cat_10 : decode cX5_cat 10 = .ok (.invokevirtual 86, 3) := by decide +kernel
theorem dX5_cat_13 : decode cX5_cat 13 = .ok (.ireturn, 1) := by decide +kernel
theorem dX5_cat_14 : decode cX5_cat 14 = .ok (.aload_n 0, 1) := by decide +kernel
theorem dX5_cat_15 : decode cX5_cat 15 = .ok (.getfield 9, 3) := by decide +kernel
theorem dX5_cat_18 : decode cX5_cat 18 = .ok (.iconst 4, 1) := by decide +kernel
theorem dX5_cat_19 : decode cX5_cat 19 = .ok (.iaload, 1) := by decide +kernel
theorem dX5_cat_20 : decode cX5_cat 20 = .ok (.bipush 8, 2) := by decide +kernel
theorem dX5_cat_22 : decode cX5_cat 22 = .ok (.if_icmp .ne 12, 3) := by decide +kernel
theorem dX5_cat_25 : decode cX5_cat 25 = .ok (.aload_n 0, 1) := by decide +kernel
theorem dX5_cat_26 : decode cX5_cat 26 = .ok (.ldc 90, 2) := by decide +kernel
theorem dX5_cat_28 : decode cX5_cat 28 = .ok (.invokevirtual 86, 3) := by decide +kernel
theorem dX5_cat_31 : decode cX5_cat 31 = .ok (.goto 10, 3) := by decide +kernel
theorem dX5_cat_34 : decode cX5_cat 34 = .ok (.aload_n 0, 1) := by decide +kernel
theorem dX5_cat_35 : decode cX5_cat 35 = .ok (.iload_n 1, 1) := by decide +kernel
theorem dX5_cat_36 : decode cX5_cat 36 = .ok (.iconst 0, 1) := by decide +kernel
theorem dX5_cat_37 : decode cX5_cat 37 = .ok (.iconst 0, 1) := by decide +kernel
theorem dX5_cat_38 : decode cX5_cat 38 = .ok (.invokevirtual 91, 3) := by decide +kernel
theorem dX5_cat_41 : decode cX5_cat 41 = .ok (.ireturn, 1) := by decide +kernel
theorem dX5_above_0 : decode cX5_above 0 = .ok (.iload_n 0, 1) := by decide +kernel
theorem dX5_above_1 : decode cX5_above 1 = .ok (.ifCond .ne 7, 3) := by decide +kernel
theorem dX5_above_4 : decode cX5_above 4 = .ok (.iconst (-1), 1) := by decide +kernel
theorem dX5_above_5 : decode cX5_above 5 = .ok (.goto 32, 3) := by decide +kernel
theorem dX5_above_8 : decode cX5_above 8 = .ok (.iload_n 0, 1) := by decide +kernel
theorem dX5_above_9 : decode cX5_above 9 = .ok (.iconst 3, 1) := by decide +kernel
theorem dX5_above_10 : decode cX5_above 10 = .ok (.if_icmp .ne 7, 3) := by decide +kernel
theorem dX5_above_13 : decode cX5_above 13 = .ok (.iconst 1, 1) := by decide +kernel
theorem dX5_above_14 : decode cX5_above 14 = .ok (.goto 23, 3) := by decide +kernel
theorem dX5_above_17 : decode cX5_above 17 = .ok (.iload_n 0, 1) := by decide +kernel
theorem dX5_above_18 : decode cX5_above 18 = .ok (.iconst 4, 1) := by decide +kernel
theorem dX5_above_19 : decode cX5_above 19 = .ok (.if_icmp .ne 7, 3) := by decide +kernel
theorem dX5_above_22 : decode cX5_above 22 = .ok (.iconst 3, 1) := by decide +kernel
theorem dX5_above_23 : decode cX5_above 23 = .ok (.goto 14, 3) := by decide +kernel
theorem dX5_above_26 : decode cX5_above 26 = .ok (.iload_n 0, 1) := by decide +kernel
theorem dX5_above_27 : decode cX5_above 27 = .ok (.bipush 6, 2) := by decide +kernel
theorem dX5_above_29 : decode cX5_above 29 = .ok (.if_icmp .ne 7, 3) := by decide +kernel
theorem dX5_above_32 : decode cX5_above 32 = .ok (.iconst 2, 1) := by decide +kernel
theorem dX5_above_33 : decode cX5_above 33 = .ok (.goto 4, 3) := by decide +kernel
theorem dX5_above_36 : decode cX5_above 36 = .ok (.iconst 0, 1) := by decide +kernel
theorem dX5_above_37 : decode cX5_above 37 = .ok (.ireturn, 1) := by decide +kernel
theorem dX5_isUnder_0 : decode cX5_isUnder 0 = .ok (.iload_n 0, 1) := by decide +kernel
theorem dX5_isUnder_1 : decode cX5_isUnder 1 = .ok (.istore_n 2, 1) := by decide +kernel
theorem dX5_isUnder_2 : decode cX5_isUnder 2 = .ok (.iload_n 2, 1) := by decide +kernel
theorem dX5_isUnder_3 : decode cX5_isUnder 3 = .ok (.ifCond .lt 16, 3) := by decide +kernel
theorem dX5_isUnder_6 : decode cX5_isUnder 6 = .ok (.iload_n 2, 1) := by decide +kernel
theorem dX5_isUnder_7 : decode cX5_isUnder 7 = .ok (.iload_n 1, 1) := by decide +kernel
theorem dX5_isUnder_8 : decode cX5_isUnder 8 = .ok (.if_icmp .eq 11, 3) := by decide +kernel
theorem dX5_isUnder_11 : decode cX5_isUnder 11 = .ok (.iload_n 2, 1) := by decide +kernel
theorem dX5_isUnder_12 : decode cX5_isUnder 12 = .ok (.invokestatic 95, 3) := by decide +kernel
theorem dX5_isUnder_15 : decode cX5_isUnder 15 = .ok (.istore_n 2, 1) := by decide +kernel
theorem dX5_isUnder_16 : decode cX5_isUnder 16 = .ok (.goto (-14), 3) := by decide +kernel
theorem dX5_isUnder_19 : decode cX5_isUnder 19 = .ok (.iload_n 2, 1) := by decide +kernel
theorem dX5_isUnder_20 : decode cX5_isUnder 20 = .ok (.ifCond .lt 7, 3) := by decide +kernel
theorem dX5_isUnder_23 : decode cX5_isUnder 23 = .ok (.iconst 1, 1) := by decide +kernel
theorem dX5_isUnder_24 : decode cX5_isUnder 24 = .ok (.goto 4, 3) := by decide +kernel
theorem dX5_isUnder_27 : decode cX5_isUnder 27 = .ok (.iconst 0, 1) := by decide +kernel
theorem dX5_isUnder_28 : decode cX5_isUnder 28 = .ok (.ireturn, 1) := by decide +kernel
theorem dX5_errs_0 : decode cX5_errs 0 = .ok (.aload_n 0, 1) := by decide +kernel
theorem dX5_errs_1 : decode cX5_errs 1 = .ok (.getfield 9, 3) := by decide +kernel
theorem dX5_errs_4 : decode cX5_errs 4 = .ok (.iconst 0, 1) := by decide +kernel
theorem dX5_errs_5 : decode cX5_errs 5 = .ok (.iaload, 1) := by decide +kernel
theorem dX5_errs_6 : decode cX5_errs 6 = .ok (.bipush 16, 2) := by decide +kernel
theorem dX5_errs_8 : decode cX5_errs 8 = .ok (.irem, 1) := by decide +kernel
theorem dX5_errs_9 : decode cX5_errs 9 = .ok (.istore_n 2, 1) := by decide +kernel
theorem dX5_errs_10 : decode cX5_errs 10 = .ok (.aload_n 0, 1) := by decide +kernel
theorem dX5_errs_11 : decode cX5_errs 11 = .ok (.iload_n 1, 1) := by decide +kernel
theorem dX5_errs_12 : decode cX5_errs 12 = .ok (.iconst 1, 1) := by decide +kernel
theorem dX5_errs_13 : decode cX5_errs 13 = .ok (.invokevirtual 98, 3) := by decide +kernel
theorem dX5_errs_16 : decode cX5_errs 16 = .ok (.bipush 10, 2) := by decide +kernel
theorem dX5_errs_18 : decode cX5_errs 18 = .ok (.idiv, 1) := by decide +kernel
theorem dX5_errs_19 : decode cX5_errs 19 = .ok (.istore_n 3, 1) := by decide +kernel
theorem dX5_errs_20 : decode cX5_errs 20 = .ok (.iload_n 3, 1) := by decide +kernel
theorem dX5_errs_21 : decode cX5_errs 21 = .ok (.aload_n 0, 1) := by decide +kernel
theorem dX5_errs_22 : decode cX5_errs 22 = .ok (.getfield 9, 3) := by decide +kernel
theorem dX5_errs_25 : decode cX5_errs 25 = .ok (.iconst 3, 1) := by decide +kernel
theorem dX5_errs_26 : decode cX5_errs 26 = .ok (.iaload, 1) := by decide +kernel
theorem dX5_errs_27 : decode cX5_errs 27 = .ok (.iload_n 2, 1) := by decide +kernel
theorem dX5_errs_28 : decode cX5_errs 28 = .ok (.invokestatic 101, 3) := by decide +kernel
theorem dX5_errs_31 : decode cX5_errs 31 = .ok (.ifCond .eq 7, 3) := by decide +kernel
theorem dX5_errs_34 : decode cX5_errs 34 = .ok (.iconst 2, 1) := by decide +kernel
theorem dX5_errs_35 : decode cX5_errs 35 = .ok (.goto 4, 3) := by decide +kernel
theorem dX5_errs_38 : decode cX5_errs 38 = .ok (.iconst 0, 1) := by decide +kernel
theorem dX5_errs_39 : decode cX5_errs 39 = .ok (.iadd, 1) := by decide +kernel
theorem dX5_errs_40 : decode cX5_errs 40 = .ok (.istore 4, 2) := by decide +kernel
theorem dX5_errs_42 : decode cX5_errs 42 = .ok (.aload_n 0, 1) := by decide +kernel
theorem dX5_errs_43 : decode cX5_errs 43 = .ok (.iload_n 1, 1) := by decide +kernel
theorem dX5_errs_44 : decode cX5_errs 44 = .ok (.iconst 1, 1) := by decide +kernel
theorem dX5_errs_45 : decode cX5_errs 45 = .ok (.invokevirtual 98, 3) := by decide +kernel
theorem dX5_errs_48 : decode cX5_errs 48 = .ok (.bipush 50, 2) := by decide +kernel
theorem dX5_errs_50 : decode cX5_errs 50 = .ok (.if_icmp .lt 12, 3) := by decide +kernel
theorem dX5_errs_53 : decode cX5_errs 53 = .ok (.aload_n 0, 1) := by decide +kernel
theorem dX5_errs_54 : decode cX5_errs 54 = .ok (.iload_n 1, 1) := by decide +kernel
theorem dX5_errs_55 : decode cX5_errs 55 = .ok (.iconst 2, 1) := by decide +kernel
theorem dX5_errs_56 : decode cX5_errs 56 = .ok (.invokevirtual 98, 3) := by decide +kernel
theorem dX5_errs_59 : decode cX5_errs 59 = .ok (.goto 5, 3) := by decide +kernel
theorem dX5_errs_62 : decode cX5_errs 62 = .ok (.iload 4, 2) := by decide +kernel
theorem dX5_errs_64 : decode cX5_errs 64 = .ok (.istore 5, 2) := by decide +kernel
theorem dX5_errs_66 : decode cX5_errs 66 = .ok (.iload_n 3, 1) := by decide +kernel
theorem dX5_errs_67 : decode cX5_errs 67 = .ok (.iload_n 2, 1) := by decide +kernel
theorem dX5_errs_68 : decode cX5_errs 68 = .ok (.iconst 5, 1) := by decide +kernel
theorem dX5_errs_69 : decode cX5_errs 69 = .ok (.irem, 1) := by decide +kernel
theorem dX5_errs_70 : decode cX5_errs 70 = .ok (.iadd, 1) := by decide +kernel
theorem dX5_errs_71 : decode cX5_errs 71 = .ok (.iconst 2, 1) := by decide +kernel
theorem dX5_errs_72 : decode cX5_errs 72 = .ok (.isub, 1) := by decide +kernel
theorem dX5_errs_73 : decode cX5_errs 73 = .ok (.istore 6, 2) := by decide +kernel
theorem dX5_errs_75 : decode cX5_errs 75 = .ok (.aload_n 0, 1) := by decide +kernel
theorem dX5_errs_76 : decode cX5_errs 76 = .ok (.iload_n 1, 1) := by decide +kernel
theorem dX5_errs_77 : decode cX5_errs 77 = .ok (.iconst 0, 1) := by decide +kernel
theorem dX5_errs_78 : decode cX5_errs 78 = .ok (.invokevirtual 98, 3) := by decide +kernel
theorem dX5_errs_81 : decode cX5_errs 81 = .ok (.tableswitch 63 1 6 #[39, 42, 45, 48, 54, 58], 39) := by decide +kernel
theorem dX5_errs_120 : decode cX5_errs 120 = .ok (.iload 4, 2) := by decide +kernel
theorem dX5_errs_122 : decode cX5_errs 122 = .ok (.ireturn, 1) := by decide +kernel
theorem dX5_errs_123 : decode cX5_errs 123 = .ok (.iload 6, 2) := by decide +kernel
theorem dX5_errs_125 : decode cX5_errs 125 = .ok (.ireturn, 1) := by decide +kernel
theorem dX5_errs_126 : decode cX5_errs 126 = .ok (.iload 5, 2) := by decide +kernel
theorem dX5_errs_128 : decode cX5_errs 128 = .ok (.ireturn, 1) := by decide +kernel
theorem dX5_errs_129 : decode cX5_errs 129 = .ok (.bipush 16, 2) := by decide +kernel
theorem dX5_errs_131 : decode cX5_errs 131 = .ok (.iload 5, 2) := by decide +kernel
theorem dX5_errs_133 : decode cX5_errs 133 = .ok (.isub, 1) := by decide +kernel
theorem dX5_errs_134 : decode cX5_errs 134 = .ok (.ireturn, 1) := by decide +kernel
theorem dX5_errs_135 : decode cX5_errs 135 = .ok (.iload_n 3, 1) := by decide +kernel
theorem dX5_errs_136 : decode cX5_errs 136 = .ok (.iconst 2, 1) := by decide +kernel
theorem dX5_errs_137 : decode cX5_errs 137 = .ok (.idiv, 1) := by decide +kernel
theorem dX5_errs_138 : decode cX5_errs 138 = .ok (.ireturn, 1) := by decide +kernel
theorem dX5_errs_139 : decode cX5_errs 139 = .ok (.iload 6, 2) := by decide +kernel
theorem dX5_errs_141 : decode cX5_errs 141 = .ok (.iconst 1, 1) := by decide +kernel
theorem dX5_errs_142 : decode cX5_errs 142 = .ok (.iadd, 1) := by decide +kernel
theorem dX5_errs_143 : decode cX5_errs 143 = .ok (.ireturn, 1) := by decide +kernel
theorem dX5_errs_144 : decode cX5_errs 144 = .ok (.iload_n 3, 1) := by decide +kernel
theorem dX5_errs_145 : decode cX5_errs 145 = .ok (.ireturn, 1) := by decide +kernel
theorem dX5_of_0 : decode cX5_of 0 = .ok (.aload_n 0, 1) := by decide +kernel
theorem dX5_of_1 : decode cX5_of 1 = .ok (.iload_n 1, 1) := by decide +kernel
theorem dX5_of_2 : decode cX5_of 2 = .ok (.invokevirtual 105, 3) := by decide +kernel
theorem dX5_of_5 : decode cX5_of 5 = .ok (.ifCond .eq 12, 3) := by decide +kernel
theorem dX5_of_8 : decode cX5_of 8 = .ok (.iload_n 2, 1) := by decide +kernel
theorem dX5_of_9 : decode cX5_of 9 = .ok (.iconst 0, 1) := by decide +kernel
theorem dX5_of_10 : decode cX5_of 10 = .ok (.iconst 3, 1) := by decide +kernel
theorem dX5_of_11 : decode cX5_of 11 = .ok (.invokestatic 71, 3) := by decide +kernel
theorem dX5_of_14 : decode cX5_of 14 = .ok (.ifCond .ne 10, 3) := by decide +kernel
theorem dX5_of_17 : decode cX5_of 17 = .ok (.aload_n 0, 1) := by decide +kernel
theorem dX5_of_18 : decode cX5_of 18 = .ok (.ldc 66, 2) := by decide +kernel
theorem dX5_of_20 : decode cX5_of 20 = .ok (.invokevirtual 86, 3) := by decide +kernel
theorem dX5_of_23 : decode cX5_of 23 = .ok (.ireturn, 1) := by decide +kernel
theorem dX5_of_24 : decode cX5_of 24 = .ok (.iload_n 2, 1) := by decide +kernel
theorem dX5_of_25 : decode cX5_of 25 = .ok (.iconst 3, 1) := by decide +kernel
theorem dX5_of_26 : decode cX5_of 26 = .ok (.if_icmp .ge 12, 3) := by decide +kernel
theorem dX5_of_29 : decode cX5_of 29 = .ok (.aload_n 0, 1) := by decide +kernel
theorem dX5_of_30 : decode cX5_of 30 = .ok (.iload_n 1, 1) := by decide +kernel
theorem dX5_of_31 : decode cX5_of 31 = .ok (.iload_n 2, 1) := by decide +kernel
theorem dX5_of_32 : decode cX5_of 32 = .ok (.invokevirtual 98, 3) := by decide +kernel
theorem dX5_of_35 : decode cX5_of 35 = .ok (.goto 8, 3) := by decide +kernel
theorem dX5_of_38 : decode cX5_of 38 = .ok (.aload_n 0, 1) := by decide +kernel
theorem dX5_of_39 : decode cX5_of 39 = .ok (.iload_n 1, 1) := by decide +kernel
theorem dX5_of_40 : decode cX5_of 40 = .ok (.invokevirtual 108, 3) := by decide +kernel
theorem dX5_of_43 : decode cX5_of 43 = .ok (.ireturn, 1) := by decide +kernel
theorem dX5_change_0 : decode cX5_change 0 = .ok (.iload_n 2, 1) := by decide +kernel
theorem dX5_change_1 : decode cX5_change 1 = .ok (.ifCond .ne 10, 3) := by decide +kernel
theorem dX5_change_4 : decode cX5_change 4 = .ok (.iload_n 3, 1) := by decide +kernel
theorem dX5_change_5 : decode cX5_change 5 = .ok (.invokestatic 82, 3) := by decide +kernel
theorem dX5_change_8 : decode cX5_change 8 = .ok (.ifCond .ne 34, 3) := by decide +kernel
theorem dX5_change_11 : decode cX5_change 11 = .ok (.iload_n 2, 1) := by decide +kernel
theorem dX5_change_12 : decode cX5_change 12 = .ok (.iconst 1, 1) := by decide +kernel
theorem dX5_change_13 : decode cX5_change 13 = .ok (.if_icmp .ne 13, 3) := by decide +kernel
theorem dX5_change_16 : decode cX5_change 16 = .ok (.iload_n 3, 1) := by decide +kernel
theorem dX5_change_17 : decode cX5_change 17 = .ok (.iconst 0, 1) := by decide +kernel
theorem dX5_change_18 : decode cX5_change 18 = .ok (.bipush 99, 2) := by decide +kernel
theorem dX5_change_20 : decode cX5_change 20 = .ok (.invokestatic 71, 3) := by decide +kernel
theorem dX5_change_23 : decode cX5_change 23 = .ok (.ifCond .ne 19, 3) := by decide +kernel
theorem dX5_change_26 : decode cX5_change 26 = .ok (.iload_n 2, 1) := by decide +kernel
theorem dX5_change_27 : decode cX5_change 27 = .ok (.iconst 2, 1) := by decide +kernel
theorem dX5_change_28 : decode cX5_change 28 = .ok (.if_icmp .ne 18, 3) := by decide +kernel
theorem dX5_change_31 : decode cX5_change 31 = .ok (.iload_n 3, 1) := by decide +kernel
theorem dX5_change_32 : decode cX5_change 32 = .ok (.bipush (-15), 2) := by decide +kernel
theorem dX5_change_34 : decode cX5_change 34 = .ok (.bipush 15, 2) := by decide +kernel
theorem dX5_change_36 : decode cX5_change 36 = .ok (.invokestatic 71, 3) := by decide +kernel
theorem dX5_change_39 : decode cX5_change 39 = .ok (.ifCond .eq 7, 3) := by decide +kernel
theorem dX5_change_42 : decode cX5_change 42 = .ok (.iconst 1, 1) := by decide +kernel
theorem dX5_change_43 : decode cX5_change 43 = .ok (.goto 4, 3) := by decide +kernel
theorem dX5_change_46 : decode cX5_change 46 = .ok (.iconst 0, 1) := by decide +kernel
theorem dX5_change_47 : decode cX5_change 47 = .ok (.istore 4, 2) := by decide +kernel
theorem dX5_change_49 : decode cX5_change 49 = .ok (.aload_n 0, 1) := by decide +kernel
theorem dX5_change_50 : decode cX5_change 50 = .ok (.iload_n 1, 1) := by decide +kernel
theorem dX5_change_51 : decode cX5_change 51 = .ok (.invokevirtual 105, 3) := by decide +kernel
theorem dX5_change_54 : decode cX5_change 54 = .ok (.ifCond .eq 21, 3) := by decide +kernel
theorem dX5_change_57 : decode cX5_change 57 = .ok (.iload 4, 2) := by decide +kernel
theorem dX5_change_59 : decode cX5_change 59 = .ok (.ifCond .eq 16, 3) := by decide +kernel
theorem dX5_change_62 : decode cX5_change 62 = .ok (.aload_n 0, 1) := by decide +kernel
theorem dX5_change_63 : decode cX5_change 63 = .ok (.iload_n 1, 1) := by decide +kernel
theorem dX5_change_64 : decode cX5_change 64 = .ok (.iload_n 2, 1) := by decide +kernel
theorem dX5_change_65 : decode cX5_change 65 = .ok (.invokestatic 75, 3) := by decide +kernel
theorem dX5_change_68 : decode cX5_change 68 = .ok (.iload_n 3, 1) := by decide +kernel
theorem dX5_change_69 : decode cX5_change 69 = .ok (.invokevirtual 111, 3) := by decide +kernel
theorem dX5_change_72 : decode cX5_change 72 = .ok (.goto 9, 3) := by decide +kernel
theorem dX5_change_75 : decode cX5_change 75 = .ok (.aload_n 0, 1) := by decide +kernel
theorem dX5_change_76 : decode cX5_change 76 = .ok (.ldc 66, 2) := by decide +kernel
theorem dX5_change_78 : decode cX5_change 78 = .ok (.invokevirtual 86, 3) := by decide +kernel
theorem dX5_change_81 : decode cX5_change 81 = .ok (.ireturn, 1) := by decide +kernel
theorem dX5_meanOf_0 : decode cX5_meanOf 0 = .ok (.iconst 0, 1) := by decide +kernel
theorem dX5_meanOf_1 : decode cX5_meanOf 1 = .ok (.istore_n 2, 1) := by decide +kernel
theorem dX5_meanOf_2 : decode cX5_meanOf 2 = .ok (.iconst 0, 1) := by decide +kernel
theorem dX5_meanOf_3 : decode cX5_meanOf 3 = .ok (.istore_n 3, 1) := by decide +kernel
theorem dX5_meanOf_4 : decode cX5_meanOf 4 = .ok (.iload_n 3, 1) := by decide +kernel
theorem dX5_meanOf_5 : decode cX5_meanOf 5 = .ok (.aload_n 0, 1) := by decide +kernel
theorem dX5_meanOf_6 : decode cX5_meanOf 6 = .ok (.getfield 9, 3) := by decide +kernel
theorem dX5_meanOf_9 : decode cX5_meanOf 9 = .ok (.iconst 4, 1) := by decide +kernel
theorem dX5_meanOf_10 : decode cX5_meanOf 10 = .ok (.iaload, 1) := by decide +kernel
theorem dX5_meanOf_11 : decode cX5_meanOf 11 = .ok (.if_icmp .ge 29, 3) := by decide +kernel
theorem dX5_meanOf_14 : decode cX5_meanOf 14 = .ok (.iload_n 2, 1) := by decide +kernel
theorem dX5_meanOf_15 : decode cX5_meanOf 15 = .ok (.iload_n 1, 1) := by decide +kernel
theorem dX5_meanOf_16 : decode cX5_meanOf 16 = .ok (.iload_n 3, 1) := by decide +kernel
theorem dX5_meanOf_17 : decode cX5_meanOf 17 = .ok (.invokestatic 101, 3) := by decide +kernel
theorem dX5_meanOf_20 : decode cX5_meanOf 20 = .ok (.ifCond .eq 11, 3) := by decide +kernel
theorem dX5_meanOf_23 : decode cX5_meanOf 23 = .ok (.aload_n 0, 1) := by decide +kernel
theorem dX5_meanOf_24 : decode cX5_meanOf 24 = .ok (.iload_n 3, 1) := by decide +kernel
theorem dX5_meanOf_25 : decode cX5_meanOf 25 = .ok (.invokevirtual 108, 3) := by decide +kernel
theorem dX5_meanOf_28 : decode cX5_meanOf 28 = .ok (.goto 4, 3) := by decide +kernel
theorem dX5_meanOf_31 : decode cX5_meanOf 31 = .ok (.iconst 0, 1) := by decide +kernel
theorem dX5_meanOf_32 : decode cX5_meanOf 32 = .ok (.iadd, 1) := by decide +kernel
theorem dX5_meanOf_33 : decode cX5_meanOf 33 = .ok (.istore_n 2, 1) := by decide +kernel
theorem dX5_meanOf_34 : decode cX5_meanOf 34 = .ok (.iinc 3 1, 3) := by decide +kernel
theorem dX5_meanOf_37 : decode cX5_meanOf 37 = .ok (.goto (-33), 3) := by decide +kernel
theorem dX5_meanOf_40 : decode cX5_meanOf 40 = .ok (.iload_n 1, 1) := by decide +kernel
theorem dX5_meanOf_41 : decode cX5_meanOf 41 = .ok (.ifCond .ne 7, 3) := by decide +kernel
theorem dX5_meanOf_44 : decode cX5_meanOf 44 = .ok (.iconst 0, 1) := by decide +kernel
theorem dX5_meanOf_45 : decode cX5_meanOf 45 = .ok (.goto 9, 3) := by decide +kernel
theorem dX5_meanOf_48 : decode cX5_meanOf 48 = .ok (.iload_n 2, 1) := by decide +kernel
theorem dX5_meanOf_49 : decode cX5_meanOf 49 = .ok (.iload_n 1, 1) := by decide +kernel
theorem dX5_meanOf_50 : decode cX5_meanOf 50 = .ok (.invokestatic 114, 3) := by decide +kernel
theorem dX5_meanOf_53 : decode cX5_meanOf 53 = .ok (.idiv, 1) := by decide +kernel
theorem dX5_meanOf_54 : decode cX5_meanOf 54 = .ok (.ireturn, 1) := by decide +kernel
theorem dX5_reads_0 : decode cX5_reads 0 = .ok (.aload_n 0, 1) := by decide +kernel
theorem dX5_reads_1 : decode cX5_reads 1 = .ok (.aload_n 0, 1) := by decide +kernel
theorem dX5_reads_2 : decode cX5_reads 2 = .ok (.iload_n 1, 1) := by decide +kernel
theorem dX5_reads_3 : decode cX5_reads 3 = .ok (.iconst 2, 1) := by decide +kernel
theorem dX5_reads_4 : decode cX5_reads 4 = .ok (.invokevirtual 117, 3) := by decide +kernel
theorem dX5_reads_7 : decode cX5_reads 7 = .ok (.invokevirtual 120, 3) := by decide +kernel
theorem dX5_reads_10 : decode cX5_reads 10 = .ok (.ireturn, 1) := by decide +kernel
theorem dX5_course_0 : decode cX5_course 0 = .ok (.aload_n 0, 1) := by decide +kernel
theorem dX5_course_1 : decode cX5_course 1 = .ok (.iload_n 1, 1) := by decide +kernel
theorem dX5_course_2 : decode cX5_course 2 = .ok (.iconst 1, 1) := by decide +kernel
theorem dX5_course_3 : decode cX5_course 3 = .ok (.invokevirtual 117, 3) := by decide +kernel
theorem dX5_course_6 : decode cX5_course 6 = .ok (.aload_n 0, 1) := by decide +kernel
theorem dX5_course_7 : decode cX5_course 7 = .ok (.iload_n 1, 1) := by decide +kernel
theorem dX5_course_8 : decode cX5_course 8 = .ok (.invokevirtual 123, 3) := by decide +kernel
theorem dX5_course_11 : decode cX5_course 11 = .ok (.iadd, 1) := by decide +kernel
theorem dX5_course_12 : decode cX5_course 12 = .ok (.bipush 32, 2) := by decide +kernel
theorem dX5_course_14 : decode cX5_course 14 = .ok (.irem, 1) := by decide +kernel
theorem dX5_course_15 : decode cX5_course 15 = .ok (.istore_n 2, 1) := by decide +kernel
theorem dX5_course_16 : decode cX5_course 16 = .ok (.iload_n 2, 1) := by decide +kernel
theorem dX5_course_17 : decode cX5_course 17 = .ok (.ifCond .ge 10, 3) := by decide +kernel
theorem dX5_course_20 : decode cX5_course 20 = .ok (.iload_n 2, 1) := by decide +kernel
theorem dX5_course_21 : decode cX5_course 21 = .ok (.bipush 32, 2) := by decide +kernel
theorem dX5_course_23 : decode cX5_course 23 = .ok (.iadd, 1) := by decide +kernel
theorem dX5_course_24 : decode cX5_course 24 = .ok (.goto 4, 3) := by decide +kernel
theorem dX5_course_27 : decode cX5_course 27 = .ok (.iload_n 2, 1) := by decide +kernel
theorem dX5_course_28 : decode cX5_course 28 = .ok (.ireturn, 1) := by decide +kernel
theorem dX5_beside_0 : decode cX5_beside 0 = .ok (.iload_n 1, 1) := by decide +kernel
theorem dX5_beside_1 : decode cX5_beside 1 = .ok (.bipush 10, 2) := by decide +kernel
theorem dX5_beside_3 : decode cX5_beside 3 = .ok (.idiv, 1) := by decide +kernel
theorem dX5_beside_4 : decode cX5_beside 4 = .ok (.aload_n 0, 1) := by decide +kernel
theorem dX5_beside_5 : decode cX5_beside 5 = .ok (.getfield 22, 3) := by decide +kernel
theorem dX5_beside_8 : decode cX5_beside 8 = .ok (.iload_n 2, 1) := by decide +kernel
theorem dX5_beside_9 : decode cX5_beside 9 = .ok (.iaload, 1) := by decide +kernel
theorem dX5_beside_10 : decode cX5_beside 10 = .ok (.iadd, 1) := by decide +kernel
theorem dX5_beside_11 : decode cX5_beside 11 = .ok (.istore_n 3, 1) := by decide +kernel
theorem dX5_beside_12 : decode cX5_beside 12 = .ok (.iload_n 1, 1) := by decide +kernel
theorem dX5_beside_13 : decode cX5_beside 13 = .ok (.bipush 10, 2) := by decide +kernel
theorem dX5_beside_15 : decode cX5_beside 15 = .ok (.irem, 1) := by decide +kernel
theorem dX5_beside_16 : decode cX5_beside 16 = .ok (.aload_n 0, 1) := by decide +kernel
theorem dX5_beside_17 : decode cX5_beside 17 = .ok (.getfield 25, 3) := by decide +kernel
theorem dX5_beside_20 : decode cX5_beside 20 = .ok (.iload_n 2, 1) := by decide +kernel
theorem dX5_beside_21 : decode cX5_beside 21 = .ok (.iaload, 1) := by decide +kernel
theorem dX5_beside_22 : decode cX5_beside 22 = .ok (.iadd, 1) := by decide +kernel
theorem dX5_beside_23 : decode cX5_beside 23 = .ok (.istore 4, 2) := by decide +kernel
theorem dX5_beside_25 : decode cX5_beside 25 = .ok (.iload_n 3, 1) := by decide +kernel
theorem dX5_beside_26 : decode cX5_beside 26 = .ok (.iconst 0, 1) := by decide +kernel
theorem dX5_beside_27 : decode cX5_beside 27 = .ok (.bipush 9, 2) := by decide +kernel
theorem dX5_beside_29 : decode cX5_beside 29 = .ok (.invokestatic 71, 3) := by decide +kernel
theorem dX5_beside_32 : decode cX5_beside 32 = .ok (.ifCond .eq 24, 3) := by decide +kernel
theorem dX5_beside_35 : decode cX5_beside 35 = .ok (.iload 4, 2) := by decide +kernel
theorem dX5_beside_37 : decode cX5_beside 37 = .ok (.iconst 0, 1) := by decide +kernel
theorem dX5_beside_38 : decode cX5_beside 38 = .ok (.bipush 9, 2) := by decide +kernel
theorem dX5_beside_40 : decode cX5_beside 40 = .ok (.invokestatic 71, 3) := by decide +kernel
theorem dX5_beside_43 : decode cX5_beside 43 = .ok (.ifCond .eq 13, 3) := by decide +kernel
theorem dX5_beside_46 : decode cX5_beside 46 = .ok (.bipush 10, 2) := by decide +kernel
theorem dX5_beside_48 : decode cX5_beside 48 = .ok (.iload_n 3, 1) := by decide +kernel
theorem dX5_beside_49 : decode cX5_beside 49 = .ok (.imul, 1) := by decide +kernel
theorem dX5_beside_50 : decode cX5_beside 50 = .ok (.iload 4, 2) := by decide +kernel
theorem dX5_beside_52 : decode cX5_beside 52 = .ok (.iadd, 1) := by decide +kernel
theorem dX5_beside_53 : decode cX5_beside 53 = .ok (.goto 4, 3) := by decide +kernel
theorem dX5_beside_56 : decode cX5_beside 56 = .ok (.iload_n 1, 1) := by decide +kernel
theorem dX5_beside_57 : decode cX5_beside 57 = .ok (.ireturn, 1) := by decide +kernel
theorem dX5_isIsland_0 : decode cX5_isIsland 0 = .ok (.aload_n 0, 1) := by decide +kernel
theorem dX5_isIsland_1 : decode cX5_isIsland 1 = .ok (.getfield 9, 3) := by decide +kernel
theorem dX5_isIsland_4 : decode cX5_isIsland 4 = .ok (.bipush 16, 2) := by decide +kernel
theorem dX5_isIsland_6 : decode cX5_isIsland 6 = .ok (.iload_n 1, 1) := by decide +kernel
theorem dX5_isIsland_7 : decode cX5_isIsland 7 = .ok (.iadd, 1) := by decide +kernel
theorem dX5_isIsland_8 : decode cX5_isIsland 8 = .ok (.iaload, 1) := by decide +kernel
theorem dX5_isIsland_9 : decode cX5_isIsland 9 = .ok (.iconst 1, 1) := by decide +kernel
theorem dX5_isIsland_10 : decode cX5_isIsland 10 = .ok (.if_icmp .ne 7, 3) := by decide +kernel
theorem dX5_isIsland_13 : decode cX5_isIsland 13 = .ok (.iconst 1, 1) := by decide +kernel
theorem dX5_isIsland_14 : decode cX5_isIsland 14 = .ok (.goto 4, 3) := by decide +kernel
theorem dX5_isIsland_17 : decode cX5_isIsland 17 = .ok (.iconst 0, 1) := by decide +kernel
theorem dX5_isIsland_18 : decode cX5_isIsland 18 = .ok (.ireturn, 1) := by decide +kernel
theorem dX5_isLanded_0 : decode cX5_isLanded 0 = .ok (.aload_n 0, 1) := by decide +kernel
theorem dX5_isLanded_1 : decode cX5_isLanded 1 = .ok (.aload_n 0, 1) := by decide +kernel
theorem dX5_isLanded_2 : decode cX5_isLanded 2 = .ok (.iload_n 1, 1) := by decide +kernel
theorem dX5_isLanded_3 : decode cX5_isLanded 3 = .ok (.iconst 0, 1) := by decide +kernel
theorem dX5_isLanded_4 : decode cX5_isLanded 4 = .ok (.invokevirtual 117, 3) := by decide +kernel
theorem dX5_isLanded_7 : decode cX5_isLanded 7 = .ok (.invokevirtual 126, 3) := by decide +kernel
theorem dX5_isLanded_10 : decode cX5_isLanded 10 = .ok (.ireturn, 1) := by decide +kernel
theorem dX5_goesTo_0 : decode cX5_goesTo 0 = .ok (.aload_n 0, 1) := by decide +kernel
theorem dX5_goesTo_1 : decode cX5_goesTo 1 = .ok (.iload_n 1, 1) := by decide +kernel
theorem dX5_goesTo_2 : decode cX5_goesTo 2 = .ok (.invokevirtual 129, 3) := by decide +kernel
theorem dX5_goesTo_5 : decode cX5_goesTo 5 = .ok (.iconst 2, 1) := by decide +kernel
theorem dX5_goesTo_6 : decode cX5_goesTo 6 = .ok (.iadd, 1) := by decide +kernel
theorem dX5_goesTo_7 : decode cX5_goesTo 7 = .ok (.iconst 4, 1) := by decide +kernel
theorem dX5_goesTo_8 : decode cX5_goesTo 8 = .ok (.idiv, 1) := by decide +kernel
theorem dX5_goesTo_9 : decode cX5_goesTo 9 = .ok (.bipush 8, 2) := by decide +kernel
theorem dX5_goesTo_11 : decode cX5_goesTo 11 = .ok (.irem, 1) := by decide +kernel
theorem dX5_goesTo_12 : decode cX5_goesTo 12 = .ok (.istore_n 2, 1) := by decide +kernel
theorem dX5_goesTo_13 : decode cX5_goesTo 13 = .ok (.aload_n 0, 1) := by decide +kernel
theorem dX5_goesTo_14 : decode cX5_goesTo 14 = .ok (.iload_n 1, 1) := by decide +kernel
theorem dX5_goesTo_15 : decode cX5_goesTo 15 = .ok (.iconst 0, 1) := by decide +kernel
theorem dX5_goesTo_16 : decode cX5_goesTo 16 = .ok (.invokevirtual 117, 3) := by decide +kernel
theorem dX5_goesTo_19 : decode cX5_goesTo 19 = .ok (.istore_n 3, 1) := by decide +kernel
theorem dX5_goesTo_20 : decode cX5_goesTo 20 = .ok (.aload_n 0, 1) := by decide +kernel
theorem dX5_goesTo_21 : decode cX5_goesTo 21 = .ok (.iload_n 1, 1) := by decide +kernel
theorem dX5_goesTo_22 : decode cX5_goesTo 22 = .ok (.invokevirtual 132, 3) := by decide +kernel
theorem dX5_goesTo_25 : decode cX5_goesTo 25 = .ok (.ifCond .ne 13, 3) := by decide +kernel
theorem dX5_goesTo_28 : decode cX5_goesTo 28 = .ok (.iload_n 2, 1) := by decide +kernel
theorem dX5_goesTo_29 : decode cX5_goesTo 29 = .ok (.aload_n 0, 1) := by decide +kernel
theorem dX5_goesTo_30 : decode cX5_goesTo 30 = .ok (.getfield 9, 3) := by decide +kernel
theorem dX5_goesTo_33 : decode cX5_goesTo 33 = .ok (.iconst 2, 1) := by decide +kernel
theorem dX5_goesTo_34 : decode cX5_goesTo 34 = .ok (.iaload, 1) := by decide +kernel
theorem dX5_goesTo_35 : decode cX5_goesTo 35 = .ok (.if_icmp .ne 7, 3) := by decide +kernel
theorem dX5_goesTo_38 : decode cX5_goesTo 38 = .ok (.iload_n 3, 1) := by decide +kernel
theorem dX5_goesTo_39 : decode cX5_goesTo 39 = .ok (.goto 9, 3) := by decide +kernel
theorem dX5_goesTo_42 : decode cX5_goesTo 42 = .ok (.aload_n 0, 1) := by decide +kernel
theorem dX5_goesTo_43 : decode cX5_goesTo 43 = .ok (.iload_n 3, 1) := by decide +kernel
theorem dX5_goesTo_44 : decode cX5_goesTo 44 = .ok (.iload_n 2, 1) := by decide +kernel
theorem dX5_goesTo_45 : decode cX5_goesTo 45 = .ok (.invokevirtual 135, 3) := by decide +kernel
theorem dX5_goesTo_48 : decode cX5_goesTo 48 = .ok (.ireturn, 1) := by decide +kernel
theorem dX5_ship_0 : decode cX5_ship 0 = .ok (.iload_n 1, 1) := by decide +kernel
theorem dX5_ship_1 : decode cX5_ship 1 = .ok (.invokestatic 138, 3) := by decide +kernel
theorem dX5_ship_4 : decode cX5_ship 4 = .ok (.ifCond .eq 13, 3) := by decide +kernel
theorem dX5_ship_7 : decode cX5_ship 7 = .ok (.iload_n 2, 1) := by decide +kernel
theorem dX5_ship_8 : decode cX5_ship 8 = .ok (.iconst 0, 1) := by decide +kernel
theorem dX5_ship_9 : decode cX5_ship 9 = .ok (.bipush 6, 2) := by decide +kernel
theorem dX5_ship_11 : decode cX5_ship 11 = .ok (.invokestatic 71, 3) := by decide +kernel
theorem dX5_ship_14 : decode cX5_ship 14 = .ok (.ifCond .ne 10, 3) := by decide +kernel
theorem dX5_ship_17 : decode cX5_ship 17 = .ok (.aload_n 0, 1) := by decide +kernel
theorem dX5_ship_18 : decode cX5_ship 18 = .ok (.ldc 66, 2) := by decide +kernel
theorem dX5_ship_20 : decode cX5_ship 20 = .ok (.invokevirtual 86, 3) := by decide +kernel
theorem dX5_ship_23 : decode cX5_ship 23 = .ok (.ireturn, 1) := by decide +kernel
theorem dX5_ship_24 : decode cX5_ship 24 = .ok (.iload_n 2, 1) := by decide +kernel
theorem dX5_ship_25 : decode cX5_ship 25 = .ok (.tableswitch 63 3 6 #[31, 37, 43, 49], 31) := by decide +kernel
theorem dX5_ship_56 : decode cX5_ship 56 = .ok (.aload_n 0, 1) := by decide +kernel
theorem dX5_ship_57 : decode cX5_ship 57 = .ok (.iload_n 1, 1) := by decide +kernel
theorem dX5_ship_58 : decode cX5_ship 58 = .ok (.invokevirtual 123, 3) := by decide +kernel
theorem dX5_ship_61 : decode cX5_ship 61 = .ok (.ireturn, 1) := by decide +kernel
theorem dX5_ship_62 : decode cX5_ship 62 = .ok (.aload_n 0, 1) := by decide +kernel
theorem dX5_ship_63 : decode cX5_ship 63 = .ok (.iload_n 1, 1) := by decide +kernel
theorem dX5_ship_64 : decode cX5_ship 64 = .ok (.invokevirtual 129, 3) := by decide +kernel
theorem dX5_ship_67 : decode cX5_ship 67 = .ok (.ireturn, 1) := by decide +kernel
theorem dX5_ship_68 : decode cX5_ship 68 = .ok (.aload_n 0, 1) := by decide +kernel
theorem dX5_ship_69 : decode cX5_ship 69 = .ok (.iload_n 1, 1) := by decide +kernel
theorem dX5_ship_70 : decode cX5_ship 70 = .ok (.invokevirtual 141, 3) := by decide +kernel
theorem dX5_ship_73 : decode cX5_ship 73 = .ok (.ireturn, 1) := by decide +kernel
theorem dX5_ship_74 : decode cX5_ship 74 = .ok (.aload_n 0, 1) := by decide +kernel
theorem dX5_ship_75 : decode cX5_ship 75 = .ok (.iload_n 1, 1) := by decide +kernel
theorem dX5_ship_76 : decode cX5_ship 76 = .ok (.invokevirtual 132, 3) := by decide +kernel
theorem dX5_ship_79 : decode cX5_ship 79 = .ok (.ifCond .eq 7, 3) := by decide +kernel
theorem dX5_ship_82 : decode cX5_ship 82 = .ok (.iconst 1, 1) := by decide +kernel
theorem dX5_ship_83 : decode cX5_ship 83 = .ok (.goto 4, 3) := by decide +kernel
theorem dX5_ship_86 : decode cX5_ship 86 = .ok (.iconst 0, 1) := by decide +kernel
theorem dX5_ship_87 : decode cX5_ship 87 = .ok (.ireturn, 1) := by decide +kernel
theorem dX5_ship_88 : decode cX5_ship 88 = .ok (.aload_n 0, 1) := by decide +kernel
theorem dX5_ship_89 : decode cX5_ship 89 = .ok (.iload_n 1, 1) := by decide +kernel
theorem dX5_ship_90 : decode cX5_ship 90 = .ok (.iload_n 2, 1) := by decide +kernel
theorem dX5_ship_91 : decode cX5_ship 91 = .ok (.invokevirtual 117, 3) := by decide +kernel
theorem dX5_ship_94 : decode cX5_ship 94 = .ok (.ireturn, 1) := by decide +kernel
theorem dX5_steer_0 : decode cX5_steer 0 = .ok (.iload_n 2, 1) := by decide +kernel
theorem dX5_steer_1 : decode cX5_steer 1 = .ok (.ifCond .ne 10, 3) := by decide +kernel
theorem dX5_steer_4 : decode cX5_steer 4 = .ok (.iload_n 3, 1) := by decide +kernel
theorem dX5_steer_5 : decode cX5_steer 5 = .ok (.invokestatic 144, 3) := by decide +kernel
theorem dX5_steer_8 : decode cX5_steer 8 = .ok (.ifCond .ne 31, 3) := by decide +kernel
theorem dX5_steer_11 : decode cX5_steer 11 = .ok (.iload_n 2, 1) := by decide +kernel
theorem dX5_steer_12 : decode cX5_steer 12 = .ok (.iconst 1, 1) := by decide +kernel
theorem dX5_steer_13 : decode cX5_steer 13 = .ok (.if_icmp .ne 13, 3) := by decide +kernel
theorem dX5_steer_16 : decode cX5_steer 16 = .ok (.iload_n 3, 1) := by decide +kernel
theorem dX5_steer_17 : decode cX5_steer 17 = .ok (.iconst 0, 1) := by decide +kernel
theorem dX5_steer_18 : decode cX5_steer 18 = .ok (.bipush 31, 2) := by decide +kernel
theorem dX5_steer_20 : decode cX5_steer 20 = .ok (.invokestatic 71, 3) := by decide +kernel
theorem dX5_steer_23 : decode cX5_steer 23 = .ok (.ifCond .ne 16, 3) := by decide +kernel
theorem dX5_steer_26 : decode cX5_steer 26 = .ok (.iload_n 2, 1) := by decide +kernel
theorem dX5_steer_27 : decode cX5_steer 27 = .ok (.iconst 2, 1) := by decide +kernel
theorem dX5_steer_28 : decode cX5_steer 28 = .ok (.if_icmp .ne 15, 3) := by decide +kernel
theorem dX5_steer_31 : decode cX5_steer 31 = .ok (.aload_n 0, 1) := by decide +kernel
theorem dX5_steer_32 : decode cX5_steer 32 = .ok (.iload_n 3, 1) := by decide +kernel
theorem dX5_steer_33 : decode cX5_steer 33 = .ok (.invokevirtual 147, 3) := by decide +kernel
theorem dX5_steer_36 : decode cX5_steer 36 = .ok (.ifCond .eq 7, 3) := by decide +kernel
theorem dX5_steer_39 : decode cX5_steer 39 = .ok (.iconst 1, 1) := by decide +kernel
theorem dX5_steer_40 : decode cX5_steer 40 = .ok (.goto 4, 3) := by decide +kernel
theorem dX5_steer_43 : decode cX5_steer 43 = .ok (.iconst 0, 1) := by decide +kernel
theorem dX5_steer_44 : decode cX5_steer 44 = .ok (.istore 4, 2) := by decide +kernel
theorem dX5_steer_46 : decode cX5_steer 46 = .ok (.iload_n 1, 1) := by decide +kernel
theorem dX5_steer_47 : decode cX5_steer 47 = .ok (.invokestatic 138, 3) := by decide +kernel
theorem dX5_steer_50 : decode cX5_steer 50 = .ok (.ifCond .eq 21, 3) := by decide +kernel
theorem dX5_steer_53 : decode cX5_steer 53 = .ok (.iload 4, 2) := by decide +kernel
theorem dX5_steer_55 : decode cX5_steer 55 = .ok (.ifCond .eq 16, 3) := by decide +kernel
theorem dX5_steer_58 : decode cX5_steer 58 = .ok (.aload_n 0, 1) := by decide +kernel
theorem dX5_steer_59 : decode cX5_steer 59 = .ok (.iload_n 1, 1) := by decide +kernel
theorem dX5_steer_60 : decode cX5_steer 60 = .ok (.iload_n 2, 1) := by decide +kernel
theorem dX5_steer_61 : decode cX5_steer 61 = .ok (.invokestatic 79, 3) := by decide +kernel
theorem dX5_steer_64 : decode cX5_steer 64 = .ok (.iload_n 3, 1) := by decide +kernel
theorem dX5_steer_65 : decode cX5_steer 65 = .ok (.invokevirtual 111, 3) := by decide +kernel
theorem dX5_steer_68 : decode cX5_steer 68 = .ok (.goto 9, 3) := by decide +kernel
theorem dX5_steer_71 : decode cX5_steer 71 = .ok (.aload_n 0, 1) := by decide +kernel
theorem dX5_steer_72 : decode cX5_steer 72 = .ok (.ldc 66, 2) := by decide +kernel
theorem dX5_steer_74 : decode cX5_steer 74 = .ok (.invokevirtual 86, 3) := by decide +kernel
theorem dX5_steer_77 : decode cX5_steer 77 = .ok (.ireturn, 1) := by decide +kernel
theorem dX5_island_0 : decode cX5_island 0 = .ok (.iload_n 1, 1) := by decide +kernel
theorem dX5_island_1 : decode cX5_island 1 = .ok (.invokestatic 144, 3) := by decide +kernel
theorem dX5_island_4 : decode cX5_island 4 = .ok (.ifCond .eq 12, 3) := by decide +kernel
theorem dX5_island_7 : decode cX5_island 7 = .ok (.iload_n 2, 1) := by decide +kernel
theorem dX5_island_8 : decode cX5_island 8 = .ok (.iconst 0, 1) := by decide +kernel
theorem dX5_island_9 : decode cX5_island 9 = .ok (.iconst 1, 1) := by decide +kernel
theorem dX5_island_10 : decode cX5_island 10 = .ok (.invokestatic 71, 3) := by decide +kernel
theorem dX5_island_13 : decode cX5_island 13 = .ok (.ifCond .ne 10, 3) := by decide +kernel
theorem dX5_island_16 : decode cX5_island 16 = .ok (.aload_n 0, 1) := by decide +kernel
theorem dX5_island_17 : decode cX5_island 17 = .ok (.ldc 66, 2) := by decide +kernel
theorem dX5_island_19 : decode cX5_island 19 = .ok (.invokevirtual 86, 3) := by decide +kernel
theorem dX5_island_22 : decode cX5_island 22 = .ok (.ireturn, 1) := by decide +kernel
theorem dX5_island_23 : decode cX5_island 23 = .ok (.aload_n 0, 1) := by decide +kernel
theorem dX5_island_24 : decode cX5_island 24 = .ok (.bipush 16, 2) := by decide +kernel
theorem dX5_island_26 : decode cX5_island 26 = .ok (.iload_n 1, 1) := by decide +kernel
theorem dX5_island_27 : decode cX5_island 27 = .ok (.iadd, 1) := by decide +kernel
theorem dX5_island_28 : decode cX5_island 28 = .ok (.iload_n 2, 1) := by decide +kernel
theorem dX5_island_29 : decode cX5_island 29 = .ok (.invokevirtual 111, 3) := by decide +kernel
theorem dX5_island_32 : decode cX5_island 32 = .ok (.iload_n 2, 1) := by decide +kernel
theorem dX5_island_33 : decode cX5_island 33 = .ok (.if_icmp .ne 7, 3) := by decide +kernel
theorem dX5_island_36 : decode cX5_island 36 = .ok (.iconst 0, 1) := by decide +kernel
theorem dX5_island_37 : decode cX5_island 37 = .ok (.goto 4, 3) := by decide +kernel
theorem dX5_island_40 : decode cX5_island 40 = .ok (.iconst 1, 1) := by decide +kernel
theorem dX5_island_41 : decode cX5_island 41 = .ok (.ireturn, 1) := by decide +kernel
theorem dX5_wind_0 : decode cX5_wind 0 = .ok (.iload_n 1, 1) := by decide +kernel
theorem dX5_wind_1 : decode cX5_wind 1 = .ok (.iconst 0, 1) := by decide +kernel
theorem dX5_wind_2 : decode cX5_wind 2 = .ok (.bipush 7, 2) := by decide +kernel
theorem dX5_wind_4 : decode cX5_wind 4 = .ok (.invokestatic 71, 3) := by decide +kernel
theorem dX5_wind_7 : decode cX5_wind 7 = .ok (.ifCond .eq 12, 3) := by decide +kernel
theorem dX5_wind_10 : decode cX5_wind 10 = .ok (.aload_n 0, 1) := by decide +kernel
theorem dX5_wind_11 : decode cX5_wind 11 = .ok (.iconst 2, 1) := by decide +kernel
theorem dX5_wind_12 : decode cX5_wind 12 = .ok (.iload_n 1, 1) := by decide +kernel
theorem dX5_wind_13 : decode cX5_wind 13 = .ok (.invokevirtual 111, 3) := by decide +kernel
theorem dX5_wind_16 : decode cX5_wind 16 = .ok (.goto 9, 3) := by decide +kernel
theorem dX5_wind_19 : decode cX5_wind 19 = .ok (.aload_n 0, 1) := by decide +kernel
theorem dX5_wind_20 : decode cX5_wind 20 = .ok (.ldc 66, 2) := by decide +kernel
theorem dX5_wind_22 : decode cX5_wind 22 = .ok (.invokevirtual 86, 3) := by decide +kernel
theorem dX5_wind_25 : decode cX5_wind 25 = .ok (.ireturn, 1) := by decide +kernel
theorem dX5_fish_0 : decode cX5_fish 0 = .ok (.iload_n 1, 1) := by decide +kernel
theorem dX5_fish_1 : decode cX5_fish 1 = .ok (.iconst 0, 1) := by decide +kernel
theorem dX5_fish_2 : decode cX5_fish 2 = .ok (.ldc 150, 2) := by decide +kernel
theorem dX5_fish_4 : decode cX5_fish 4 = .ok (.invokestatic 71, 3) := by decide +kernel
theorem dX5_fish_7 : decode cX5_fish 7 = .ok (.ifCond .eq 12, 3) := by decide +kernel
theorem dX5_fish_10 : decode cX5_fish 10 = .ok (.aload_n 0, 1) := by decide +kernel
theorem dX5_fish_11 : decode cX5_fish 11 = .ok (.iconst 3, 1) := by decide +kernel
theorem dX5_fish_12 : decode cX5_fish 12 = .ok (.iload_n 1, 1) := by decide +kernel
theorem dX5_fish_13 : decode cX5_fish 13 = .ok (.invokevirtual 111, 3) := by decide +kernel
theorem dX5_fish_16 : decode cX5_fish 16 = .ok (.goto 9, 3) := by decide +kernel
theorem dX5_fish_19 : decode cX5_fish 19 = .ok (.aload_n 0, 1) := by decide +kernel
theorem dX5_fish_20 : decode cX5_fish 20 = .ok (.ldc 66, 2) := by decide +kernel
theorem dX5_fish_22 : decode cX5_fish 22 = .ok (.invokevirtual 86, 3) := by decide +kernel
theorem dX5_fish_25 : decode cX5_fish 25 = .ok (.ireturn, 1) := by decide +kernel
theorem dX5_store_0 : decode cX5_store 0 = .ok (.iload_n 1, 1) := by decide +kernel
theorem dX5_store_1 : decode cX5_store 1 = .ok (.iconst 0, 1) := by decide +kernel
theorem dX5_store_2 : decode cX5_store 2 = .ok (.sipush 9999, 3) := by decide +kernel
theorem dX5_store_5 : decode cX5_store 5 = .ok (.invokestatic 71, 3) := by decide +kernel
theorem dX5_store_8 : decode cX5_store 8 = .ok (.ifCond .eq 12, 3) := by decide +kernel
theorem dX5_store_11 : decode cX5_store 11 = .ok (.aload_n 0, 1) := by decide +kernel
theorem dX5_store_12 : decode cX5_store 12 = .ok (.iconst 1, 1) := by decide +kernel
theorem dX5_store_13 : decode cX5_store 13 = .ok (.iload_n 1, 1) := by decide +kernel
theorem dX5_store_14 : decode cX5_store 14 = .ok (.invokevirtual 111, 3) := by decide +kernel
theorem dX5_store_17 : decode cX5_store 17 = .ok (.goto 9, 3) := by decide +kernel
theorem dX5_store_20 : decode cX5_store 20 = .ok (.aload_n 0, 1) := by decide +kernel
theorem dX5_store_21 : decode cX5_store 21 = .ok (.ldc 66, 2) := by decide +kernel
theorem dX5_store_23 : decode cX5_store 23 = .ok (.invokevirtual 86, 3) := by decide +kernel
theorem dX5_store_26 : decode cX5_store 26 = .ok (.ireturn, 1) := by decide +kernel
theorem dX5_landed_0 : decode cX5_landed 0 = .ok (.iconst 0, 1) := by decide +kernel
theorem dX5_landed_1 : decode cX5_landed 1 = .ok (.istore_n 1, 1) := by decide +kernel
theorem dX5_landed_2 : decode cX5_landed 2 = .ok (.iconst 0, 1) := by decide +kernel
theorem dX5_landed_3 : decode cX5_landed 3 = .ok (.istore_n 2, 1) := by decide +kernel
theorem dX5_landed_4 : decode cX5_landed 4 = .ok (.iload_n 2, 1) := by decide +kernel
theorem dX5_landed_5 : decode cX5_landed 5 = .ok (.iconst 4, 1) := by decide +kernel
theorem dX5_landed_6 : decode cX5_landed 6 = .ok (.if_icmp .ge 27, 3) := by decide +kernel
theorem dX5_landed_9 : decode cX5_landed 9 = .ok (.iload_n 1, 1) := by decide +kernel
theorem dX5_landed_10 : decode cX5_landed 10 = .ok (.aload_n 0, 1) := by decide +kernel
theorem dX5_landed_11 : decode cX5_landed 11 = .ok (.iload_n 2, 1) := by decide +kernel
theorem dX5_landed_12 : decode cX5_landed 12 = .ok (.invokevirtual 132, 3) := by decide +kernel
theorem dX5_landed_15 : decode cX5_landed 15 = .ok (.ifCond .eq 9, 3) := by decide +kernel
theorem dX5_landed_18 : decode cX5_landed 18 = .ok (.iconst 1, 1) := by decide +kernel
theorem dX5_landed_19 : decode cX5_landed 19 = .ok (.iload_n 2, 1) := by decide +kernel
theorem dX5_landed_20 : decode cX5_landed 20 = .ok (.ishl, 1) := by decide +kernel
theorem dX5_landed_21 : decode cX5_landed 21 = .ok (.goto 4, 3) := by decide +kernel
theorem dX5_landed_24 : decode cX5_landed 24 = .ok (.iconst 0, 1) := by decide +kernel
theorem dX5_landed_25 : decode cX5_landed 25 = .ok (.ior, 1) := by decide +kernel
theorem dX5_landed_26 : decode cX5_landed 26 = .ok (.istore_n 1, 1) := by decide +kernel
theorem dX5_landed_27 : decode cX5_landed 27 = .ok (.iinc 2 1, 3) := by decide +kernel
theorem dX5_landed_30 : decode cX5_landed 30 = .ok (.goto (-26), 3) := by decide +kernel
theorem dX5_landed_33 : decode cX5_landed 33 = .ok (.iload_n 1, 1) := by decide +kernel
theorem dX5_landed_34 : decode cX5_landed 34 = .ok (.ireturn, 1) := by decide +kernel
theorem dX5_watch_0 : decode cX5_watch 0 = .ok (.iconst 0, 1) := by decide +kernel
theorem dX5_watch_1 : decode cX5_watch 1 = .ok (.istore_n 1, 1) := by decide +kernel
theorem dX5_watch_2 : decode cX5_watch 2 = .ok (.iload_n 1, 1) := by decide +kernel
theorem dX5_watch_3 : decode cX5_watch 3 = .ok (.iconst 4, 1) := by decide +kernel
theorem dX5_watch_4 : decode cX5_watch 4 = .ok (.if_icmp .ge 24, 3) := by decide +kernel
theorem dX5_watch_7 : decode cX5_watch 7 = .ok (.aload_n 0, 1) := by decide +kernel
theorem dX5_watch_8 : decode cX5_watch 8 = .ok (.getfield 9, 3) := by decide +kernel
theorem dX5_watch_11 : decode cX5_watch 11 = .ok (.iload_n 1, 1) := by decide +kernel
theorem dX5_watch_12 : decode cX5_watch 12 = .ok (.iconst 0, 1) := by decide +kernel
theorem dX5_watch_13 : decode cX5_watch 13 = .ok (.invokestatic 79, 3) := by decide +kernel
theorem dX5_watch_16 : decode cX5_watch 16 = .ok (.aload_n 0, 1) := by decide +kernel
theorem dX5_watch_17 : decode cX5_watch 17 = .ok (.iload_n 1, 1) := by decide +kernel
theorem dX5_watch_18 : decode cX5_watch 18 = .ok (.invokevirtual 141, 3) := by decide +kernel
theorem dX5_watch_21 : decode cX5_watch 21 = .ok (.iastore, 1) := by decide +kernel
theorem dX5_watch_22 : decode cX5_watch 22 = .ok (.iinc 1 1, 3) := by decide +kernel
theorem dX5_watch_25 : decode cX5_watch 25 = .ok (.goto (-23), 3) := by decide +kernel
theorem dX5_watch_28 : decode cX5_watch 28 = .ok (.iconst 0, 1) := by decide +kernel
theorem dX5_watch_29 : decode cX5_watch 29 = .ok (.istore_n 1, 1) := by decide +kernel
theorem dX5_watch_30 : decode cX5_watch 30 = .ok (.iload_n 1, 1) := by decide +kernel
theorem dX5_watch_31 : decode cX5_watch 31 = .ok (.aload_n 0, 1) := by decide +kernel
theorem dX5_watch_32 : decode cX5_watch 32 = .ok (.getfield 9, 3) := by decide +kernel
theorem dX5_watch_35 : decode cX5_watch 35 = .ok (.iconst 4, 1) := by decide +kernel
theorem dX5_watch_36 : decode cX5_watch 36 = .ok (.iaload, 1) := by decide +kernel
theorem dX5_watch_37 : decode cX5_watch 37 = .ok (.if_icmp .ge 32, 3) := by decide +kernel
theorem dX5_watch_40 : decode cX5_watch 40 = .ok (.aload_n 0, 1) := by decide +kernel
theorem dX5_watch_41 : decode cX5_watch 41 = .ok (.getfield 9, 3) := by decide +kernel
theorem dX5_watch_44 : decode cX5_watch 44 = .ok (.iload_n 1, 1) := by decide +kernel
theorem dX5_watch_45 : decode cX5_watch 45 = .ok (.iconst 1, 1) := by decide +kernel
theorem dX5_watch_46 : decode cX5_watch 46 = .ok (.invokestatic 75, 3) := by decide +kernel
theorem dX5_watch_49 : decode cX5_watch 49 = .ok (.bipush 99, 2) := by decide +kernel
theorem dX5_watch_51 : decode cX5_watch 51 = .ok (.aload_n 0, 1) := by decide +kernel
theorem dX5_watch_52 : decode cX5_watch 52 = .ok (.iload_n 1, 1) := by decide +kernel
theorem dX5_watch_53 : decode cX5_watch 53 = .ok (.iconst 1, 1) := by decide +kernel
theorem dX5_watch_54 : decode cX5_watch 54 = .ok (.invokevirtual 98, 3) := by decide +kernel
theorem dX5_watch_57 : decode cX5_watch 57 = .ok (.iconst 1, 1) := by decide +kernel
theorem dX5_watch_58 : decode cX5_watch 58 = .ok (.iadd, 1) := by decide +kernel
theorem dX5_watch_59 : decode cX5_watch 59 = .ok (.invokestatic 151, 3) := by decide +kernel
theorem dX5_watch_62 : decode cX5_watch 62 = .ok (.iastore, 1) := by decide +kernel
theorem dX5_watch_63 : decode cX5_watch 63 = .ok (.iinc 1 1, 3) := by decide +kernel
theorem dX5_watch_66 : decode cX5_watch 66 = .ok (.goto (-36), 3) := by decide +kernel
theorem dX5_watch_69 : decode cX5_watch 69 = .ok (.aload_n 0, 1) := by decide +kernel
theorem dX5_watch_70 : decode cX5_watch 70 = .ok (.getfield 9, 3) := by decide +kernel
theorem dX5_watch_73 : decode cX5_watch 73 = .ok (.iconst 0, 1) := by decide +kernel
theorem dX5_watch_74 : decode cX5_watch 74 = .ok (.dup2, 1) := by decide +kernel
theorem dX5_watch_75 : decode cX5_watch 75 = .ok (.iaload, 1) := by decide +kernel
theorem dX5_watch_76 : decode cX5_watch 76 = .ok (.iconst 1, 1) := by decide +kernel
theorem dX5_watch_77 : decode cX5_watch 77 = .ok (.iadd, 1) := by decide +kernel
theorem dX5_watch_78 : decode cX5_watch 78 = .ok (.iastore, 1) := by decide +kernel
theorem dX5_watch_79 : decode cX5_watch 79 = .ok (.return_, 1) := by decide +kernel
theorem dX5_watches_0 : decode cX5_watches 0 = .ok (.iconst 0, 1) := by decide +kernel
theorem dX5_watches_1 : decode cX5_watches 1 = .ok (.istore_n 2, 1) := by decide +kernel
theorem dX5_watches_2 : decode cX5_watches 2 = .ok (.iload_n 2, 1) := by decide +kernel
theorem dX5_watches_3 : decode cX5_watches 3 = .ok (.iload_n 1, 1) := by decide +kernel
theorem dX5_watches_4 : decode cX5_watches 4 = .ok (.if_icmp .ge 13, 3) := by decide +kernel
theorem dX5_watches_7 : decode cX5_watches 7 = .ok (.aload_n 0, 1) := by decide +kernel
theorem dX5_watches_8 : decode cX5_watches 8 = .ok (.invokevirtual 156, 3) := by decide +kernel
theorem dX5_watches_11 : decode cX5_watches 11 = .ok (.iinc 2 1, 3) := by decide +kernel
theorem dX5_watches_14 : decode cX5_watches 14 = .ok (.goto (-12), 3) := by decide +kernel
theorem dX5_watches_17 : decode cX5_watches 17 = .ok (.return_, 1) := by decide +kernel
theorem dX5_go_0 : decode cX5_go 0 = .ok (.iload_n 1, 1) := by decide +kernel
theorem dX5_go_1 : decode cX5_go 1 = .ok (.iconst 1, 1) := by decide +kernel
theorem dX5_go_2 : decode cX5_go 2 = .ok (.bipush 60, 2) := by decide +kernel
theorem dX5_go_4 : decode cX5_go 4 = .ok (.invokestatic 71, 3) := by decide +kernel
theorem dX5_go_7 : decode cX5_go 7 = .ok (.ifCond .ne 10, 3) := by decide +kernel
theorem dX5_go_10 : decode cX5_go 10 = .ok (.aload_n 0, 1) := by decide +kernel
theorem dX5_go_11 : decode cX5_go 11 = .ok (.ldc 66, 2) := by decide +kernel
theorem dX5_go_13 : decode cX5_go 13 = .ok (.invokevirtual 86, 3) := by decide +kernel
theorem dX5_go_16 : decode cX5_go 16 = .ok (.ireturn, 1) := by decide +kernel
theorem dX5_go_17 : decode cX5_go 17 = .ok (.aload_n 0, 1) := by decide +kernel
theorem dX5_go_18 : decode cX5_go 18 = .ok (.getfield 9, 3) := by decide +kernel
theorem dX5_go_21 : decode cX5_go 21 = .ok (.iconst 0, 1) := by decide +kernel
theorem dX5_go_22 : decode cX5_go 22 = .ok (.iaload, 1) := by decide +kernel
theorem dX5_go_23 : decode cX5_go 23 = .ok (.iload_n 1, 1) := by decide +kernel
theorem dX5_go_24 : decode cX5_go 24 = .ok (.iadd, 1) := by decide +kernel
theorem dX5_go_25 : decode cX5_go 25 = .ok (.ldc 159, 2) := by decide +kernel
theorem dX5_go_27 : decode cX5_go 27 = .ok (.if_icmp .le 10, 3) := by decide +kernel
theorem dX5_go_30 : decode cX5_go 30 = .ok (.aload_n 0, 1) := by decide +kernel
theorem dX5_go_31 : decode cX5_go 31 = .ok (.ldc 160, 2) := by decide +kernel
theorem dX5_go_33 : decode cX5_go 33 = .ok (.invokevirtual 86, 3) := by decide +kernel
theorem dX5_go_36 : decode cX5_go 36 = .ok (.ireturn, 1) := by decide +kernel
theorem dX5_go_37 : decode cX5_go 37 = .ok (.aload_n 0, 1) := by decide +kernel
theorem dX5_go_38 : decode cX5_go 38 = .ok (.iload_n 1, 1) := by decide +kernel
theorem dX5_go_39 : decode cX5_go 39 = .ok (.invokevirtual 161, 3) := by decide +kernel
theorem dX5_go_42 : decode cX5_go 42 = .ok (.aload_n 0, 1) := by decide +kernel
theorem dX5_go_43 : decode cX5_go 43 = .ok (.invokevirtual 165, 3) := by decide +kernel
theorem dX5_go_46 : decode cX5_go 46 = .ok (.invokestatic 114, 3) := by decide +kernel
theorem dX5_go_49 : decode cX5_go 49 = .ok (.ireturn, 1) := by decide +kernel
theorem dX5_feeds_0 : decode cX5_feeds 0 = .ok (.aload_n 0, 1) := by decide +kernel
theorem dX5_feeds_1 : decode cX5_feeds 1 = .ok (.iload_n 1, 1) := by decide +kernel
theorem dX5_feeds_2 : decode cX5_feeds 2 = .ok (.invokevirtual 147, 3) := by decide +kernel
theorem dX5_feeds_5 : decode cX5_feeds 5 = .ok (.ifCond .ne 10, 3) := by decide +kernel
theorem dX5_feeds_8 : decode cX5_feeds 8 = .ok (.aload_n 0, 1) := by decide +kernel
theorem dX5_feeds_9 : decode cX5_feeds 9 = .ok (.ldc 66, 2) := by decide +kernel
theorem dX5_feeds_11 : decode cX5_feeds 11 = .ok (.invokevirtual 86, 3) := by decide +kernel
theorem dX5_feeds_14 : decode cX5_feeds 14 = .ok (.ireturn, 1) := by decide +kernel
theorem dX5_feeds_15 : decode cX5_feeds 15 = .ok (.aload_n 0, 1) := by decide +kernel
theorem dX5_feeds_16 : decode cX5_feeds 16 = .ok (.getfield 9, 3) := by decide +kernel
theorem dX5_feeds_19 : decode cX5_feeds 19 = .ok (.iconst 1, 1) := by decide +kernel
theorem dX5_feeds_20 : decode cX5_feeds 20 = .ok (.iaload, 1) := by decide +kernel
theorem dX5_feeds_21 : decode cX5_feeds 21 = .ok (.iload_n 1, 1) := by decide +kernel
theorem dX5_feeds_22 : decode cX5_feeds 22 = .ok (.invokestatic 114, 3) := by decide +kernel
theorem dX5_feeds_25 : decode cX5_feeds 25 = .ok (.if_icmp .ge 10, 3) := by decide +kernel
theorem dX5_feeds_28 : decode cX5_feeds 28 = .ok (.aload_n 0, 1) := by decide +kernel
theorem dX5_feeds_29 : decode cX5_feeds 29 = .ok (.ldc 160, 2) := by decide +kernel
theorem dX5_feeds_31 : decode cX5_feeds 31 = .ok (.invokevirtual 86, 3) := by decide +kernel
theorem dX5_feeds_34 : decode cX5_feeds 34 = .ok (.ireturn, 1) := by decide +kernel
theorem dX5_feeds_35 : decode cX5_feeds 35 = .ok (.iconst 0, 1) := by decide +kernel
theorem dX5_feeds_36 : decode cX5_feeds 36 = .ok (.istore_n 2, 1) := by decide +kernel
theorem dX5_feeds_37 : decode cX5_feeds 37 = .ok (.iload_n 2, 1) := by decide +kernel
theorem dX5_feeds_38 : decode cX5_feeds 38 = .ok (.aload_n 0, 1) := by decide +kernel
theorem dX5_feeds_39 : decode cX5_feeds 39 = .ok (.getfield 9, 3) := by decide +kernel
theorem dX5_feeds_42 : decode cX5_feeds 42 = .ok (.iconst 4, 1) := by decide +kernel
theorem dX5_feeds_43 : decode cX5_feeds 43 = .ok (.iaload, 1) := by decide +kernel
theorem dX5_feeds_44 : decode cX5_feeds 44 = .ok (.if_icmp .ge 37, 3) := by decide +kernel
theorem dX5_feeds_47 : decode cX5_feeds 47 = .ok (.aload_n 0, 1) := by decide +kernel
theorem dX5_feeds_48 : decode cX5_feeds 48 = .ok (.getfield 9, 3) := by decide +kernel
theorem dX5_feeds_51 : decode cX5_feeds 51 = .ok (.iload_n 2, 1) := by decide +kernel
theorem dX5_feeds_52 : decode cX5_feeds 52 = .ok (.iconst 1, 1) := by decide +kernel
theorem dX5_feeds_53 : decode cX5_feeds 53 = .ok (.invokestatic 75, 3) := by decide +kernel
theorem dX5_feeds_56 : decode cX5_feeds 56 = .ok (.iload_n 1, 1) := by decide +kernel
theorem dX5_feeds_57 : decode cX5_feeds 57 = .ok (.iload_n 2, 1) := by decide +kernel
theorem dX5_feeds_58 : decode cX5_feeds 58 = .ok (.invokestatic 101, 3) := by decide +kernel
theorem dX5_feeds_61 : decode cX5_feeds 61 = .ok (.ifCond .eq 7, 3) := by decide +kernel
theorem dX5_feeds_64 : decode cX5_feeds 64 = .ok (.iconst 0, 1) := by decide +kernel
theorem dX5_feeds_65 : decode cX5_feeds 65 = .ok (.goto 9, 3) := by decide +kernel
theorem dX5_feeds_68 : decode cX5_feeds 68 = .ok (.aload_n 0, 1) := by decide +kernel
theorem dX5_feeds_69 : decode cX5_feeds 69 = .ok (.iload_n 2, 1) := by decide +kernel
theorem dX5_feeds_70 : decode cX5_feeds 70 = .ok (.iconst 1, 1) := by decide +kernel
theorem dX5_feeds_71 : decode cX5_feeds 71 = .ok (.invokevirtual 98, 3) := by decide +kernel
theorem dX5_feeds_74 : decode cX5_feeds 74 = .ok (.iastore, 1) := by decide +kernel
theorem dX5_feeds_75 : decode cX5_feeds 75 = .ok (.iinc 2 1, 3) := by decide +kernel
theorem dX5_feeds_78 : decode cX5_feeds 78 = .ok (.goto (-41), 3) := by decide +kernel
theorem dX5_feeds_81 : decode cX5_feeds 81 = .ok (.aload_n 0, 1) := by decide +kernel
theorem dX5_feeds_82 : decode cX5_feeds 82 = .ok (.getfield 9, 3) := by decide +kernel
theorem dX5_feeds_85 : decode cX5_feeds 85 = .ok (.iconst 1, 1) := by decide +kernel
theorem dX5_feeds_86 : decode cX5_feeds 86 = .ok (.dup2, 1) := by decide +kernel
theorem dX5_feeds_87 : decode cX5_feeds 87 = .ok (.iaload, 1) := by decide +kernel
theorem dX5_feeds_88 : decode cX5_feeds 88 = .ok (.iload_n 1, 1) := by decide +kernel
theorem dX5_feeds_89 : decode cX5_feeds 89 = .ok (.invokestatic 114, 3) := by decide +kernel
theorem dX5_feeds_92 : decode cX5_feeds 92 = .ok (.isub, 1) := by decide +kernel
theorem dX5_feeds_93 : decode cX5_feeds 93 = .ok (.iastore, 1) := by decide +kernel
theorem dX5_feeds_94 : decode cX5_feeds 94 = .ok (.aload_n 0, 1) := by decide +kernel
theorem dX5_feeds_95 : decode cX5_feeds 95 = .ok (.getfield 9, 3) := by decide +kernel
theorem dX5_feeds_98 : decode cX5_feeds 98 = .ok (.iconst 1, 1) := by decide +kernel
theorem dX5_feeds_99 : decode cX5_feeds 99 = .ok (.iaload, 1) := by decide +kernel
theorem dX5_feeds_100 : decode cX5_feeds 100 = .ok (.ireturn, 1) := by decide +kernel
theorem dX5_islands_0 : decode cX5_islands 0 = .ok (.iconst 0, 1) := by decide +kernel
theorem dX5_islands_1 : decode cX5_islands 1 = .ok (.istore_n 1, 1) := by decide +kernel
theorem dX5_islands_2 : decode cX5_islands 2 = .ok (.iconst 0, 1) := by decide +kernel
theorem dX5_islands_3 : decode cX5_islands 3 = .ok (.istore_n 2, 1) := by decide +kernel
theorem dX5_islands_4 : decode cX5_islands 4 = .ok (.iload_n 2, 1) := by decide +kernel
theorem dX5_islands_5 : decode cX5_islands 5 = .ok (.bipush 100, 2) := by decide +kernel
theorem dX5_islands_7 : decode cX5_islands 7 = .ok (.if_icmp .ge 21, 3) := by decide +kernel
theorem dX5_islands_10 : decode cX5_islands 10 = .ok (.iload_n 1, 1) := by decide +kernel
theorem dX5_islands_11 : decode cX5_islands 11 = .ok (.aload_n 0, 1) := by decide +kernel
theorem dX5_islands_12 : decode cX5_islands 12 = .ok (.getfield 9, 3) := by decide +kernel
theorem dX5_islands_15 : decode cX5_islands 15 = .ok (.bipush 16, 2) := by decide +kernel
theorem dX5_islands_17 : decode cX5_islands 17 = .ok (.iload_n 2, 1) := by decide +kernel
theorem dX5_islands_18 : decode cX5_islands 18 = .ok (.iadd, 1) := by decide +kernel
theorem dX5_islands_19 : decode cX5_islands 19 = .ok (.iaload, 1) := by decide +kernel
theorem dX5_islands_20 : decode cX5_islands 20 = .ok (.iadd, 1) := by decide +kernel
theorem dX5_islands_21 : decode cX5_islands 21 = .ok (.istore_n 1, 1) := by decide +kernel
theorem dX5_islands_22 : decode cX5_islands 22 = .ok (.iinc 2 1, 3) := by decide +kernel
theorem dX5_islands_25 : decode cX5_islands 25 = .ok (.goto (-21), 3) := by decide +kernel
theorem dX5_islands_28 : decode cX5_islands 28 = .ok (.iload_n 1, 1) := by decide +kernel
theorem dX5_islands_29 : decode cX5_islands 29 = .ok (.ireturn, 1) := by decide +kernel
theorem dX5_hungriest_0 : decode cX5_hungriest 0 = .ok (.iconst 0, 1) := by decide +kernel
theorem dX5_hungriest_1 : decode cX5_hungriest 1 = .ok (.istore_n 1, 1) := by decide +kernel
theorem dX5_hungriest_2 : decode cX5_hungriest 2 = .ok (.iconst 0, 1) := by decide +kernel
theorem dX5_hungriest_3 : decode cX5_hungriest 3 = .ok (.istore_n 2, 1) := by decide +kernel
theorem dX5_hungriest_4 : decode cX5_hungriest 4 = .ok (.iload_n 2, 1) := by decide +kernel
theorem dX5_hungriest_5 : decode cX5_hungriest 5 = .ok (.aload_n 0, 1) := by decide +kernel
theorem dX5_hungriest_6 : decode cX5_hungriest 6 = .ok (.getfield 9, 3) := by decide +kernel
theorem dX5_hungriest_9 : decode cX5_hungriest 9 = .ok (.iconst 4, 1) := by decide +kernel
theorem dX5_hungriest_10 : decode cX5_hungriest 10 = .ok (.iaload, 1) := by decide +kernel
theorem dX5_hungriest_11 : decode cX5_hungriest 11 = .ok (.if_icmp .ge 20, 3) := by decide +kernel
theorem dX5_hungriest_14 : decode cX5_hungriest 14 = .ok (.iload_n 1, 1) := by decide +kernel
theorem dX5_hungriest_15 : decode cX5_hungriest 15 = .ok (.aload_n 0, 1) := by decide +kernel
theorem dX5_hungriest_16 : decode cX5_hungriest 16 = .ok (.iload_n 2, 1) := by decide +kernel
theorem dX5_hungriest_17 : decode cX5_hungriest 17 = .ok (.iconst 1, 1) := by decide +kernel
theorem dX5_hungriest_18 : decode cX5_hungriest 18 = .ok (.invokevirtual 98, 3) := by decide +kernel
theorem dX5_hungriest_21 : decode cX5_hungriest 21 = .ok (.invokestatic 169, 3) := by decide +kernel
theorem dX5_hungriest_24 : decode cX5_hungriest 24 = .ok (.istore_n 1, 1) := by decide +kernel
theorem dX5_hungriest_25 : decode cX5_hungriest 25 = .ok (.iinc 2 1, 3) := by decide +kernel
theorem dX5_hungriest_28 : decode cX5_hungriest 28 = .ok (.goto (-24), 3) := by decide +kernel
theorem dX5_hungriest_31 : decode cX5_hungriest 31 = .ok (.iload_n 1, 1) := by decide +kernel
theorem dX5_hungriest_32 : decode cX5_hungriest 32 = .ok (.ireturn, 1) := by decide +kernel
theorem dX5_now_0 : decode cX5_now 0 = .ok (.iload_n 1, 1) := by decide +kernel
theorem dX5_now_1 : decode cX5_now 1 = .ok (.tableswitch 61 0 5 #[39, 39, 39, 46, 51, 56], 39) := by decide +kernel
theorem dX5_now_40 : decode cX5_now 40 = .ok (.aload_n 0, 1) := by decide +kernel
theorem dX5_now_41 : decode cX5_now 41 = .ok (.getfield 9, 3) := by decide +kernel
theorem dX5_now_44 : decode cX5_now 44 = .ok (.iload_n 1, 1) := by decide +kernel
theorem dX5_now_45 : decode cX5_now 45 = .ok (.iaload, 1) := by decide +kernel
theorem dX5_now_46 : decode cX5_now 46 = .ok (.ireturn, 1) := by decide +kernel
theorem dX5_now_47 : decode cX5_now 47 = .ok (.aload_n 0, 1) := by decide +kernel
theorem dX5_now_48 : decode cX5_now 48 = .ok (.invokevirtual 165, 3) := by decide +kernel
theorem dX5_now_51 : decode cX5_now 51 = .ok (.ireturn, 1) := by decide +kernel
theorem dX5_now_52 : decode cX5_now 52 = .ok (.aload_n 0, 1) := by decide +kernel
theorem dX5_now_53 : decode cX5_now 53 = .ok (.invokevirtual 172, 3) := by decide +kernel
theorem dX5_now_56 : decode cX5_now 56 = .ok (.ireturn, 1) := by decide +kernel
theorem dX5_now_57 : decode cX5_now 57 = .ok (.aload_n 0, 1) := by decide +kernel
theorem dX5_now_58 : decode cX5_now 58 = .ok (.invokevirtual 175, 3) := by decide +kernel
theorem dX5_now_61 : decode cX5_now 61 = .ok (.ireturn, 1) := by decide +kernel
theorem dX5_now_62 : decode cX5_now 62 = .ok (.aload_n 0, 1) := by decide +kernel
theorem dX5_now_63 : decode cX5_now 63 = .ok (.ldc 66, 2) := by decide +kernel
theorem dX5_now_65 : decode cX5_now 65 = .ok (.invokevirtual 86, 3) := by decide +kernel
theorem dX5_now_68 : decode cX5_now 68 = .ok (.ireturn, 1) := by decide +kernel
theorem dX5_aheadOf_0 : decode cX5_aheadOf 0 = .ok (.aload_n 0, 1) := by decide +kernel
theorem dX5_aheadOf_1 : decode cX5_aheadOf 1 = .ok (.getfield 9, 3) := by decide +kernel
theorem dX5_aheadOf_4 : decode cX5_aheadOf 4 = .ok (.aload_n 0, 1) := by decide +kernel
theorem dX5_aheadOf_5 : decode cX5_aheadOf 5 = .ok (.getfield 16, 3) := by decide +kernel
theorem dX5_aheadOf_8 : decode cX5_aheadOf 8 = .ok (.invokestatic 67, 3) := by decide +kernel
theorem dX5_aheadOf_11 : decode cX5_aheadOf 11 = .ok (.aload_n 0, 1) := by decide +kernel
theorem dX5_aheadOf_12 : decode cX5_aheadOf 12 = .ok (.iload_n 2, 1) := by decide +kernel
theorem dX5_aheadOf_13 : decode cX5_aheadOf 13 = .ok (.invokevirtual 161, 3) := by decide +kernel
theorem dX5_aheadOf_16 : decode cX5_aheadOf 16 = .ok (.aload_n 0, 1) := by decide +kernel
theorem dX5_aheadOf_17 : decode cX5_aheadOf 17 = .ok (.aload_n 0, 1) := by decide +kernel
theorem dX5_aheadOf_18 : decode cX5_aheadOf 18 = .ok (.iload_n 1, 1) := by decide +kernel
theorem dX5_aheadOf_19 : decode cX5_aheadOf 19 = .ok (.iconst 0, 1) := by decide +kernel
theorem dX5_aheadOf_20 : decode cX5_aheadOf 20 = .ok (.invokevirtual 117, 3) := by decide +kernel
theorem dX5_aheadOf_23 : decode cX5_aheadOf 23 = .ok (.invokevirtual 178, 3) := by decide +kernel
theorem dX5_aheadOf_26 : decode cX5_aheadOf 26 = .ok (.ireturn, 1) := by decide +kernel
theorem dX5_ahead_0 : decode cX5_ahead 0 = .ok (.iload_n 1, 1) := by decide +kernel
theorem dX5_ahead_1 : decode cX5_ahead 1 = .ok (.invokestatic 138, 3) := by decide +kernel
theorem dX5_ahead_4 : decode cX5_ahead 4 = .ok (.ifCond .eq 23, 3) := by decide +kernel
theorem dX5_ahead_7 : decode cX5_ahead 7 = .ok (.iload_n 2, 1) := by decide +kernel
theorem dX5_ahead_8 : decode cX5_ahead 8 = .ok (.iconst 0, 1) := by decide +kernel
theorem dX5_ahead_9 : decode cX5_ahead 9 = .ok (.sipush 200, 3) := by decide +kernel
theorem dX5_ahead_12 : decode cX5_ahead 12 = .ok (.invokestatic 71, 3) := by decide +kernel
theorem dX5_ahead_15 : decode cX5_ahead 15 = .ok (.ifCond .eq 12, 3) := by decide +kernel
theorem dX5_ahead_18 : decode cX5_ahead 18 = .ok (.aload_n 0, 1) := by decide +kernel
theorem dX5_ahead_19 : decode cX5_ahead 19 = .ok (.iload_n 1, 1) := by decide +kernel
theorem dX5_ahead_20 : decode cX5_ahead 20 = .ok (.iload_n 2, 1) := by decide +kernel
theorem dX5_ahead_21 : decode cX5_ahead 21 = .ok (.invokevirtual 181, 3) := by decide +kernel
theorem dX5_ahead_24 : decode cX5_ahead 24 = .ok (.goto 9, 3) := by decide +kernel
theorem dX5_ahead_27 : decode cX5_ahead 27 = .ok (.aload_n 0, 1) := by decide +kernel
theorem dX5_ahead_28 : decode cX5_ahead 28 = .ok (.ldc 66, 2) := by decide +kernel
theorem dX5_ahead_30 : decode cX5_ahead 30 = .ok (.invokevirtual 86, 3) := by decide +kernel
theorem dX5_ahead_33 : decode cX5_ahead 33 = .ok (.ireturn, 1) := by decide +kernel
theorem dX5_landsIn_0 : decode cX5_landsIn 0 = .ok (.aload_n 0, 1) := by decide +kernel
theorem dX5_landsIn_1 : decode cX5_landsIn 1 = .ok (.getfield 9, 3) := by decide +kernel
theorem dX5_landsIn_4 : decode cX5_landsIn 4 = .ok (.aload_n 0, 1) := by decide +kernel
theorem dX5_landsIn_5 : decode cX5_landsIn 5 = .ok (.getfield 16, 3) := by decide +kernel
theorem dX5_landsIn_8 : decode cX5_landsIn 8 = .ok (.invokestatic 67, 3) := by decide +kernel
theorem dX5_landsIn_11 : decode cX5_landsIn 11 = .ok (.iconst 0, 1) := by decide +kernel
theorem dX5_landsIn_12 : decode cX5_landsIn 12 = .ok (.istore_n 3, 1) := by decide +kernel
theorem dX5_landsIn_13 : decode cX5_landsIn 13 = .ok (.iload_n 3, 1) := by decide +kernel
theorem dX5_landsIn_14 : decode cX5_landsIn 14 = .ok (.iload_n 2, 1) := by decide +kernel
theorem dX5_landsIn_15 : decode cX5_landsIn 15 = .ok (.if_icmp .ge 21, 3) := by decide +kernel
theorem dX5_landsIn_18 : decode cX5_landsIn 18 = .ok (.aload_n 0, 1) := by decide +kernel
theorem dX5_landsIn_19 : decode cX5_landsIn 19 = .ok (.iload_n 1, 1) := by decide +kernel
theorem dX5_landsIn_20 : decode cX5_landsIn 20 = .ok (.invokevirtual 132, 3) := by decide +kernel
theorem dX5_landsIn_23 : decode cX5_landsIn 23 = .ok (.ifCond .ne 13, 3) := by decide +kernel
theorem dX5_landsIn_26 : decode cX5_landsIn 26 = .ok (.aload_n 0, 1) := by decide +kernel
theorem dX5_landsIn_27 : decode cX5_landsIn 27 = .ok (.invokevirtual 156, 3) := by decide +kernel
theorem dX5_landsIn_30 : decode cX5_landsIn 30 = .ok (.iinc 3 1, 3) := by decide +kernel
theorem dX5_landsIn_33 : decode cX5_landsIn 33 = .ok (.goto (-20), 3) := by decide +kernel
theorem dX5_landsIn_36 : decode cX5_landsIn 36 = .ok (.aload_n 0, 1) := by decide +kernel
theorem dX5_landsIn_37 : decode cX5_landsIn 37 = .ok (.aload_n 0, 1) := by decide +kernel
theorem dX5_landsIn_38 : decode cX5_landsIn 38 = .ok (.iload_n 1, 1) := by decide +kernel
theorem dX5_landsIn_39 : decode cX5_landsIn 39 = .ok (.invokevirtual 132, 3) := by decide +kernel
theorem dX5_landsIn_42 : decode cX5_landsIn 42 = .ok (.ifCond .eq 7, 3) := by decide +kernel
theorem dX5_landsIn_45 : decode cX5_landsIn 45 = .ok (.iload_n 3, 1) := by decide +kernel
theorem dX5_landsIn_46 : decode cX5_landsIn 46 = .ok (.goto 5, 3) := by decide +kernel
theorem dX5_landsIn_49 : decode cX5_landsIn 49 = .ok (.ldc 184, 2) := by decide +kernel
theorem dX5_landsIn_51 : decode cX5_landsIn 51 = .ok (.invokevirtual 178, 3) := by decide +kernel
theorem dX5_landsIn_54 : decode cX5_landsIn 54 = .ok (.ireturn, 1) := by decide +kernel
theorem dX5_told_0 : decode cX5_told 0 = .ok (.iload_n 1, 1) := by decide +kernel
theorem dX5_told_1 : decode cX5_told 1 = .ok (.ldc 184, 2) := by decide +kernel
theorem dX5_told_3 : decode cX5_told 3 = .ok (.if_icmp .ne 12, 3) := by decide +kernel
theorem dX5_told_6 : decode cX5_told 6 = .ok (.aload_n 0, 1) := by decide +kernel
theorem dX5_told_7 : decode cX5_told 7 = .ok (.ldc 185, 2) := by decide +kernel
theorem dX5_told_9 : decode cX5_told 9 = .ok (.invokevirtual 86, 3) := by decide +kernel
theorem dX5_told_12 : decode cX5_told 12 = .ok (.goto 4, 3) := by decide +kernel
theorem dX5_told_15 : decode cX5_told 15 = .ok (.iload_n 1, 1) := by decide +kernel
theorem dX5_told_16 : decode cX5_told 16 = .ok (.ireturn, 1) := by decide +kernel
theorem dX5_lands_0 : decode cX5_lands 0 = .ok (.iload_n 1, 1) := by decide +kernel
theorem dX5_lands_1 : decode cX5_lands 1 = .ok (.invokestatic 138, 3) := by decide +kernel
theorem dX5_lands_4 : decode cX5_lands 4 = .ok (.ifCond .eq 18, 3) := by decide +kernel
theorem dX5_lands_7 : decode cX5_lands 7 = .ok (.aload_n 0, 1) := by decide +kernel
theorem dX5_lands_8 : decode cX5_lands 8 = .ok (.aload_n 0, 1) := by decide +kernel
theorem dX5_lands_9 : decode cX5_lands 9 = .ok (.iload_n 1, 1) := by decide +kernel
theorem dX5_lands_10 : decode cX5_lands 10 = .ok (.sipush 200, 3) := by decide +kernel
theorem dX5_lands_13 : decode cX5_lands 13 = .ok (.invokevirtual 186, 3) := by decide +kernel
theorem dX5_lands_16 : decode cX5_lands 16 = .ok (.invokevirtual 189, 3) := by decide +kernel
theorem dX5_lands_19 : decode cX5_lands 19 = .ok (.goto 9, 3) := by decide +kernel
theorem dX5_lands_22 : decode cX5_lands 22 = .ok (.aload_n 0, 1) := by decide +kernel
theorem dX5_lands_23 : decode cX5_lands 23 = .ok (.ldc 66, 2) := by decide +kernel
theorem dX5_lands_25 : decode cX5_lands 25 = .ok (.invokevirtual 86, 3) := by decide +kernel
theorem dX5_lands_28 : decode cX5_lands 28 = .ok (.ireturn, 1) := by decide +kernel
theorem dX5_meets_0 : decode cX5_meets 0 = .ok (.iload_n 1, 1) := by decide +kernel
theorem dX5_meets_1 : decode cX5_meets 1 = .ok (.invokestatic 138, 3) := by decide +kernel
theorem dX5_meets_4 : decode cX5_meets 4 = .ok (.ifCond .eq 15, 3) := by decide +kernel
theorem dX5_meets_7 : decode cX5_meets 7 = .ok (.iload_n 2, 1) := by decide +kernel
theorem dX5_meets_8 : decode cX5_meets 8 = .ok (.invokestatic 138, 3) := by decide +kernel
theorem dX5_meets_11 : decode cX5_meets 11 = .ok (.ifCond .eq 8, 3) := by decide +kernel
theorem dX5_meets_14 : decode cX5_meets 14 = .ok (.iload_n 1, 1) := by decide +kernel
theorem dX5_meets_15 : decode cX5_meets 15 = .ok (.iload_n 2, 1) := by decide +kernel
theorem dX5_meets_16 : decode cX5_meets 16 = .ok (.if_icmp .ne 10, 3) := by decide +kernel
theorem dX5_meets_19 : decode cX5_meets 19 = .ok (.aload_n 0, 1) := by decide +kernel
theorem dX5_meets_20 : decode cX5_meets 20 = .ok (.ldc 66, 2) := by decide +kernel
theorem dX5_meets_22 : decode cX5_meets 22 = .ok (.invokevirtual 86, 3) := by decide +kernel
theorem dX5_meets_25 : decode cX5_meets 25 = .ok (.ireturn, 1) := by decide +kernel
theorem dX5_meets_26 : decode cX5_meets 26 = .ok (.aload_n 0, 1) := by decide +kernel
theorem dX5_meets_27 : decode cX5_meets 27 = .ok (.getfield 9, 3) := by decide +kernel
theorem dX5_meets_30 : decode cX5_meets 30 = .ok (.aload_n 0, 1) := by decide +kernel
theorem dX5_meets_31 : decode cX5_meets 31 = .ok (.getfield 16, 3) := by decide +kernel
theorem dX5_meets_34 : decode cX5_meets 34 = .ok (.invokestatic 67, 3) := by decide +kernel
theorem dX5_meets_37 : decode cX5_meets 37 = .ok (.iconst 0, 1) := by decide +kernel
theorem dX5_meets_38 : decode cX5_meets 38 = .ok (.istore_n 3, 1) := by decide +kernel
theorem dX5_meets_39 : decode cX5_meets 39 = .ok (.iload_n 3, 1) := by decide +kernel
theorem dX5_meets_40 : decode cX5_meets 40 = .ok (.sipush 200, 3) := by decide +kernel
theorem dX5_meets_43 : decode cX5_meets 43 = .ok (.if_icmp .ge 28, 3) := by decide +kernel
theorem dX5_meets_46 : decode cX5_meets 46 = .ok (.aload_n 0, 1) := by decide +kernel
theorem dX5_meets_47 : decode cX5_meets 47 = .ok (.iload_n 1, 1) := by decide +kernel
theorem dX5_meets_48 : decode cX5_meets 48 = .ok (.iconst 0, 1) := by decide +kernel
theorem dX5_meets_49 : decode cX5_meets 49 = .ok (.invokevirtual 117, 3) := by decide +kernel
theorem dX5_meets_52 : decode cX5_meets 52 = .ok (.aload_n 0, 1) := by decide +kernel
theorem dX5_meets_53 : decode cX5_meets 53 = .ok (.iload_n 2, 1) := by decide +kernel
theorem dX5_meets_54 : decode cX5_meets 54 = .ok (.iconst 0, 1) := by decide +kernel
theorem dX5_meets_55 : decode cX5_meets 55 = .ok (.invokevirtual 117, 3) := by decide +kernel
theorem dX5_meets_58 : decode cX5_meets 58 = .ok (.if_icmp .eq 13, 3) := by decide +kernel
theorem dX5_meets_61 : decode cX5_meets 61 = .ok (.aload_n 0, 1) := by decide +kernel
theorem dX5_meets_62 : decode cX5_meets 62 = .ok (.invokevirtual 156, 3) := by decide +kernel
theorem dX5_meets_65 : decode cX5_meets 65 = .ok (.iinc 3 1, 3) := by decide +kernel
theorem dX5_meets_68 : decode cX5_meets 68 = .ok (.goto (-29), 3) := by decide +kernel
theorem dX5_meets_71 : decode cX5_meets 71 = .ok (.aload_n 0, 1) := by decide +kernel
theorem dX5_meets_72 : decode cX5_meets 72 = .ok (.iload_n 1, 1) := by decide +kernel
theorem dX5_meets_73 : decode cX5_meets 73 = .ok (.iconst 0, 1) := by decide +kernel
theorem dX5_meets_74 : decode cX5_meets 74 = .ok (.invokevirtual 117, 3) := by decide +kernel
theorem dX5_meets_77 : decode cX5_meets 77 = .ok (.aload_n 0, 1) := by decide +kernel
theorem dX5_meets_78 : decode cX5_meets 78 = .ok (.iload_n 2, 1) := by decide +kernel
theorem dX5_meets_79 : decode cX5_meets 79 = .ok (.iconst 0, 1) := by decide +kernel
theorem dX5_meets_80 : decode cX5_meets 80 = .ok (.invokevirtual 117, 3) := by decide +kernel
theorem dX5_meets_83 : decode cX5_meets 83 = .ok (.if_icmp .ne 7, 3) := by decide +kernel
theorem dX5_meets_86 : decode cX5_meets 86 = .ok (.iconst 1, 1) := by decide +kernel
theorem dX5_meets_87 : decode cX5_meets 87 = .ok (.goto 4, 3) := by decide +kernel
theorem dX5_meets_90 : decode cX5_meets 90 = .ok (.iconst 0, 1) := by decide +kernel
theorem dX5_meets_91 : decode cX5_meets 91 = .ok (.istore 4, 2) := by decide +kernel
theorem dX5_meets_93 : decode cX5_meets 93 = .ok (.aload_n 0, 1) := by decide +kernel
theorem dX5_meets_94 : decode cX5_meets 94 = .ok (.aload_n 0, 1) := by decide +kernel
theorem dX5_meets_95 : decode cX5_meets 95 = .ok (.iload 4, 2) := by decide +kernel
theorem dX5_meets_97 : decode cX5_meets 97 = .ok (.ifCond .eq 7, 3) := by decide +kernel
theorem dX5_meets_100 : decode cX5_meets 100 = .ok (.iload_n 3, 1) := by decide +kernel
theorem dX5_meets_101 : decode cX5_meets 101 = .ok (.goto 5, 3) := by decide +kernel
theorem dX5_meets_104 : decode cX5_meets 104 = .ok (.ldc 184, 2) := by decide +kernel
theorem dX5_meets_106 : decode cX5_meets 106 = .ok (.invokevirtual 178, 3) := by decide +kernel
theorem dX5_meets_109 : decode cX5_meets 109 = .ok (.invokevirtual 189, 3) := by decide +kernel
theorem dX5_meets_112 : decode cX5_meets 112 = .ok (.ireturn, 1) := by decide +kernel
theorem dX5_isStill_0 : decode cX5_isStill 0 = .ok (.iconst 1, 1) := by decide +kernel
theorem dX5_isStill_1 : decode cX5_isStill 1 = .ok (.istore_n 1, 1) := by decide +kernel
theorem dX5_isStill_2 : decode cX5_isStill 2 = .ok (.iconst 0, 1) := by decide +kernel
theorem dX5_isStill_3 : decode cX5_isStill 3 = .ok (.istore_n 2, 1) := by decide +kernel
theorem dX5_isStill_4 : decode cX5_isStill 4 = .ok (.iload_n 2, 1) := by decide +kernel
theorem dX5_isStill_5 : decode cX5_isStill 5 = .ok (.iconst 4, 1) := by decide +kernel
theorem dX5_isStill_6 : decode cX5_isStill 6 = .ok (.if_icmp .ge 33, 3) := by decide +kernel
theorem dX5_isStill_9 : decode cX5_isStill 9 = .ok (.iload_n 1, 1) := by decide +kernel
theorem dX5_isStill_10 : decode cX5_isStill 10 = .ok (.ifCond .eq 21, 3) := by decide +kernel
theorem dX5_isStill_13 : decode cX5_isStill 13 = .ok (.aload_n 0, 1) := by decide +kernel
theorem dX5_isStill_14 : decode cX5_isStill 14 = .ok (.iload_n 2, 1) := by decide +kernel
theorem dX5_isStill_15 : decode cX5_isStill 15 = .ok (.invokevirtual 141, 3) := by decide +kernel
theorem dX5_isStill_18 : decode cX5_isStill 18 = .ok (.aload_n 0, 1) := by decide +kernel
theorem dX5_isStill_19 : decode cX5_isStill 19 = .ok (.iload_n 2, 1) := by decide +kernel
theorem dX5_isStill_20 : decode cX5_isStill 20 = .ok (.iconst 0, 1) := by decide +kernel
theorem dX5_isStill_21 : decode cX5_isStill 21 = .ok (.invokevirtual 117, 3) := by decide +kernel
theorem dX5_isStill_24 : decode cX5_isStill 24 = .ok (.if_icmp .ne 7, 3) := by decide +kernel
theorem dX5_isStill_27 : decode cX5_isStill 27 = .ok (.iconst 1, 1) := by decide +kernel
theorem dX5_isStill_28 : decode cX5_isStill 28 = .ok (.goto 4, 3) := by decide +kernel
theorem dX5_isStill_31 : decode cX5_isStill 31 = .ok (.iconst 0, 1) := by decide +kernel
theorem dX5_isStill_32 : decode cX5_isStill 32 = .ok (.istore_n 1, 1) := by decide +kernel
theorem dX5_isStill_33 : decode cX5_isStill 33 = .ok (.iinc 2 1, 3) := by decide +kernel
theorem dX5_isStill_36 : decode cX5_isStill 36 = .ok (.goto (-32), 3) := by decide +kernel
theorem dX5_isStill_39 : decode cX5_isStill 39 = .ok (.iload_n 1, 1) := by decide +kernel
theorem dX5_isStill_40 : decode cX5_isStill 40 = .ok (.ireturn, 1) := by decide +kernel
theorem dX5_still_0 : decode cX5_still 0 = .ok (.aload_n 0, 1) := by decide +kernel
theorem dX5_still_1 : decode cX5_still 1 = .ok (.getfield 9, 3) := by decide +kernel
theorem dX5_still_4 : decode cX5_still 4 = .ok (.aload_n 0, 1) := by decide +kernel
theorem dX5_still_5 : decode cX5_still 5 = .ok (.getfield 16, 3) := by decide +kernel
theorem dX5_still_8 : decode cX5_still 8 = .ok (.invokestatic 67, 3) := by decide +kernel
theorem dX5_still_11 : decode cX5_still 11 = .ok (.iconst 0, 1) := by decide +kernel
theorem dX5_still_12 : decode cX5_still 12 = .ok (.istore_n 1, 1) := by decide +kernel
theorem dX5_still_13 : decode cX5_still 13 = .ok (.iload_n 1, 1) := by decide +kernel
theorem dX5_still_14 : decode cX5_still 14 = .ok (.bipush 60, 2) := by decide +kernel
theorem dX5_still_16 : decode cX5_still 16 = .ok (.if_icmp .ge 20, 3) := by decide +kernel
theorem dX5_still_19 : decode cX5_still 19 = .ok (.aload_n 0, 1) := by decide +kernel
theorem dX5_still_20 : decode cX5_still 20 = .ok (.invokevirtual 192, 3) := by decide +kernel
theorem dX5_still_23 : decode cX5_still 23 = .ok (.ifCond .ne 13, 3) := by decide +kernel
theorem dX5_still_26 : decode cX5_still 26 = .ok (.aload_n 0, 1) := by decide +kernel
theorem dX5_still_27 : decode cX5_still 27 = .ok (.invokevirtual 156, 3) := by decide +kernel
theorem dX5_still_30 : decode cX5_still 30 = .ok (.iinc 1 1, 3) := by decide +kernel
theorem dX5_still_33 : decode cX5_still 33 = .ok (.goto (-20), 3) := by decide +kernel
theorem dX5_still_36 : decode cX5_still 36 = .ok (.aload_n 0, 1) := by decide +kernel
theorem dX5_still_37 : decode cX5_still 37 = .ok (.aload_n 0, 1) := by decide +kernel
theorem dX5_still_38 : decode cX5_still 38 = .ok (.aload_n 0, 1) := by decide +kernel
theorem dX5_still_39 : decode cX5_still 39 = .ok (.invokevirtual 192, 3) := by decide +kernel
theorem dX5_still_42 : decode cX5_still 42 = .ok (.ifCond .eq 7, 3) := by decide +kernel
theorem dX5_still_45 : decode cX5_still 45 = .ok (.iload_n 1, 1) := by decide +kernel
theorem dX5_still_46 : decode cX5_still 46 = .ok (.goto 5, 3) := by decide +kernel
theorem dX5_still_49 : decode cX5_still 49 = .ok (.ldc 184, 2) := by decide +kernel
theorem dX5_still_51 : decode cX5_still 51 = .ok (.invokevirtual 178, 3) := by decide +kernel
theorem dX5_still_54 : decode cX5_still 54 = .ok (.invokevirtual 189, 3) := by decide +kernel
theorem dX5_still_57 : decode cX5_still 57 = .ok (.ireturn, 1) := by decide +kernel
theorem dX5_satBehind_0 : decode cX5_satBehind 0 = .ok (.aload_n 0, 1) := by decide +kernel
theorem dX5_satBehind_1 : decode cX5_satBehind 1 = .ok (.getfield 9, 3) := by decide +kernel
theorem dX5_satBehind_4 : decode cX5_satBehind 4 = .ok (.aload_n 0, 1) := by decide +kernel
theorem dX5_satBehind_5 : decode cX5_satBehind 5 = .ok (.getfield 16, 3) := by decide +kernel
theorem dX5_satBehind_8 : decode cX5_satBehind 8 = .ok (.invokestatic 67, 3) := by decide +kernel
theorem dX5_satBehind_11 : decode cX5_satBehind 11 = .ok (.aload_n 0, 1) := by decide +kernel
theorem dX5_satBehind_12 : decode cX5_satBehind 12 = .ok (.iload_n 2, 1) := by decide +kernel
theorem dX5_satBehind_13 : decode cX5_satBehind 13 = .ok (.invokevirtual 161, 3) := by decide +kernel
theorem dX5_satBehind_16 : decode cX5_satBehind 16 = .ok (.aload_n 0, 1) := by decide +kernel
theorem dX5_satBehind_17 : decode cX5_satBehind 17 = .ok (.aload_n 0, 1) := by decide +kernel
theorem dX5_satBehind_18 : decode cX5_satBehind 18 = .ok (.iload_n 1, 1) := by decide +kernel
theorem dX5_satBehind_19 : decode cX5_satBehind 19 = .ok (.invokevirtual 108, 3) := by decide +kernel
theorem dX5_satBehind_22 : decode cX5_satBehind 22 = .ok (.invokevirtual 178, 3) := by decide +kernel
theorem dX5_satBehind_25 : decode cX5_satBehind 25 = .ok (.ireturn, 1) := by decide +kernel
theorem dX5_sits_0 : decode cX5_sits 0 = .ok (.aload_n 0, 1) := by decide +kernel
theorem dX5_sits_1 : decode cX5_sits 1 = .ok (.iload_n 1, 1) := by decide +kernel
theorem dX5_sits_2 : decode cX5_sits 2 = .ok (.invokevirtual 105, 3) := by decide +kernel
theorem dX5_sits_5 : decode cX5_sits 5 = .ok (.ifCond .eq 23, 3) := by decide +kernel
theorem dX5_sits_8 : decode cX5_sits 8 = .ok (.iload_n 2, 1) := by decide +kernel
theorem dX5_sits_9 : decode cX5_sits 9 = .ok (.iconst 0, 1) := by decide +kernel
theorem dX5_sits_10 : decode cX5_sits 10 = .ok (.sipush 200, 3) := by decide +kernel
theorem dX5_sits_13 : decode cX5_sits 13 = .ok (.invokestatic 71, 3) := by decide +kernel
theorem dX5_sits_16 : decode cX5_sits 16 = .ok (.ifCond .eq 12, 3) := by decide +kernel
theorem dX5_sits_19 : decode cX5_sits 19 = .ok (.aload_n 0, 1) := by decide +kernel
theorem dX5_sits_20 : decode cX5_sits 20 = .ok (.iload_n 1, 1) := by decide +kernel
theorem dX5_sits_21 : decode cX5_sits 21 = .ok (.iload_n 2, 1) := by decide +kernel
theorem dX5_sits_22 : decode cX5_sits 22 = .ok (.invokevirtual 196, 3) := by decide +kernel
theorem dX5_sits_25 : decode cX5_sits 25 = .ok (.goto 9, 3) := by decide +kernel
theorem dX5_sits_28 : decode cX5_sits 28 = .ok (.aload_n 0, 1) := by decide +kernel
theorem dX5_sits_29 : decode cX5_sits 29 = .ok (.ldc 66, 2) := by decide +kernel
theorem dX5_sits_31 : decode cX5_sits 31 = .ok (.invokevirtual 86, 3) := by decide +kernel
theorem dX5_sits_34 : decode cX5_sits 34 = .ok (.ireturn, 1) := by decide +kernel
theorem dX5_soonestWith_0 : decode cX5_soonestWith 0 = .ok (.aload_n 0, 1) := by decide +kernel
theorem dX5_soonestWith_1 : decode cX5_soonestWith 1 = .ok (.getfield 9, 3) := by decide +kernel
theorem dX5_soonestWith_4 : decode cX5_soonestWith 4 = .ok (.iload_n 1, 1) := by decide +kernel
theorem dX5_soonestWith_5 : decode cX5_soonestWith 5 = .ok (.iaload, 1) := by decide +kernel
theorem dX5_soonestWith_6 : decode cX5_soonestWith 6 = .ok (.istore 4, 2) := by decide +kernel
theorem dX5_soonestWith_8 : decode cX5_soonestWith 8 = .ok (.iconst (-1), 1) := by decide +kernel
theorem dX5_soonestWith_9 : decode cX5_soonestWith 9 = .ok (.istore 5, 2) := by decide +kernel
theorem dX5_soonestWith_11 : decode cX5_soonestWith 11 = .ok (.aload_n 0, 1) := by decide +kernel
theorem dX5_soonestWith_12 : decode cX5_soonestWith 12 = .ok (.ldc 184, 2) := by decide +kernel
theorem dX5_soonestWith_14 : decode cX5_soonestWith 14 = .ok (.putfield 199, 3) := by decide +kernel
theorem dX5_soonestWith_17 : decode cX5_soonestWith 17 = .ok (.iconst 0, 1) := by decide +kernel
theorem dX5_soonestWith_18 : decode cX5_soonestWith 18 = .ok (.istore 6, 2) := by decide +kernel
theorem dX5_soonestWith_20 : decode cX5_soonestWith 20 = .ok (.iload 6, 2) := by decide +kernel
theorem dX5_soonestWith_22 : decode cX5_soonestWith 22 = .ok (.iload_n 2, 1) := by decide +kernel
theorem dX5_soonestWith_23 : decode cX5_soonestWith 23 = .ok (.if_icmp .ge 57, 3) := by decide +kernel
theorem dX5_soonestWith_26 : decode cX5_soonestWith 26 = .ok (.aload_n 0, 1) := by decide +kernel
theorem dX5_soonestWith_27 : decode cX5_soonestWith 27 = .ok (.getfield 9, 3) := by decide +kernel
theorem dX5_soonestWith_30 : decode cX5_soonestWith 30 = .ok (.iload_n 1, 1) := by decide +kernel
theorem dX5_soonestWith_31 : decode cX5_soonestWith 31 = .ok (.iload 6, 2) := by decide +kernel
theorem dX5_soonestWith_33 : decode cX5_soonestWith 33 = .ok (.iastore, 1) := by decide +kernel
theorem dX5_soonestWith_34 : decode cX5_soonestWith 34 = .ok (.aload_n 0, 1) := by decide +kernel
theorem dX5_soonestWith_35 : decode cX5_soonestWith 35 = .ok (.iload_n 3, 1) := by decide +kernel
theorem dX5_soonestWith_36 : decode cX5_soonestWith 36 = .ok (.bipush 60, 2) := by decide +kernel
theorem dX5_soonestWith_38 : decode cX5_soonestWith 38 = .ok (.invokevirtual 186, 3) := by decide +kernel
theorem dX5_soonestWith_41 : decode cX5_soonestWith 41 = .ok (.istore 7, 2) := by decide +kernel
theorem dX5_soonestWith_43 : decode cX5_soonestWith 43 = .ok (.iload 7, 2) := by decide +kernel
theorem dX5_soonestWith_45 : decode cX5_soonestWith 45 = .ok (.aload_n 0, 1) := by decide +kernel
theorem dX5_soonestWith_46 : decode cX5_soonestWith 46 = .ok (.getfield 199, 3) := by decide +kernel
theorem dX5_soonestWith_49 : decode cX5_soonestWith 49 = .ok (.if_icmp .ge 8, 3) := by decide +kernel
theorem dX5_soonestWith_52 : decode cX5_soonestWith 52 = .ok (.iload 6, 2) := by decide +kernel
theorem dX5_soonestWith_54 : decode cX5_soonestWith 54 = .ok (.goto 5, 3) := by decide +kernel
theorem dX5_soonestWith_57 : decode cX5_soonestWith 57 = .ok (.iload 5, 2) := by decide +kernel
theorem dX5_soonestWith_59 : decode cX5_soonestWith 59 = .ok (.istore 5, 2) := by decide +kernel
theorem dX5_soonestWith_61 : decode cX5_soonestWith 61 = .ok (.aload_n 0, 1) := by decide +kernel
theorem dX5_soonestWith_62 : decode cX5_soonestWith 62 = .ok (.aload_n 0, 1) := by decide +kernel
theorem dX5_soonestWith_63 : decode cX5_soonestWith 63 = .ok (.getfield 199, 3) := by decide +kernel
theorem dX5_soonestWith_66 : decode cX5_soonestWith 66 = .ok (.iload 7, 2) := by decide +kernel
theorem dX5_soonestWith_68 : decode cX5_soonestWith 68 = .ok (.invokestatic 151, 3) := by decide +kernel
theorem dX5_soonestWith_71 : decode cX5_soonestWith 71 = .ok (.putfield 199, 3) := by decide +kernel
theorem dX5_soonestWith_74 : decode cX5_soonestWith 74 = .ok (.iinc 6 1, 3) := by decide +kernel
theorem dX5_soonestWith_77 : decode cX5_soonestWith 77 = .ok (.goto (-57), 3) := by decide +kernel
theorem dX5_soonestWith_80 : decode cX5_soonestWith 80 = .ok (.aload_n 0, 1) := by decide +kernel
theorem dX5_soonestWith_81 : decode cX5_soonestWith 81 = .ok (.getfield 9, 3) := by decide +kernel
theorem dX5_soonestWith_84 : decode cX5_soonestWith 84 = .ok (.iload_n 1, 1) := by decide +kernel
theorem dX5_soonestWith_85 : decode cX5_soonestWith 85 = .ok (.iload 4, 2) := by decide +kernel
theorem dX5_soonestWith_87 : decode cX5_soonestWith 87 = .ok (.iastore, 1) := by decide +kernel
theorem dX5_soonestWith_88 : decode cX5_soonestWith 88 = .ok (.iload 5, 2) := by decide +kernel
theorem dX5_soonestWith_90 : decode cX5_soonestWith 90 = .ok (.ireturn, 1) := by decide +kernel
theorem dX5_bestOrder_0 : decode cX5_bestOrder 0 = .ok (.aload_n 0, 1) := by decide +kernel
theorem dX5_bestOrder_1 : decode cX5_bestOrder 1 = .ok (.iload_n 1, 1) := by decide +kernel
theorem dX5_bestOrder_2 : decode cX5_bestOrder 2 = .ok (.iconst 1, 1) := by decide +kernel
theorem dX5_bestOrder_3 : decode cX5_bestOrder 3 = .ok (.invokestatic 79, 3) := by decide +kernel
theorem dX5_bestOrder_6 : decode cX5_bestOrder 6 = .ok (.bipush 32, 2) := by decide +kernel
theorem dX5_bestOrder_8 : decode cX5_bestOrder 8 = .ok (.iload_n 1, 1) := by decide +kernel
theorem dX5_bestOrder_9 : decode cX5_bestOrder 9 = .ok (.invokevirtual 203, 3) := by decide +kernel
theorem dX5_bestOrder_12 : decode cX5_bestOrder 12 = .ok (.ireturn, 1) := by decide +kernel
theorem dX5_orNone_0 : decode cX5_orNone 0 = .ok (.iload_n 1, 1) := by decide +kernel
theorem dX5_orNone_1 : decode cX5_orNone 1 = .ok (.ifCond .ge 12, 3) := by decide +kernel
theorem dX5_orNone_4 : decode cX5_orNone 4 = .ok (.aload_n 0, 1) := by decide +kernel
theorem dX5_orNone_5 : decode cX5_orNone 5 = .ok (.ldc 185, 2) := by decide +kernel
theorem dX5_orNone_7 : decode cX5_orNone 7 = .ok (.invokevirtual 86, 3) := by decide +kernel
theorem dX5_orNone_10 : decode cX5_orNone 10 = .ok (.goto 4, 3) := by decide +kernel
theorem dX5_orNone_13 : decode cX5_orNone 13 = .ok (.iload_n 1, 1) := by decide +kernel
theorem dX5_orNone_14 : decode cX5_orNone 14 = .ok (.ireturn, 1) := by decide +kernel
theorem dX5_order_0 : decode cX5_order 0 = .ok (.iload_n 1, 1) := by decide +kernel
theorem dX5_order_1 : decode cX5_order 1 = .ok (.invokestatic 138, 3) := by decide +kernel
theorem dX5_order_4 : decode cX5_order 4 = .ok (.ifCond .eq 15, 3) := by decide +kernel
theorem dX5_order_7 : decode cX5_order 7 = .ok (.aload_n 0, 1) := by decide +kernel
theorem dX5_order_8 : decode cX5_order 8 = .ok (.aload_n 0, 1) := by decide +kernel
theorem dX5_order_9 : decode cX5_order 9 = .ok (.iload_n 1, 1) := by decide +kernel
theorem dX5_order_10 : decode cX5_order 10 = .ok (.invokevirtual 206, 3) := by decide +kernel
theorem dX5_order_13 : decode cX5_order 13 = .ok (.invokevirtual 209, 3) := by decide +kernel
theorem dX5_order_16 : decode cX5_order 16 = .ok (.goto 9, 3) := by decide +kernel
theorem dX5_order_19 : decode cX5_order 19 = .ok (.aload_n 0, 1) := by decide +kernel
theorem dX5_order_20 : decode cX5_order 20 = .ok (.ldc 66, 2) := by decide +kernel
theorem dX5_order_22 : decode cX5_order 22 = .ok (.invokevirtual 86, 3) := by decide +kernel
theorem dX5_order_25 : decode cX5_order 25 = .ok (.ireturn, 1) := by decide +kernel
theorem dX5_soonest_0 : decode cX5_soonest 0 = .ok (.iload_n 1, 1) := by decide +kernel
theorem dX5_soonest_1 : decode cX5_soonest 1 = .ok (.invokestatic 138, 3) := by decide +kernel
theorem dX5_soonest_4 : decode cX5_soonest 4 = .ok (.ifCond .ne 10, 3) := by decide +kernel
theorem dX5_soonest_7 : decode cX5_soonest 7 = .ok (.aload_n 0, 1) := by decide +kernel
theorem dX5_soonest_8 : decode cX5_soonest 8 = .ok (.ldc 66, 2) := by decide +kernel
theorem dX5_soonest_10 : decode cX5_soonest 10 = .ok (.invokevirtual 86, 3) := by decide +kernel
theorem dX5_soonest_13 : decode cX5_soonest 13 = .ok (.ireturn, 1) := by decide +kernel
theorem dX5_soonest_14 : decode cX5_soonest 14 = .ok (.aload_n 0, 1) := by decide +kernel
theorem dX5_soonest_15 : decode cX5_soonest 15 = .ok (.aload_n 0, 1) := by decide +kernel
theorem dX5_soonest_16 : decode cX5_soonest 16 = .ok (.iload_n 1, 1) := by decide +kernel
theorem dX5_soonest_17 : decode cX5_soonest 17 = .ok (.invokevirtual 206, 3) := by decide +kernel
theorem dX5_soonest_20 : decode cX5_soonest 20 = .ok (.ifCond .ge 7, 3) := by decide +kernel
theorem dX5_soonest_23 : decode cX5_soonest 23 = .ok (.iconst (-1), 1) := by decide +kernel
theorem dX5_soonest_24 : decode cX5_soonest 24 = .ok (.goto 7, 3) := by decide +kernel
theorem dX5_soonest_27 : decode cX5_soonest 27 = .ok (.aload_n 0, 1) := by decide +kernel
theorem dX5_soonest_28 : decode cX5_soonest 28 = .ok (.getfield 199, 3) := by decide +kernel
theorem dX5_soonest_31 : decode cX5_soonest 31 = .ok (.invokevirtual 209, 3) := by decide +kernel
theorem dX5_soonest_34 : decode cX5_soonest 34 = .ok (.ireturn, 1) := by decide +kernel
theorem dX5_orders_0 : decode cX5_orders 0 = .ok (.iload_n 1, 1) := by decide +kernel
theorem dX5_orders_1 : decode cX5_orders 1 = .ok (.invokestatic 138, 3) := by decide +kernel
theorem dX5_orders_4 : decode cX5_orders 4 = .ok (.ifCond .eq 10, 3) := by decide +kernel
theorem dX5_orders_7 : decode cX5_orders 7 = .ok (.iload_n 2, 1) := by decide +kernel
theorem dX5_orders_8 : decode cX5_orders 8 = .ok (.invokestatic 144, 3) := by decide +kernel
theorem dX5_orders_11 : decode cX5_orders 11 = .ok (.ifCond .ne 11, 3) := by decide +kernel
theorem dX5_orders_14 : decode cX5_orders 14 = .ok (.aload_n 0, 1) := by decide +kernel
theorem dX5_orders_15 : decode cX5_orders 15 = .ok (.ldc 66, 2) := by decide +kernel
theorem dX5_orders_17 : decode cX5_orders 17 = .ok (.invokevirtual 86, 3) := by decide +kernel
theorem dX5_orders_20 : decode cX5_orders 20 = .ok (.i2l, 1) := by decide +kernel
theorem dX5_orders_21 : decode cX5_orders 21 = .ok (.lreturn, 1) := by decide +kernel
theorem dX5_orders_22 : decode cX5_orders 22 = .ok (.aload_n 0, 1) := by decide +kernel
theorem dX5_orders_23 : decode cX5_orders 23 = .ok (.iload_n 2, 1) := by decide +kernel
theorem dX5_orders_24 : decode cX5_orders 24 = .ok (.invokevirtual 126, 3) := by decide +kernel
theorem dX5_orders_27 : decode cX5_orders 27 = .ok (.ifCond .ne 11, 3) := by decide +kernel
theorem dX5_orders_30 : decode cX5_orders 30 = .ok (.aload_n 0, 1) := by decide +kernel
theorem dX5_orders_31 : decode cX5_orders 31 = .ok (.ldc 160, 2) := by decide +kernel
theorem dX5_orders_33 : decode cX5_orders 33 = .ok (.invokevirtual 86, 3) := by decide +kernel
theorem dX5_orders_36 : decode cX5_orders 36 = .ok (.i2l, 1) := by decide +kernel
theorem dX5_orders_37 : decode cX5_orders 37 = .ok (.lreturn, 1) := by decide +kernel
theorem dX5_orders_38 : decode cX5_orders 38 = .ok (.aload_n 0, 1) := by decide +kernel
theorem dX5_orders_39 : decode cX5_orders 39 = .ok (.iload_n 1, 1) := by decide +kernel
theorem dX5_orders_40 : decode cX5_orders 40 = .ok (.iconst 1, 1) := by decide +kernel
theorem dX5_orders_41 : decode cX5_orders 41 = .ok (.invokevirtual 117, 3) := by decide +kernel
theorem dX5_orders_44 : decode cX5_orders 44 = .ok (.istore_n 3, 1) := by decide +kernel
theorem dX5_orders_45 : decode cX5_orders 45 = .ok (.lconst 0, 1) := by decide +kernel
theorem dX5_orders_46 : decode cX5_orders 46 = .ok (.lstore 4, 2) := by decide +kernel
theorem dX5_orders_48 : decode cX5_orders 48 = .ok (.iconst 0, 1) := by decide +kernel
theorem dX5_orders_49 : decode cX5_orders 49 = .ok (.istore 6, 2) := by decide +kernel
theorem dX5_orders_51 : decode cX5_orders 51 = .ok (.iload 6, 2) := by decide +kernel
theorem dX5_orders_53 : decode cX5_orders 53 = .ok (.bipush 32, 2) := by decide +kernel
theorem dX5_orders_55 : decode cX5_orders 55 = .ok (.if_icmp .ge 45, 3) := by decide +kernel
theorem dX5_orders_58 : decode cX5_orders 58 = .ok (.aload_n 0, 1) := by decide +kernel
theorem dX5_orders_59 : decode cX5_orders 59 = .ok (.getfield 9, 3) := by decide +kernel
theorem dX5_orders_62 : decode cX5_orders 62 = .ok (.iload_n 1, 1) := by decide +kernel
theorem dX5_orders_63 : decode cX5_orders 63 = .ok (.iconst 1, 1) := by decide +kernel
theorem dX5_orders_64 : decode cX5_orders 64 = .ok (.invokestatic 79, 3) := by decide +kernel
theorem dX5_orders_67 : decode cX5_orders 67 = .ok (.iload 6, 2) := by decide +kernel
theorem dX5_orders_69 : decode cX5_orders 69 = .ok (.iastore, 1) := by decide +kernel
theorem dX5_orders_70 : decode cX5_orders 70 = .ok (.lload 4, 2) := by decide +kernel
theorem dX5_orders_72 : decode cX5_orders 72 = .ok (.aload_n 0, 1) := by decide +kernel
theorem dX5_orders_73 : decode cX5_orders 73 = .ok (.iload_n 1, 1) := by decide +kernel
theorem dX5_orders_74 : decode cX5_orders 74 = .ok (.bipush 60, 2) := by decide +kernel
theorem dX5_orders_76 : decode cX5_orders 76 = .ok (.invokevirtual 181, 3) := by decide +kernel
theorem dX5_orders_79 : decode cX5_orders 79 = .ok (.iload_n 2, 1) := by decide +kernel
theorem dX5_orders_80 : decode cX5_orders 80 = .ok (.if_icmp .ne 10, 3) := by decide +kernel
theorem dX5_orders_83 : decode cX5_orders 83 = .ok (.lconst 1, 1) := by decide +kernel
theorem dX5_orders_84 : decode cX5_orders 84 = .ok (.iload 6, 2) := by decide +kernel
theorem dX5_orders_86 : decode cX5_orders 86 = .ok (.lshl, 1) := by decide +kernel
theorem dX5_orders_87 : decode cX5_orders 87 = .ok (.goto 4, 3) := by decide +kernel
theorem dX5_orders_90 : decode cX5_orders 90 = .ok (.lconst 0, 1) := by decide +kernel
theorem dX5_orders_91 : decode cX5_orders 91 = .ok (.lor, 1) := by decide +kernel
theorem dX5_orders_92 : decode cX5_orders 92 = .ok (.lstore 4, 2) := by decide +kernel
theorem dX5_orders_94 : decode cX5_orders 94 = .ok (.iinc 6 1, 3) := by decide +kernel
theorem dX5_orders_97 : decode cX5_orders 97 = .ok (.goto (-46), 3) := by decide +kernel
theorem dX5_orders_100 : decode cX5_orders 100 = .ok (.aload_n 0, 1) := by decide +kernel
theorem dX5_orders_101 : decode cX5_orders 101 = .ok (.getfield 9, 3) := by decide +kernel
theorem dX5_orders_104 : decode cX5_orders 104 = .ok (.iload_n 1, 1) := by decide +kernel
theorem dX5_orders_105 : decode cX5_orders 105 = .ok (.iconst 1, 1) := by decide +kernel
theorem dX5_orders_106 : decode cX5_orders 106 = .ok (.invokestatic 79, 3) := by decide +kernel
theorem dX5_orders_109 : decode cX5_orders 109 = .ok (.iload_n 3, 1) := by decide +kernel
theorem dX5_orders_110 : decode cX5_orders 110 = .ok (.iastore, 1) := by decide +kernel
theorem dX5_orders_111 : decode cX5_orders 111 = .ok (.lload 4, 2) := by decide +kernel
theorem dX5_orders_113 : decode cX5_orders 113 = .ok (.lreturn, 1) := by decide +kernel
theorem dX5_findSurest_0 : decode cX5_findSurest 0 = .ok (.aload_n 0, 1) := by decide +kernel
theorem dX5_findSurest_1 : decode cX5_findSurest 1 = .ok (.iload_n 1, 1) := by decide +kernel
theorem dX5_findSurest_2 : decode cX5_findSurest 2 = .ok (.iconst 1, 1) := by decide +kernel
theorem dX5_findSurest_3 : decode cX5_findSurest 3 = .ok (.invokevirtual 117, 3) := by decide +kernel
theorem dX5_findSurest_6 : decode cX5_findSurest 6 = .ok (.istore_n 2, 1) := by decide +kernel
theorem dX5_findSurest_7 : decode cX5_findSurest 7 = .ok (.aload_n 0, 1) := by decide +kernel
theorem dX5_findSurest_8 : decode cX5_findSurest 8 = .ok (.getfield 9, 3) := by decide +kernel
theorem dX5_findSurest_11 : decode cX5_findSurest 11 = .ok (.iconst 2, 1) := by decide +kernel
theorem dX5_findSurest_12 : decode cX5_findSurest 12 = .ok (.iaload, 1) := by decide +kernel
theorem dX5_findSurest_13 : decode cX5_findSurest 13 = .ok (.istore_n 3, 1) := by decide +kernel
theorem dX5_findSurest_14 : decode cX5_findSurest 14 = .ok (.iconst (-1), 1) := by decide +kernel
theorem dX5_findSurest_15 : decode cX5_findSurest 15 = .ok (.istore 4, 2) := by decide +kernel
theorem dX5_findSurest_17 : decode cX5_findSurest 17 = .ok (.aload_n 0, 1) := by decide +kernel
theorem dX5_findSurest_18 : decode cX5_findSurest 18 = .ok (.iconst (-1), 1) := by decide +kernel
theorem dX5_findSurest_19 : decode cX5_findSurest 19 = .ok (.putfield 212, 3) := by decide +kernel
theorem dX5_findSurest_22 : decode cX5_findSurest 22 = .ok (.iconst 0, 1) := by decide +kernel
theorem dX5_findSurest_23 : decode cX5_findSurest 23 = .ok (.istore 5, 2) := by decide +kernel
theorem dX5_findSurest_25 : decode cX5_findSurest 25 = .ok (.iload 5, 2) := by decide +kernel
theorem dX5_findSurest_27 : decode cX5_findSurest 27 = .ok (.bipush 32, 2) := by decide +kernel
theorem dX5_findSurest_29 : decode cX5_findSurest 29 = .ok (.if_icmp .ge 101, 3) := by decide +kernel
theorem dX5_findSurest_32 : decode cX5_findSurest 32 = .ok (.aload_n 0, 1) := by decide +kernel
theorem dX5_findSurest_33 : decode cX5_findSurest 33 = .ok (.getfield 9, 3) := by decide +kernel
theorem dX5_findSurest_36 : decode cX5_findSurest 36 = .ok (.iload_n 1, 1) := by decide +kernel
theorem dX5_findSurest_37 : decode cX5_findSurest 37 = .ok (.iconst 1, 1) := by decide +kernel
theorem dX5_findSurest_38 : decode cX5_findSurest 38 = .ok (.invokestatic 79, 3) := by decide +kernel
theorem dX5_findSurest_41 : decode cX5_findSurest 41 = .ok (.iload 5, 2) := by decide +kernel
theorem dX5_findSurest_43 : decode cX5_findSurest 43 = .ok (.iastore, 1) := by decide +kernel
theorem dX5_findSurest_44 : decode cX5_findSurest 44 = .ok (.iconst 0, 1) := by decide +kernel
theorem dX5_findSurest_45 : decode cX5_findSurest 45 = .ok (.istore 6, 2) := by decide +kernel
theorem dX5_findSurest_47 : decode cX5_findSurest 47 = .ok (.iconst 0, 1) := by decide +kernel
theorem dX5_findSurest_48 : decode cX5_findSurest 48 = .ok (.istore 7, 2) := by decide +kernel
theorem dX5_findSurest_50 : decode cX5_findSurest 50 = .ok (.iload 7, 2) := by decide +kernel
theorem dX5_findSurest_52 : decode cX5_findSurest 52 = .ok (.bipush 8, 2) := by decide +kernel
theorem dX5_findSurest_54 : decode cX5_findSurest 54 = .ok (.if_icmp .ge 39, 3) := by decide +kernel
theorem dX5_findSurest_57 : decode cX5_findSurest 57 = .ok (.aload_n 0, 1) := by decide +kernel
theorem dX5_findSurest_58 : decode cX5_findSurest 58 = .ok (.getfield 9, 3) := by decide +kernel
theorem dX5_findSurest_61 : decode cX5_findSurest 61 = .ok (.iconst 2, 1) := by decide +kernel
theorem dX5_findSurest_62 : decode cX5_findSurest 62 = .ok (.iload 7, 2) := by decide +kernel
theorem dX5_findSurest_64 : decode cX5_findSurest 64 = .ok (.iastore, 1) := by decide +kernel
theorem dX5_findSurest_65 : decode cX5_findSurest 65 = .ok (.iload 6, 2) := by decide +kernel
theorem dX5_findSurest_67 : decode cX5_findSurest 67 = .ok (.aload_n 0, 1) := by decide +kernel
theorem dX5_findSurest_68 : decode cX5_findSurest 68 = .ok (.iload_n 1, 1) := by decide +kernel
theorem dX5_findSurest_69 : decode cX5_findSurest 69 = .ok (.bipush 60, 2) := by decide +kernel
theorem dX5_findSurest_71 : decode cX5_findSurest 71 = .ok (.invokevirtual 186, 3) := by decide +kernel
theorem dX5_findSurest_74 : decode cX5_findSurest 74 = .ok (.ldc 184, 2) := by decide +kernel
theorem dX5_findSurest_76 : decode cX5_findSurest 76 = .ok (.if_icmp .ne 7, 3) := by decide +kernel
theorem dX5_findSurest_79 : decode cX5_findSurest 79 = .ok (.iconst 0, 1) := by decide +kernel
theorem dX5_findSurest_80 : decode cX5_findSurest 80 = .ok (.goto 4, 3) := by decide +kernel
theorem dX5_findSurest_83 : decode cX5_findSurest 83 = .ok (.iconst 1, 1) := by decide +kernel
theorem dX5_findSurest_84 : decode cX5_findSurest 84 = .ok (.iadd, 1) := by decide +kernel
theorem dX5_findSurest_85 : decode cX5_findSurest 85 = .ok (.istore 6, 2) := by decide +kernel
theorem dX5_findSurest_87 : decode cX5_findSurest 87 = .ok (.iinc 7 1, 3) := by decide +kernel
theorem dX5_findSurest_90 : decode cX5_findSurest 90 = .ok (.goto (-40), 3) := by decide +kernel
theorem dX5_findSurest_93 : decode cX5_findSurest 93 = .ok (.iload 6, 2) := by decide +kernel
theorem dX5_findSurest_95 : decode cX5_findSurest 95 = .ok (.aload_n 0, 1) := by decide +kernel
theorem dX5_findSurest_96 : decode cX5_findSurest 96 = .ok (.getfield 212, 3) := by decide +kernel
theorem dX5_findSurest_99 : decode cX5_findSurest 99 = .ok (.if_icmp .le 8, 3) := by decide +kernel
theorem dX5_findSurest_102 : decode cX5_findSurest 102 = .ok (.iload 5, 2) := by decide +kernel
theorem dX5_findSurest_104 : decode cX5_findSurest 104 = .ok (.goto 5, 3) := by decide +kernel
theorem dX5_findSurest_107 : decode cX5_findSurest 107 = .ok (.iload 4, 2) := by decide +kernel
theorem dX5_findSurest_109 : decode cX5_findSurest 109 = .ok (.istore 4, 2) := by decide +kernel
theorem dX5_findSurest_111 : decode cX5_findSurest 111 = .ok (.aload_n 0, 1) := by decide +kernel
theorem dX5_findSurest_112 : decode cX5_findSurest 112 = .ok (.aload_n 0, 1) := by decide +kernel
theorem dX5_findSurest_113 : decode cX5_findSurest 113 = .ok (.getfield 212, 3) := by decide +kernel
theorem dX5_findSurest_116 : decode cX5_findSurest 116 = .ok (.iload 6, 2) := by decide +kernel
theorem dX5_findSurest_118 : decode cX5_findSurest 118 = .ok (.invokestatic 169, 3) := by decide +kernel
theorem dX5_findSurest_121 : decode cX5_findSurest 121 = .ok (.putfield 212, 3) := by decide +kernel
theorem dX5_findSurest_124 : decode cX5_findSurest 124 = .ok (.iinc 5 1, 3) := by decide +kernel
theorem dX5_findSurest_127 : decode cX5_findSurest 127 = .ok (.goto (-102), 3) := by decide +kernel
theorem dX5_findSurest_130 : decode cX5_findSurest 130 = .ok (.aload_n 0, 1) := by decide +kernel
theorem dX5_findSurest_131 : decode cX5_findSurest 131 = .ok (.getfield 9, 3) := by decide +kernel
theorem dX5_findSurest_134 : decode cX5_findSurest 134 = .ok (.iconst 2, 1) := by decide +kernel
theorem dX5_findSurest_135 : decode cX5_findSurest 135 = .ok (.iload_n 3, 1) := by decide +kernel
theorem dX5_findSurest_136 : decode cX5_findSurest 136 = .ok (.iastore, 1) := by decide +kernel
theorem dX5_findSurest_137 : decode cX5_findSurest 137 = .ok (.aload_n 0, 1) := by decide +kernel
theorem dX5_findSurest_138 : decode cX5_findSurest 138 = .ok (.getfield 9, 3) := by decide +kernel
theorem dX5_findSurest_141 : decode cX5_findSurest 141 = .ok (.iload_n 1, 1) := by decide +kernel
theorem dX5_findSurest_142 : decode cX5_findSurest 142 = .ok (.iconst 1, 1) := by decide +kernel
theorem dX5_findSurest_143 : decode cX5_findSurest 143 = .ok (.invokestatic 79, 3) := by decide +kernel
theorem dX5_findSurest_146 : decode cX5_findSurest 146 = .ok (.iload_n 2, 1) := by decide +kernel
theorem dX5_findSurest_147 : decode cX5_findSurest 147 = .ok (.iastore, 1) := by decide +kernel
theorem dX5_findSurest_148 : decode cX5_findSurest 148 = .ok (.iload 4, 2) := by decide +kernel
theorem dX5_findSurest_150 : decode cX5_findSurest 150 = .ok (.ireturn, 1) := by decide +kernel
theorem dX5_surest_0 : decode cX5_surest 0 = .ok (.iload_n 1, 1) := by decide +kernel
theorem dX5_surest_1 : decode cX5_surest 1 = .ok (.invokestatic 138, 3) := by decide +kernel
theorem dX5_surest_4 : decode cX5_surest 4 = .ok (.ifCond .eq 11, 3) := by decide +kernel
theorem dX5_surest_7 : decode cX5_surest 7 = .ok (.aload_n 0, 1) := by decide +kernel
theorem dX5_surest_8 : decode cX5_surest 8 = .ok (.iload_n 1, 1) := by decide +kernel
theorem dX5_surest_9 : decode cX5_surest 9 = .ok (.invokevirtual 215, 3) := by decide +kernel
theorem dX5_surest_12 : decode cX5_surest 12 = .ok (.goto 9, 3) := by decide +kernel
theorem dX5_surest_15 : decode cX5_surest 15 = .ok (.aload_n 0, 1) := by decide +kernel
theorem dX5_surest_16 : decode cX5_surest 16 = .ok (.ldc 66, 2) := by decide +kernel
theorem dX5_surest_18 : decode cX5_surest 18 = .ok (.invokevirtual 86, 3) := by decide +kernel
theorem dX5_surest_21 : decode cX5_surest 21 = .ok (.ireturn, 1) := by decide +kernel
theorem dX5_winds_0 : decode cX5_winds 0 = .ok (.iload_n 1, 1) := by decide +kernel
theorem dX5_winds_1 : decode cX5_winds 1 = .ok (.invokestatic 138, 3) := by decide +kernel
theorem dX5_winds_4 : decode cX5_winds 4 = .ok (.ifCond .ne 10, 3) := by decide +kernel
theorem dX5_winds_7 : decode cX5_winds 7 = .ok (.aload_n 0, 1) := by decide +kernel
theorem dX5_winds_8 : decode cX5_winds 8 = .ok (.ldc 66, 2) := by decide +kernel
theorem dX5_winds_10 : decode cX5_winds 10 = .ok (.invokevirtual 86, 3) := by decide +kernel
theorem dX5_winds_13 : decode cX5_winds 13 = .ok (.ireturn, 1) := by decide +kernel
theorem dX5_winds_14 : decode cX5_winds 14 = .ok (.aload_n 0, 1) := by decide +kernel
theorem dX5_winds_15 : decode cX5_winds 15 = .ok (.iload_n 1, 1) := by decide +kernel
theorem dX5_winds_16 : decode cX5_winds 16 = .ok (.invokevirtual 215, 3) := by decide +kernel
theorem dX5_winds_19 : decode cX5_winds 19 = .ok (.ifCond .ge 7, 3) := by decide +kernel
theorem dX5_winds_22 : decode cX5_winds 22 = .ok (.iconst 0, 1) := by decide +kernel
theorem dX5_winds_23 : decode cX5_winds 23 = .ok (.goto 7, 3) := by decide +kernel
theorem dX5_winds_26 : decode cX5_winds 26 = .ok (.aload_n 0, 1) := by decide +kernel
theorem dX5_winds_27 : decode cX5_winds 27 = .ok (.getfield 212, 3) := by decide +kernel
theorem dX5_winds_30 : decode cX5_winds 30 = .ok (.ireturn, 1) := by decide +kernel
theorem dX5_windFor_0 : decode cX5_windFor 0 = .ok (.iload_n 1, 1) := by decide +kernel
theorem dX5_windFor_1 : decode cX5_windFor 1 = .ok (.invokestatic 138, 3) := by decide +kernel
theorem dX5_windFor_4 : decode cX5_windFor 4 = .ok (.ifCond .eq 18, 3) := by decide +kernel
theorem dX5_windFor_7 : decode cX5_windFor 7 = .ok (.aload_n 0, 1) := by decide +kernel
theorem dX5_windFor_8 : decode cX5_windFor 8 = .ok (.aload_n 0, 1) := by decide +kernel
theorem dX5_windFor_9 : decode cX5_windFor 9 = .ok (.iconst 2, 1) := by decide +kernel
theorem dX5_windFor_10 : decode cX5_windFor 10 = .ok (.bipush 8, 2) := by decide +kernel
theorem dX5_windFor_12 : decode cX5_windFor 12 = .ok (.iload_n 1, 1) := by decide +kernel
theorem dX5_windFor_13 : decode cX5_windFor 13 = .ok (.invokevirtual 203, 3) := by decide +kernel
theorem dX5_windFor_16 : decode cX5_windFor 16 = .ok (.invokevirtual 209, 3) := by decide +kernel
theorem dX5_windFor_19 : decode cX5_windFor 19 = .ok (.goto 9, 3) := by decide +kernel
theorem dX5_windFor_22 : decode cX5_windFor 22 = .ok (.aload_n 0, 1) := by decide +kernel
theorem dX5_windFor_23 : decode cX5_windFor 23 = .ok (.ldc 66, 2) := by decide +kernel
theorem dX5_windFor_25 : decode cX5_windFor 25 = .ok (.invokevirtual 86, 3) := by decide +kernel
theorem dX5_windFor_28 : decode cX5_windFor 28 = .ok (.ireturn, 1) := by decide +kernel
theorem dX5_findCrew_0 : decode cX5_findCrew 0 = .ok (.iconst (-1), 1) := by decide +kernel
theorem dX5_findCrew_1 : decode cX5_findCrew 1 = .ok (.istore_n 2, 1) := by decide +kernel
theorem dX5_findCrew_2 : decode cX5_findCrew 2 = .ok (.iconst 0, 1) := by decide +kernel
theorem dX5_findCrew_3 : decode cX5_findCrew 3 = .ok (.istore_n 3, 1) := by decide +kernel
theorem dX5_findCrew_4 : decode cX5_findCrew 4 = .ok (.iload_n 3, 1) := by decide +kernel
theorem dX5_findCrew_5 : decode cX5_findCrew 5 = .ok (.iconst 1, 1) := by decide +kernel
theorem dX5_findCrew_6 : decode cX5_findCrew 6 = .ok (.aload_n 0, 1) := by decide +kernel
theorem dX5_findCrew_7 : decode cX5_findCrew 7 = .ok (.getfield 9, 3) := by decide +kernel
theorem dX5_findCrew_10 : decode cX5_findCrew 10 = .ok (.iconst 4, 1) := by decide +kernel
theorem dX5_findCrew_11 : decode cX5_findCrew 11 = .ok (.iaload, 1) := by decide +kernel
theorem dX5_findCrew_12 : decode cX5_findCrew 12 = .ok (.ishl, 1) := by decide +kernel
theorem dX5_findCrew_13 : decode cX5_findCrew 13 = .ok (.if_icmp .ge 58, 3) := by decide +kernel
theorem dX5_findCrew_16 : decode cX5_findCrew 16 = .ok (.iload_n 2, 1) := by decide +kernel
theorem dX5_findCrew_17 : decode cX5_findCrew 17 = .ok (.ifCond .lt 22, 3) := by decide +kernel
theorem dX5_findCrew_20 : decode cX5_findCrew 20 = .ok (.aload_n 0, 1) := by decide +kernel
theorem dX5_findCrew_21 : decode cX5_findCrew 21 = .ok (.iload_n 3, 1) := by decide +kernel
theorem dX5_findCrew_22 : decode cX5_findCrew 22 = .ok (.invokevirtual 120, 3) := by decide +kernel
theorem dX5_findCrew_25 : decode cX5_findCrew 25 = .ok (.invokestatic 218, 3) := by decide +kernel
theorem dX5_findCrew_28 : decode cX5_findCrew 28 = .ok (.aload_n 0, 1) := by decide +kernel
theorem dX5_findCrew_29 : decode cX5_findCrew 29 = .ok (.iload_n 2, 1) := by decide +kernel
theorem dX5_findCrew_30 : decode cX5_findCrew 30 = .ok (.invokevirtual 120, 3) := by decide +kernel
theorem dX5_findCrew_33 : decode cX5_findCrew 33 = .ok (.invokestatic 218, 3) := by decide +kernel
theorem dX5_findCrew_36 : decode cX5_findCrew 36 = .ok (.if_icmp .ge 7, 3) := by decide +kernel
theorem dX5_findCrew_39 : decode cX5_findCrew 39 = .ok (.iconst 1, 1) := by decide +kernel
theorem dX5_findCrew_40 : decode cX5_findCrew 40 = .ok (.goto 4, 3) := by decide +kernel
theorem dX5_findCrew_43 : decode cX5_findCrew 43 = .ok (.iconst 0, 1) := by decide +kernel
theorem dX5_findCrew_44 : decode cX5_findCrew 44 = .ok (.istore 4, 2) := by decide +kernel
theorem dX5_findCrew_46 : decode cX5_findCrew 46 = .ok (.iload_n 3, 1) := by decide +kernel
theorem dX5_findCrew_47 : decode cX5_findCrew 47 = .ok (.invokestatic 114, 3) := by decide +kernel
theorem dX5_findCrew_50 : decode cX5_findCrew 50 = .ok (.iload_n 1, 1) := by decide +kernel
theorem dX5_findCrew_51 : decode cX5_findCrew 51 = .ok (.if_icmp .ne 12, 3) := by decide +kernel
theorem dX5_findCrew_54 : decode cX5_findCrew 54 = .ok (.iload 4, 2) := by decide +kernel
theorem dX5_findCrew_56 : decode cX5_findCrew 56 = .ok (.ifCond .eq 7, 3) := by decide +kernel
theorem dX5_findCrew_59 : decode cX5_findCrew 59 = .ok (.iload_n 3, 1) := by decide +kernel
theorem dX5_findCrew_60 : decode cX5_findCrew 60 = .ok (.goto 4, 3) := by decide +kernel
theorem dX5_findCrew_63 : decode cX5_findCrew 63 = .ok (.iload_n 2, 1) := by decide +kernel
theorem dX5_findCrew_64 : decode cX5_findCrew 64 = .ok (.istore_n 2, 1) := by decide +kernel
theorem dX5_findCrew_65 : decode cX5_findCrew 65 = .ok (.iinc 3 1, 3) := by decide +kernel
theorem dX5_findCrew_68 : decode cX5_findCrew 68 = .ok (.goto (-64), 3) := by decide +kernel
theorem dX5_findCrew_71 : decode cX5_findCrew 71 = .ok (.iload_n 2, 1) := by decide +kernel
theorem dX5_findCrew_72 : decode cX5_findCrew 72 = .ok (.ireturn, 1) := by decide +kernel
theorem dX5_crew_0 : decode cX5_crew 0 = .ok (.iload_n 1, 1) := by decide +kernel
theorem dX5_crew_1 : decode cX5_crew 1 = .ok (.iconst 1, 1) := by decide +kernel
theorem dX5_crew_2 : decode cX5_crew 2 = .ok (.bipush 8, 2) := by decide +kernel
theorem dX5_crew_4 : decode cX5_crew 4 = .ok (.invokestatic 71, 3) := by decide +kernel
theorem dX5_crew_7 : decode cX5_crew 7 = .ok (.ifCond .eq 15, 3) := by decide +kernel
theorem dX5_crew_10 : decode cX5_crew 10 = .ok (.aload_n 0, 1) := by decide +kernel
theorem dX5_crew_11 : decode cX5_crew 11 = .ok (.aload_n 0, 1) := by decide +kernel
theorem dX5_crew_12 : decode cX5_crew 12 = .ok (.iload_n 1, 1) := by decide +kernel
theorem dX5_crew_13 : decode cX5_crew 13 = .ok (.invokevirtual 221, 3) := by decide +kernel
theorem dX5_crew_16 : decode cX5_crew 16 = .ok (.invokevirtual 209, 3) := by decide +kernel
theorem dX5_crew_19 : decode cX5_crew 19 = .ok (.goto 9, 3) := by decide +kernel
theorem dX5_crew_22 : decode cX5_crew 22 = .ok (.aload_n 0, 1) := by decide +kernel
theorem dX5_crew_23 : decode cX5_crew 23 = .ok (.ldc 66, 2) := by decide +kernel
theorem dX5_crew_25 : decode cX5_crew 25 = .ok (.invokevirtual 86, 3) := by decide +kernel
theorem dX5_crew_28 : decode cX5_crew 28 = .ok (.ireturn, 1) := by decide +kernel
theorem dX5_mean_0 : decode cX5_mean 0 = .ok (.iload_n 1, 1) := by decide +kernel
theorem dX5_mean_1 : decode cX5_mean 1 = .ok (.iconst 1, 1) := by decide +kernel
theorem dX5_mean_2 : decode cX5_mean 2 = .ok (.bipush 8, 2) := by decide +kernel
theorem dX5_mean_4 : decode cX5_mean 4 = .ok (.invokestatic 71, 3) := by decide +kernel
theorem dX5_mean_7 : decode cX5_mean 7 = .ok (.ifCond .ne 10, 3) := by decide +kernel
theorem dX5_mean_10 : decode cX5_mean 10 = .ok (.aload_n 0, 1) := by decide +kernel
theorem dX5_mean_11 : decode cX5_mean 11 = .ok (.ldc 66, 2) := by decide +kernel
theorem dX5_mean_13 : decode cX5_mean 13 = .ok (.invokevirtual 86, 3) := by decide +kernel
theorem dX5_mean_16 : decode cX5_mean 16 = .ok (.ireturn, 1) := by decide +kernel
theorem dX5_mean_17 : decode cX5_mean 17 = .ok (.aload_n 0, 1) := by decide +kernel
theorem dX5_mean_18 : decode cX5_mean 18 = .ok (.iload_n 1, 1) := by decide +kernel
theorem dX5_mean_19 : decode cX5_mean 19 = .ok (.invokevirtual 221, 3) := by decide +kernel
theorem dX5_mean_22 : decode cX5_mean 22 = .ok (.istore_n 2, 1) := by decide +kernel
theorem dX5_mean_23 : decode cX5_mean 23 = .ok (.iload_n 2, 1) := by decide +kernel
theorem dX5_mean_24 : decode cX5_mean 24 = .ok (.ifCond .ge 12, 3) := by decide +kernel
theorem dX5_mean_27 : decode cX5_mean 27 = .ok (.aload_n 0, 1) := by decide +kernel
theorem dX5_mean_28 : decode cX5_mean 28 = .ok (.ldc 185, 2) := by decide +kernel
theorem dX5_mean_30 : decode cX5_mean 30 = .ok (.invokevirtual 86, 3) := by decide +kernel
theorem dX5_mean_33 : decode cX5_mean 33 = .ok (.goto 8, 3) := by decide +kernel
theorem dX5_mean_36 : decode cX5_mean 36 = .ok (.aload_n 0, 1) := by decide +kernel
theorem dX5_mean_37 : decode cX5_mean 37 = .ok (.iload_n 2, 1) := by decide +kernel
theorem dX5_mean_38 : decode cX5_mean 38 = .ok (.invokevirtual 120, 3) := by decide +kernel
theorem dX5_mean_41 : decode cX5_mean 41 = .ok (.ireturn, 1) := by decide +kernel
theorem dX5_better_0 : decode cX5_better 0 = .ok (.iload_n 1, 1) := by decide +kernel
theorem dX5_better_1 : decode cX5_better 1 = .ok (.invokestatic 138, 3) := by decide +kernel
theorem dX5_better_4 : decode cX5_better 4 = .ok (.ifCond .ne 10, 3) := by decide +kernel
theorem dX5_better_7 : decode cX5_better 7 = .ok (.aload_n 0, 1) := by decide +kernel
theorem dX5_better_8 : decode cX5_better 8 = .ok (.ldc 66, 2) := by decide +kernel
theorem dX5_better_10 : decode cX5_better 10 = .ok (.invokevirtual 86, 3) := by decide +kernel
theorem dX5_better_13 : decode cX5_better 13 = .ok (.ireturn, 1) := by decide +kernel
theorem dX5_better_14 : decode cX5_better 14 = .ok (.aload_n 0, 1) := by decide +kernel
theorem dX5_better_15 : decode cX5_better 15 = .ok (.iload_n 1, 1) := by decide +kernel
theorem dX5_better_16 : decode cX5_better 16 = .ok (.iconst 2, 1) := by decide +kernel
theorem dX5_better_17 : decode cX5_better 17 = .ok (.invokevirtual 117, 3) := by decide +kernel
theorem dX5_better_20 : decode cX5_better 20 = .ok (.istore_n 2, 1) := by decide +kernel
theorem dX5_better_21 : decode cX5_better 21 = .ok (.iconst (-1), 1) := by decide +kernel
theorem dX5_better_22 : decode cX5_better 22 = .ok (.istore_n 3, 1) := by decide +kernel
theorem dX5_better_23 : decode cX5_better 23 = .ok (.ldc 184, 2) := by decide +kernel
theorem dX5_better_25 : decode cX5_better 25 = .ok (.istore 4, 2) := by decide +kernel
theorem dX5_better_27 : decode cX5_better 27 = .ok (.iconst 0, 1) := by decide +kernel
theorem dX5_better_28 : decode cX5_better 28 = .ok (.istore 5, 2) := by decide +kernel
theorem dX5_better_30 : decode cX5_better 30 = .ok (.iload 5, 2) := by decide +kernel
theorem dX5_better_32 : decode cX5_better 32 = .ok (.aload_n 0, 1) := by decide +kernel
theorem dX5_better_33 : decode cX5_better 33 = .ok (.getfield 9, 3) := by decide +kernel
theorem dX5_better_36 : decode cX5_better 36 = .ok (.iconst 4, 1) := by decide +kernel
theorem dX5_better_37 : decode cX5_better 37 = .ok (.iaload, 1) := by decide +kernel
theorem dX5_better_38 : decode cX5_better 38 = .ok (.if_icmp .ge 47, 3) := by decide +kernel
theorem dX5_better_41 : decode cX5_better 41 = .ok (.aload_n 0, 1) := by decide +kernel
theorem dX5_better_42 : decode cX5_better 42 = .ok (.iload_n 2, 1) := by decide +kernel
theorem dX5_better_43 : decode cX5_better 43 = .ok (.iconst 1, 1) := by decide +kernel
theorem dX5_better_44 : decode cX5_better 44 = .ok (.iload 5, 2) := by decide +kernel
theorem dX5_better_46 : decode cX5_better 46 = .ok (.ishl, 1) := by decide +kernel
theorem dX5_better_47 : decode cX5_better 47 = .ok (.ixor, 1) := by decide +kernel
theorem dX5_better_48 : decode cX5_better 48 = .ok (.invokevirtual 120, 3) := by decide +kernel
theorem dX5_better_51 : decode cX5_better 51 = .ok (.invokestatic 218, 3) := by decide +kernel
theorem dX5_better_54 : decode cX5_better 54 = .ok (.istore 6, 2) := by decide +kernel
theorem dX5_better_56 : decode cX5_better 56 = .ok (.iload 6, 2) := by decide +kernel
theorem dX5_better_58 : decode cX5_better 58 = .ok (.iload 4, 2) := by decide +kernel
theorem dX5_better_60 : decode cX5_better 60 = .ok (.if_icmp .ge 8, 3) := by decide +kernel
theorem dX5_better_63 : decode cX5_better 63 = .ok (.iload 5, 2) := by decide +kernel
theorem dX5_better_65 : decode cX5_better 65 = .ok (.goto 4, 3) := by decide +kernel
theorem dX5_better_68 : decode cX5_better 68 = .ok (.iload_n 3, 1) := by decide +kernel
theorem dX5_better_69 : decode cX5_better 69 = .ok (.istore_n 3, 1) := by decide +kernel
theorem dX5_better_70 : decode cX5_better 70 = .ok (.iload 4, 2) := by decide +kernel
theorem dX5_better_72 : decode cX5_better 72 = .ok (.iload 6, 2) := by decide +kernel
theorem dX5_better_74 : decode cX5_better 74 = .ok (.invokestatic 151, 3) := by decide +kernel
theorem dX5_better_77 : decode cX5_better 77 = .ok (.istore 4, 2) := by decide +kernel
theorem dX5_better_79 : decode cX5_better 79 = .ok (.iinc 5 1, 3) := by decide +kernel
theorem dX5_better_82 : decode cX5_better 82 = .ok (.goto (-52), 3) := by decide +kernel
theorem dX5_better_85 : decode cX5_better 85 = .ok (.aload_n 0, 1) := by decide +kernel
theorem dX5_better_86 : decode cX5_better 86 = .ok (.iload_n 3, 1) := by decide +kernel
theorem dX5_better_87 : decode cX5_better 87 = .ok (.invokevirtual 209, 3) := by decide +kernel
theorem dX5_better_90 : decode cX5_better 90 = .ok (.ireturn, 1) := by decide +kernel
theorem dX5_apart_0 : decode cX5_apart 0 = .ok (.iload_n 0, 1) := by decide +kernel
theorem dX5_apart_1 : decode cX5_apart 1 = .ok (.bipush 10, 2) := by decide +kernel
theorem dX5_apart_3 : decode cX5_apart 3 = .ok (.idiv, 1) := by decide +kernel
theorem dX5_apart_4 : decode cX5_apart 4 = .ok (.iload_n 1, 1) := by decide +kernel
theorem dX5_apart_5 : decode cX5_apart 5 = .ok (.bipush 10, 2) := by decide +kernel
theorem dX5_apart_7 : decode cX5_apart 7 = .ok (.idiv, 1) := by decide +kernel
theorem dX5_apart_8 : decode cX5_apart 8 = .ok (.isub, 1) := by decide +kernel
theorem dX5_apart_9 : decode cX5_apart 9 = .ok (.invokestatic 218, 3) := by decide +kernel
theorem dX5_apart_12 : decode cX5_apart 12 = .ok (.iload_n 0, 1) := by decide +kernel
theorem dX5_apart_13 : decode cX5_apart 13 = .ok (.bipush 10, 2) := by decide +kernel
theorem dX5_apart_15 : decode cX5_apart 15 = .ok (.irem, 1) := by decide +kernel
theorem dX5_apart_16 : decode cX5_apart 16 = .ok (.iload_n 1, 1) := by decide +kernel
theorem dX5_apart_17 : decode cX5_apart 17 = .ok (.bipush 10, 2) := by decide +kernel
theorem dX5_apart_19 : decode cX5_apart 19 = .ok (.irem, 1) := by decide +kernel
theorem dX5_apart_20 : decode cX5_apart 20 = .ok (.isub, 1) := by decide +kernel
theorem dX5_apart_21 : decode cX5_apart 21 = .ok (.invokestatic 218, 3) := by decide +kernel
theorem dX5_apart_24 : decode cX5_apart 24 = .ok (.iadd, 1) := by decide +kernel
theorem dX5_apart_25 : decode cX5_apart 25 = .ok (.ireturn, 1) := by decide +kernel
theorem dX5_spy_0 : decode cX5_spy 0 = .ok (.iload_n 1, 1) := by decide +kernel
theorem dX5_spy_1 : decode cX5_spy 1 = .ok (.invokestatic 138, 3) := by decide +kernel
theorem dX5_spy_4 : decode cX5_spy 4 = .ok (.ifCond .eq 21, 3) := by decide +kernel
theorem dX5_spy_7 : decode cX5_spy 7 = .ok (.aload_n 0, 1) := by decide +kernel
theorem dX5_spy_8 : decode cX5_spy 8 = .ok (.iload_n 2, 1) := by decide +kernel
theorem dX5_spy_9 : decode cX5_spy 9 = .ok (.invokevirtual 105, 3) := by decide +kernel
theorem dX5_spy_12 : decode cX5_spy 12 = .ok (.ifCond .eq 13, 3) := by decide +kernel
theorem dX5_spy_15 : decode cX5_spy 15 = .ok (.iload_n 3, 1) := by decide +kernel
theorem dX5_spy_16 : decode cX5_spy 16 = .ok (.iconst 0, 1) := by decide +kernel
theorem dX5_spy_17 : decode cX5_spy 17 = .ok (.bipush 40, 2) := by decide +kernel
theorem dX5_spy_19 : decode cX5_spy 19 = .ok (.invokestatic 71, 3) := by decide +kernel
theorem dX5_spy_22 : decode cX5_spy 22 = .ok (.ifCond .ne 10, 3) := by decide +kernel
theorem dX5_spy_25 : decode cX5_spy 25 = .ok (.aload_n 0, 1) := by decide +kernel
theorem dX5_spy_26 : decode cX5_spy 26 = .ok (.ldc 66, 2) := by decide +kernel
theorem dX5_spy_28 : decode cX5_spy 28 = .ok (.invokevirtual 86, 3) := by decide +kernel
theorem dX5_spy_31 : decode cX5_spy 31 = .ok (.ireturn, 1) := by decide +kernel
theorem dX5_spy_32 : decode cX5_spy 32 = .ok (.aload_n 0, 1) := by decide +kernel
theorem dX5_spy_33 : decode cX5_spy 33 = .ok (.iload_n 1, 1) := by decide +kernel
theorem dX5_spy_34 : decode cX5_spy 34 = .ok (.iconst 2, 1) := by decide +kernel
theorem dX5_spy_35 : decode cX5_spy 35 = .ok (.invokevirtual 117, 3) := by decide +kernel
theorem dX5_spy_38 : decode cX5_spy 38 = .ok (.iload_n 2, 1) := by decide +kernel
theorem dX5_spy_39 : decode cX5_spy 39 = .ok (.invokestatic 101, 3) := by decide +kernel
theorem dX5_spy_42 : decode cX5_spy 42 = .ok (.ifCond .ne 10, 3) := by decide +kernel
theorem dX5_spy_45 : decode cX5_spy 45 = .ok (.aload_n 0, 1) := by decide +kernel
theorem dX5_spy_46 : decode cX5_spy 46 = .ok (.ldc 160, 2) := by decide +kernel
theorem dX5_spy_48 : decode cX5_spy 48 = .ok (.invokevirtual 86, 3) := by decide +kernel
theorem dX5_spy_51 : decode cX5_spy 51 = .ok (.ireturn, 1) := by decide +kernel
theorem dX5_spy_52 : decode cX5_spy 52 = .ok (.aload_n 0, 1) := by decide +kernel
theorem dX5_spy_53 : decode cX5_spy 53 = .ok (.iload_n 1, 1) := by decide +kernel
theorem dX5_spy_54 : decode cX5_spy 54 = .ok (.iload_n 3, 1) := by decide +kernel
theorem dX5_spy_55 : decode cX5_spy 55 = .ok (.invokevirtual 181, 3) := by decide +kernel
theorem dX5_spy_58 : decode cX5_spy 58 = .ok (.istore 4, 2) := by decide +kernel
theorem dX5_spy_60 : decode cX5_spy 60 = .ok (.aload_n 0, 1) := by decide +kernel
theorem dX5_spy_61 : decode cX5_spy 61 = .ok (.iload_n 2, 1) := by decide +kernel
theorem dX5_spy_62 : decode cX5_spy 62 = .ok (.iconst 0, 1) := by decide +kernel
theorem dX5_spy_63 : decode cX5_spy 63 = .ok (.invokevirtual 98, 3) := by decide +kernel
theorem dX5_spy_66 : decode cX5_spy 66 = .ok (.istore 5, 2) := by decide +kernel
theorem dX5_spy_68 : decode cX5_spy 68 = .ok (.iconst (-1), 1) := by decide +kernel
theorem dX5_spy_69 : decode cX5_spy 69 = .ok (.istore 6, 2) := by decide +kernel
theorem dX5_spy_71 : decode cX5_spy 71 = .ok (.iconst (-1), 1) := by decide +kernel
theorem dX5_spy_72 : decode cX5_spy 72 = .ok (.istore 7, 2) := by decide +kernel
theorem dX5_spy_74 : decode cX5_spy 74 = .ok (.iconst 0, 1) := by decide +kernel
theorem dX5_spy_75 : decode cX5_spy 75 = .ok (.istore 8, 2) := by decide +kernel
theorem dX5_spy_77 : decode cX5_spy 77 = .ok (.iload 8, 2) := by decide +kernel
theorem dX5_spy_79 : decode cX5_spy 79 = .ok (.bipush 6, 2) := by decide +kernel
theorem dX5_spy_81 : decode cX5_spy 81 = .ok (.if_icmp .gt 59, 3) := by decide +kernel
theorem dX5_spy_84 : decode cX5_spy 84 = .ok (.aload_n 0, 1) := by decide +kernel
theorem dX5_spy_85 : decode cX5_spy 85 = .ok (.getfield 9, 3) := by decide +kernel
theorem dX5_spy_88 : decode cX5_spy 88 = .ok (.iload_n 2, 1) := by decide +kernel
theorem dX5_spy_89 : decode cX5_spy 89 = .ok (.iconst 0, 1) := by decide +kernel
theorem dX5_spy_90 : decode cX5_spy 90 = .ok (.invokestatic 75, 3) := by decide +kernel
theorem dX5_spy_93 : decode cX5_spy 93 = .ok (.iload 8, 2) := by decide +kernel
theorem dX5_spy_95 : decode cX5_spy 95 = .ok (.iastore, 1) := by decide +kernel
theorem dX5_spy_96 : decode cX5_spy 96 = .ok (.iload 4, 2) := by decide +kernel
theorem dX5_spy_98 : decode cX5_spy 98 = .ok (.aload_n 0, 1) := by decide +kernel
theorem dX5_spy_99 : decode cX5_spy 99 = .ok (.iload_n 1, 1) := by decide +kernel
theorem dX5_spy_100 : decode cX5_spy 100 = .ok (.iload_n 3, 1) := by decide +kernel
theorem dX5_spy_101 : decode cX5_spy 101 = .ok (.invokevirtual 181, 3) := by decide +kernel
theorem dX5_spy_104 : decode cX5_spy 104 = .ok (.invokestatic 224, 3) := by decide +kernel
theorem dX5_spy_107 : decode cX5_spy 107 = .ok (.istore 9, 2) := by decide +kernel
theorem dX5_spy_109 : decode cX5_spy 109 = .ok (.iload 9, 2) := by decide +kernel
theorem dX5_spy_111 : decode cX5_spy 111 = .ok (.iload 7, 2) := by decide +kernel
theorem dX5_spy_113 : decode cX5_spy 113 = .ok (.if_icmp .le 8, 3) := by decide +kernel
theorem dX5_spy_116 : decode cX5_spy 116 = .ok (.iload 8, 2) := by decide +kernel
theorem dX5_spy_118 : decode cX5_spy 118 = .ok (.goto 5, 3) := by decide +kernel
theorem dX5_spy_121 : decode cX5_spy 121 = .ok (.iload 6, 2) := by decide +kernel
theorem dX5_spy_123 : decode cX5_spy 123 = .ok (.istore 6, 2) := by decide +kernel
theorem dX5_spy_125 : decode cX5_spy 125 = .ok (.iload 7, 2) := by decide +kernel
theorem dX5_spy_127 : decode cX5_spy 127 = .ok (.iload 9, 2) := by decide +kernel
theorem dX5_spy_129 : decode cX5_spy 129 = .ok (.invokestatic 169, 3) := by decide +kernel
theorem dX5_spy_132 : decode cX5_spy 132 = .ok (.istore 7, 2) := by decide +kernel
theorem dX5_spy_134 : decode cX5_spy 134 = .ok (.iinc 8 1, 3) := by decide +kernel
theorem dX5_spy_137 : decode cX5_spy 137 = .ok (.goto (-60), 3) := by decide +kernel
theorem dX5_spy_140 : decode cX5_spy 140 = .ok (.aload_n 0, 1) := by decide +kernel
theorem dX5_spy_141 : decode cX5_spy 141 = .ok (.getfield 9, 3) := by decide +kernel
theorem dX5_spy_144 : decode cX5_spy 144 = .ok (.iload_n 2, 1) := by decide +kernel
theorem dX5_spy_145 : decode cX5_spy 145 = .ok (.iconst 0, 1) := by decide +kernel
theorem dX5_spy_146 : decode cX5_spy 146 = .ok (.invokestatic 75, 3) := by decide +kernel
theorem dX5_spy_149 : decode cX5_spy 149 = .ok (.iload 5, 2) := by decide +kernel
theorem dX5_spy_151 : decode cX5_spy 151 = .ok (.iastore, 1) := by decide +kernel
theorem dX5_spy_152 : decode cX5_spy 152 = .ok (.iload 6, 2) := by decide +kernel
theorem dX5_spy_154 : decode cX5_spy 154 = .ok (.ireturn, 1) := by decide +kernel
theorem dX5_usedIn_0 : decode cX5_usedIn 0 = .ok (.aload_n 0, 1) := by decide +kernel
theorem dX5_usedIn_1 : decode cX5_usedIn 1 = .ok (.getfield 9, 3) := by decide +kernel
theorem dX5_usedIn_4 : decode cX5_usedIn 4 = .ok (.aload_n 0, 1) := by decide +kernel
theorem dX5_usedIn_5 : decode cX5_usedIn 5 = .ok (.getfield 16, 3) := by decide +kernel
theorem dX5_usedIn_8 : decode cX5_usedIn 8 = .ok (.invokestatic 67, 3) := by decide +kernel
theorem dX5_usedIn_11 : decode cX5_usedIn 11 = .ok (.iconst 0, 1) := by decide +kernel
theorem dX5_usedIn_12 : decode cX5_usedIn 12 = .ok (.istore_n 3, 1) := by decide +kernel
theorem dX5_usedIn_13 : decode cX5_usedIn 13 = .ok (.iconst 0, 1) := by decide +kernel
theorem dX5_usedIn_14 : decode cX5_usedIn 14 = .ok (.istore 4, 2) := by decide +kernel
theorem dX5_usedIn_16 : decode cX5_usedIn 16 = .ok (.iload 4, 2) := by decide +kernel
theorem dX5_usedIn_18 : decode cX5_usedIn 18 = .ok (.iload_n 1, 1) := by decide +kernel
theorem dX5_usedIn_19 : decode cX5_usedIn 19 = .ok (.if_icmp .ge 59, 3) := by decide +kernel
theorem dX5_usedIn_22 : decode cX5_usedIn 22 = .ok (.iconst 0, 1) := by decide +kernel
theorem dX5_usedIn_23 : decode cX5_usedIn 23 = .ok (.istore 5, 2) := by decide +kernel
theorem dX5_usedIn_25 : decode cX5_usedIn 25 = .ok (.iload 5, 2) := by decide +kernel
theorem dX5_usedIn_27 : decode cX5_usedIn 27 = .ok (.aload_n 0, 1) := by decide +kernel
theorem dX5_usedIn_28 : decode cX5_usedIn 28 = .ok (.getfield 9, 3) := by decide +kernel
theorem dX5_usedIn_31 : decode cX5_usedIn 31 = .ok (.iconst 4, 1) := by decide +kernel
theorem dX5_usedIn_32 : decode cX5_usedIn 32 = .ok (.iaload, 1) := by decide +kernel
theorem dX5_usedIn_33 : decode cX5_usedIn 33 = .ok (.if_icmp .ge 35, 3) := by decide +kernel
theorem dX5_usedIn_36 : decode cX5_usedIn 36 = .ok (.aload_n 0, 1) := by decide +kernel
theorem dX5_usedIn_37 : decode cX5_usedIn 37 = .ok (.iload 5, 2) := by decide +kernel
theorem dX5_usedIn_39 : decode cX5_usedIn 39 = .ok (.iconst 1, 1) := by decide +kernel
theorem dX5_usedIn_40 : decode cX5_usedIn 40 = .ok (.invokevirtual 98, 3) := by decide +kernel
theorem dX5_usedIn_43 : decode cX5_usedIn 43 = .ok (.iload_n 2, 1) := by decide +kernel
theorem dX5_usedIn_44 : decode cX5_usedIn 44 = .ok (.if_icmp .lt 18, 3) := by decide +kernel
theorem dX5_usedIn_47 : decode cX5_usedIn 47 = .ok (.aload_n 0, 1) := by decide +kernel
theorem dX5_usedIn_48 : decode cX5_usedIn 48 = .ok (.getfield 9, 3) := by decide +kernel
theorem dX5_usedIn_51 : decode cX5_usedIn 51 = .ok (.iload 5, 2) := by decide +kernel
theorem dX5_usedIn_53 : decode cX5_usedIn 53 = .ok (.iconst 1, 1) := by decide +kernel
theorem dX5_usedIn_54 : decode cX5_usedIn 54 = .ok (.invokestatic 75, 3) := by decide +kernel
theorem dX5_usedIn_57 : decode cX5_usedIn 57 = .ok (.iconst 0, 1) := by decide +kernel
theorem dX5_usedIn_58 : decode cX5_usedIn 58 = .ok (.iastore, 1) := by decide +kernel
theorem dX5_usedIn_59 : decode cX5_usedIn 59 = .ok (.iinc 3 1, 3) := by decide +kernel
theorem dX5_usedIn_62 : decode cX5_usedIn 62 = .ok (.iinc 5 1, 3) := by decide +kernel
theorem dX5_usedIn_65 : decode cX5_usedIn 65 = .ok (.goto (-40), 3) := by decide +kernel
theorem dX5_usedIn_68 : decode cX5_usedIn 68 = .ok (.aload_n 0, 1) := by decide +kernel
theorem dX5_usedIn_69 : decode cX5_usedIn 69 = .ok (.invokevirtual 156, 3) := by decide +kernel
theorem dX5_usedIn_72 : decode cX5_usedIn 72 = .ok (.iinc 4 1, 3) := by decide +kernel
theorem dX5_usedIn_75 : decode cX5_usedIn 75 = .ok (.goto (-59), 3) := by decide +kernel
theorem dX5_usedIn_78 : decode cX5_usedIn 78 = .ok (.aload_n 0, 1) := by decide +kernel
theorem dX5_usedIn_79 : decode cX5_usedIn 79 = .ok (.iload_n 3, 1) := by decide +kernel
theorem dX5_usedIn_80 : decode cX5_usedIn 80 = .ok (.invokevirtual 178, 3) := by decide +kernel
theorem dX5_usedIn_83 : decode cX5_usedIn 83 = .ok (.ireturn, 1) := by decide +kernel
theorem dX5_uses_0 : decode cX5_uses 0 = .ok (.iload_n 1, 1) := by decide +kernel
theorem dX5_uses_1 : decode cX5_uses 1 = .ok (.iconst 0, 1) := by decide +kernel
theorem dX5_uses_2 : decode cX5_uses 2 = .ok (.sipush 200, 3) := by decide +kernel
theorem dX5_uses_5 : decode cX5_uses 5 = .ok (.invokestatic 71, 3) := by decide +kernel
theorem dX5_uses_8 : decode cX5_uses 8 = .ok (.ifCond .eq 22, 3) := by decide +kernel
theorem dX5_uses_11 : decode cX5_uses 11 = .ok (.iload_n 2, 1) := by decide +kernel
theorem dX5_uses_12 : decode cX5_uses 12 = .ok (.iconst 1, 1) := by decide +kernel
theorem dX5_uses_13 : decode cX5_uses 13 = .ok (.bipush 99, 2) := by decide +kernel
theorem dX5_uses_15 : decode cX5_uses 15 = .ok (.invokestatic 71, 3) := by decide +kernel
theorem dX5_uses_18 : decode cX5_uses 18 = .ok (.ifCond .eq 12, 3) := by decide +kernel
theorem dX5_uses_21 : decode cX5_uses 21 = .ok (.aload_n 0, 1) := by decide +kernel
theorem dX5_uses_22 : decode cX5_uses 22 = .ok (.iload_n 1, 1) := by decide +kernel
theorem dX5_uses_23 : decode cX5_uses 23 = .ok (.iload_n 2, 1) := by decide +kernel
theorem dX5_uses_24 : decode cX5_uses 24 = .ok (.invokevirtual 227, 3) := by decide +kernel
theorem dX5_uses_27 : decode cX5_uses 27 = .ok (.goto 9, 3) := by decide +kernel
theorem dX5_uses_30 : decode cX5_uses 30 = .ok (.aload_n 0, 1) := by decide +kernel
theorem dX5_uses_31 : decode cX5_uses 31 = .ok (.ldc 66, 2) := by decide +kernel
theorem dX5_uses_33 : decode cX5_uses 33 = .ok (.invokevirtual 86, 3) := by decide +kernel
theorem dX5_uses_36 : decode cX5_uses 36 = .ok (.ireturn, 1) := by decide +kernel
theorem dX5_hunger_0 : decode cX5_hunger 0 = .ok (.iload_n 1, 1) := by decide +kernel
theorem dX5_hunger_1 : decode cX5_hunger 1 = .ok (.iconst 0, 1) := by decide +kernel
theorem dX5_hunger_2 : decode cX5_hunger 2 = .ok (.sipush 200, 3) := by decide +kernel
theorem dX5_hunger_5 : decode cX5_hunger 5 = .ok (.invokestatic 71, 3) := by decide +kernel
theorem dX5_hunger_8 : decode cX5_hunger 8 = .ok (.ifCond .ne 10, 3) := by decide +kernel
theorem dX5_hunger_11 : decode cX5_hunger 11 = .ok (.aload_n 0, 1) := by decide +kernel
theorem dX5_hunger_12 : decode cX5_hunger 12 = .ok (.ldc 66, 2) := by decide +kernel
theorem dX5_hunger_14 : decode cX5_hunger 14 = .ok (.invokevirtual 86, 3) := by decide +kernel
theorem dX5_hunger_17 : decode cX5_hunger 17 = .ok (.ireturn, 1) := by decide +kernel
theorem dX5_hunger_18 : decode cX5_hunger 18 = .ok (.iconst 1, 1) := by decide +kernel
theorem dX5_hunger_19 : decode cX5_hunger 19 = .ok (.istore_n 2, 1) := by decide +kernel
theorem dX5_hunger_20 : decode cX5_hunger 20 = .ok (.iload_n 2, 1) := by decide +kernel
theorem dX5_hunger_21 : decode cX5_hunger 21 = .ok (.bipush 99, 2) := by decide +kernel
theorem dX5_hunger_23 : decode cX5_hunger 23 = .ok (.if_icmp .gt 24, 3) := by decide +kernel
theorem dX5_hunger_26 : decode cX5_hunger 26 = .ok (.aload_n 0, 1) := by decide +kernel
theorem dX5_hunger_27 : decode cX5_hunger 27 = .ok (.iload_n 1, 1) := by decide +kernel
theorem dX5_hunger_28 : decode cX5_hunger 28 = .ok (.iload_n 2, 1) := by decide +kernel
theorem dX5_hunger_29 : decode cX5_hunger 29 = .ok (.invokevirtual 227, 3) := by decide +kernel
theorem dX5_hunger_32 : decode cX5_hunger 32 = .ok (.aload_n 0, 1) := by decide +kernel
theorem dX5_hunger_33 : decode cX5_hunger 33 = .ok (.getfield 9, 3) := by decide +kernel
theorem dX5_hunger_36 : decode cX5_hunger 36 = .ok (.iconst 1, 1) := by decide +kernel
theorem dX5_hunger_37 : decode cX5_hunger 37 = .ok (.iaload, 1) := by decide +kernel
theorem dX5_hunger_38 : decode cX5_hunger 38 = .ok (.if_icmp .le 9, 3) := by decide +kernel
theorem dX5_hunger_41 : decode cX5_hunger 41 = .ok (.iinc 2 1, 3) := by decide +kernel
theorem dX5_hunger_44 : decode cX5_hunger 44 = .ok (.goto (-24), 3) := by decide +kernel
theorem dX5_hunger_47 : decode cX5_hunger 47 = .ok (.iload_n 2, 1) := by decide +kernel
theorem dX5_hunger_48 : decode cX5_hunger 48 = .ok (.bipush 99, 2) := by decide +kernel
theorem dX5_hunger_50 : decode cX5_hunger 50 = .ok (.if_icmp .le 12, 3) := by decide +kernel
theorem dX5_hunger_53 : decode cX5_hunger 53 = .ok (.aload_n 0, 1) := by decide +kernel
theorem dX5_hunger_54 : decode cX5_hunger 54 = .ok (.ldc 185, 2) := by decide +kernel
theorem dX5_hunger_56 : decode cX5_hunger 56 = .ok (.invokevirtual 86, 3) := by decide +kernel
theorem dX5_hunger_59 : decode cX5_hunger 59 = .ok (.goto 4, 3) := by decide +kernel
theorem dX5_hunger_62 : decode cX5_hunger 62 = .ok (.iload_n 2, 1) := by decide +kernel
theorem dX5_hunger_63 : decode cX5_hunger 63 = .ok (.ireturn, 1) := by decide +kernel
theorem dX5_satSo_0 : decode cX5_satSo 0 = .ok (.aload_n 0, 1) := by decide +kernel
theorem dX5_satSo_1 : decode cX5_satSo 1 = .ok (.getfield 9, 3) := by decide +kernel
theorem dX5_satSo_4 : decode cX5_satSo 4 = .ok (.aload_n 0, 1) := by decide +kernel
theorem dX5_satSo_5 : decode cX5_satSo 5 = .ok (.getfield 16, 3) := by decide +kernel
theorem dX5_satSo_8 : decode cX5_satSo 8 = .ok (.invokestatic 67, 3) := by decide +kernel
theorem dX5_satSo_11 : decode cX5_satSo 11 = .ok (.iconst 1, 1) := by decide +kernel
theorem dX5_satSo_12 : decode cX5_satSo 12 = .ok (.istore_n 3, 1) := by decide +kernel
theorem dX5_satSo_13 : decode cX5_satSo 13 = .ok (.iconst 0, 1) := by decide +kernel
theorem dX5_satSo_14 : decode cX5_satSo 14 = .ok (.istore 4, 2) := by decide +kernel
theorem dX5_satSo_16 : decode cX5_satSo 16 = .ok (.iload 4, 2) := by decide +kernel
theorem dX5_satSo_18 : decode cX5_satSo 18 = .ok (.aload_n 0, 1) := by decide +kernel
theorem dX5_satSo_19 : decode cX5_satSo 19 = .ok (.getfield 57, 3) := by decide +kernel
theorem dX5_satSo_22 : decode cX5_satSo 22 = .ok (.iload_n 1, 1) := by decide +kernel
theorem dX5_satSo_23 : decode cX5_satSo 23 = .ok (.iaload, 1) := by decide +kernel
theorem dX5_satSo_24 : decode cX5_satSo 24 = .ok (.if_icmp .ge 43, 3) := by decide +kernel
theorem dX5_satSo_27 : decode cX5_satSo 27 = .ok (.iload_n 3, 1) := by decide +kernel
theorem dX5_satSo_28 : decode cX5_satSo 28 = .ok (.ifCond .eq 39, 3) := by decide +kernel
theorem dX5_satSo_31 : decode cX5_satSo 31 = .ok (.aload_n 0, 1) := by decide +kernel
theorem dX5_satSo_32 : decode cX5_satSo 32 = .ok (.iload_n 2, 1) := by decide +kernel
theorem dX5_satSo_33 : decode cX5_satSo 33 = .ok (.invokevirtual 108, 3) := by decide +kernel
theorem dX5_satSo_36 : decode cX5_satSo 36 = .ok (.aload_n 0, 1) := by decide +kernel
theorem dX5_satSo_37 : decode cX5_satSo 37 = .ok (.getfield 60, 3) := by decide +kernel
theorem dX5_satSo_40 : decode cX5_satSo 40 = .ok (.bipush 40, 2) := by decide +kernel
theorem dX5_satSo_42 : decode cX5_satSo 42 = .ok (.iload_n 1, 1) := by decide +kernel
theorem dX5_satSo_43 : decode cX5_satSo 43 = .ok (.imul, 1) := by decide +kernel
theorem dX5_satSo_44 : decode cX5_satSo 44 = .ok (.iload 4, 2) := by decide +kernel
theorem dX5_satSo_46 : decode cX5_satSo 46 = .ok (.iadd, 1) := by decide +kernel
theorem dX5_satSo_47 : decode cX5_satSo 47 = .ok (.iaload, 1) := by decide +kernel
theorem dX5_satSo_48 : decode cX5_satSo 48 = .ok (.if_icmp .ne 7, 3) := by decide +kernel
theorem dX5_satSo_51 : decode cX5_satSo 51 = .ok (.iconst 1, 1) := by decide +kernel
theorem dX5_satSo_52 : decode cX5_satSo 52 = .ok (.goto 4, 3) := by decide +kernel
theorem dX5_satSo_55 : decode cX5_satSo 55 = .ok (.iconst 0, 1) := by decide +kernel
theorem dX5_satSo_56 : decode cX5_satSo 56 = .ok (.istore_n 3, 1) := by decide +kernel
theorem dX5_satSo_57 : decode cX5_satSo 57 = .ok (.aload_n 0, 1) := by decide +kernel
theorem dX5_satSo_58 : decode cX5_satSo 58 = .ok (.invokevirtual 156, 3) := by decide +kernel
theorem dX5_satSo_61 : decode cX5_satSo 61 = .ok (.iinc 4 1, 3) := by decide +kernel
theorem dX5_satSo_64 : decode cX5_satSo 64 = .ok (.goto (-48), 3) := by decide +kernel
theorem dX5_satSo_67 : decode cX5_satSo 67 = .ok (.aload_n 0, 1) := by decide +kernel
theorem dX5_satSo_68 : decode cX5_satSo 68 = .ok (.getfield 16, 3) := by decide +kernel
theorem dX5_satSo_71 : decode cX5_satSo 71 = .ok (.aload_n 0, 1) := by decide +kernel
theorem dX5_satSo_72 : decode cX5_satSo 72 = .ok (.getfield 9, 3) := by decide +kernel
theorem dX5_satSo_75 : decode cX5_satSo 75 = .ok (.invokestatic 67, 3) := by decide +kernel
theorem dX5_satSo_78 : decode cX5_satSo 78 = .ok (.iload_n 3, 1) := by decide +kernel
theorem dX5_satSo_79 : decode cX5_satSo 79 = .ok (.ireturn, 1) := by decide +kernel
theorem dX5_fitting_0 : decode cX5_fitting 0 = .ok (.aload_n 0, 1) := by decide +kernel
theorem dX5_fitting_1 : decode cX5_fitting 1 = .ok (.iload_n 2, 1) := by decide +kernel
theorem dX5_fitting_2 : decode cX5_fitting 2 = .ok (.iload_n 3, 1) := by decide +kernel
theorem dX5_fitting_3 : decode cX5_fitting 3 = .ok (.invokevirtual 98, 3) := by decide +kernel
theorem dX5_fitting_6 : decode cX5_fitting 6 = .ok (.istore 6, 2) := by decide +kernel
theorem dX5_fitting_8 : decode cX5_fitting 8 = .ok (.lconst 0, 1) := by decide +kernel
theorem dX5_fitting_9 : decode cX5_fitting 9 = .ok (.lstore 7, 2) := by decide +kernel
theorem dX5_fitting_11 : decode cX5_fitting 11 = .ok (.iload 4, 2) := by decide +kernel
theorem dX5_fitting_13 : decode cX5_fitting 13 = .ok (.istore 9, 2) := by decide +kernel
theorem dX5_fitting_15 : decode cX5_fitting 15 = .ok (.iload 9, 2) := by decide +kernel
theorem dX5_fitting_17 : decode cX5_fitting 17 = .ok (.iload 5, 2) := by decide +kernel
theorem dX5_fitting_19 : decode cX5_fitting 19 = .ok (.if_icmp .gt 46, 3) := by decide +kernel
theorem dX5_fitting_22 : decode cX5_fitting 22 = .ok (.aload_n 0, 1) := by decide +kernel
theorem dX5_fitting_23 : decode cX5_fitting 23 = .ok (.getfield 9, 3) := by decide +kernel
theorem dX5_fitting_26 : decode cX5_fitting 26 = .ok (.iload_n 2, 1) := by decide +kernel
theorem dX5_fitting_27 : decode cX5_fitting 27 = .ok (.iload_n 3, 1) := by decide +kernel
theorem dX5_fitting_28 : decode cX5_fitting 28 = .ok (.invokestatic 75, 3) := by decide +kernel
theorem dX5_fitting_31 : decode cX5_fitting 31 = .ok (.iload 9, 2) := by decide +kernel
theorem dX5_fitting_33 : decode cX5_fitting 33 = .ok (.iastore, 1) := by decide +kernel
theorem dX5_fitting_34 : decode cX5_fitting 34 = .ok (.lload 7, 2) := by decide +kernel
theorem dX5_fitting_36 : decode cX5_fitting 36 = .ok (.aload_n 0, 1) := by decide +kernel
theorem dX5_fitting_37 : decode cX5_fitting 37 = .ok (.iload_n 1, 1) := by decide +kernel
theorem dX5_fitting_38 : decode cX5_fitting 38 = .ok (.iload_n 2, 1) := by decide +kernel
theorem dX5_fitting_39 : decode cX5_fitting 39 = .ok (.invokevirtual 230, 3) := by decide +kernel
theorem dX5_fitting_42 : decode cX5_fitting 42 = .ok (.ifCond .eq 13, 3) := by decide +kernel
theorem dX5_fitting_45 : decode cX5_fitting 45 = .ok (.lconst 1, 1) := by decide +kernel
theorem dX5_fitting_46 : decode cX5_fitting 46 = .ok (.iload 9, 2) := by decide +kernel
theorem dX5_fitting_48 : decode cX5_fitting 48 = .ok (.iload 4, 2) := by decide +kernel
theorem dX5_fitting_50 : decode cX5_fitting 50 = .ok (.isub, 1) := by decide +kernel
theorem dX5_fitting_51 : decode cX5_fitting 51 = .ok (.lshl, 1) := by decide +kernel
theorem dX5_fitting_52 : decode cX5_fitting 52 = .ok (.goto 4, 3) := by decide +kernel
