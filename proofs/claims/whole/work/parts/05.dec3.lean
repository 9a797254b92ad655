theorem dX10_within_0 : decode cX10_within 0 = .ok (.lload_n 0, 1) := by decide +kernel
theorem dX10_within_1 : decode cX10_within 1 = .ok (.lload_n 2, 1) := by decide +kernel
theorem dX10_within_2 : decode cX10_within 2 = .ok (.lcmp, 1) := by decide +kernel
theorem dX10_within_3 : decode cX10_within 3 = .ok (.ifCond .lt 14, 3) := by decide +kernel
theorem dX10_within_6 : decode cX10_within 6 = .ok (.lload_n 0, 1) := by decide +kernel
theorem dX10_within_7 : decode cX10_within 7 = .ok (.lload 4, 2) := by decide +kernel
theorem dX10_within_9 : decode cX10_within 9 = .ok (.lcmp, 1) := by decide +kernel
theorem dX10_within_10 : decode cX10_within 10 = .ok (.ifCond .gt 7, 3) := by decide +kernel
theorem dX10_within_13 : decode cX10_within 13 = .ok (.iconst 1, 1) := by decide +kernel
theorem dX10_within_14 : decode cX10_within 14 = .ok (.goto 4, 3) := by decide +kernel
theorem dX10_within_17 : decode cX10_within 17 = .ok (.iconst 0, 1) := by decide +kernel
theorem dX10_within_18 : decode cX10_within 18 = .ok (.ireturn, 1) := by decide +kernel
theorem dX10_size_0 : decode cX10_size 0 = .ok (.iload_n 0, 1) := by decide +kernel
theorem dX10_size_1 : decode cX10_size 1 = .ok (.ifCond .ge 8, 3) := by decide +kernel
theorem dX10_size_4 : decode cX10_size 4 = .ok (.iload_n 0, 1) := by decide +kernel
theorem dX10_size_5 : decode cX10_size 5 = .ok (.ineg, 1) := by decide +kernel
theorem dX10_size_6 : decode cX10_size 6 = .ok (.goto 4, 3) := by decide +kernel
theorem dX10_size_9 : decode cX10_size 9 = .ok (.iload_n 0, 1) := by decide +kernel
theorem dX10_size_10 : decode cX10_size 10 = .ok (.ireturn, 1) := by decide +kernel
theorem dX10_init_0 : decode cX10_init 0 = .ok (.aload_n 0, 1) := by decide +kernel
theorem dX10_init_1 : decode cX10_init 1 = .ok (.invokespecial 3, 3) := by decide +kernel
theorem dX10_init_4 : decode cX10_init 4 = .ok (.aload_n 0, 1) := by decide +kernel
theorem dX10_init_5 : decode cX10_init 5 = .ok (.bipush 28, 2) := by decide +kernel
theorem dX10_init_7 : decode cX10_init 7 = .ok (.newarray .int, 2) := by decide +kernel
theorem dX10_init_9 : decode cX10_init 9 = .ok (.putfield 9, 3) := by decide +kernel
theorem dX10_init_12 : decode cX10_init 12 = .ok (.aload_n 0, 1) := by decide +kernel
theorem dX10_init_13 : decode cX10_init 13 = .ok (.bipush 40, 2) := by decide +kernel
theorem dX10_init_15 : decode cX10_init 15 = .ok (.newarray .int, 2) := by decide +kernel
theorem dX10_init_17 : decode cX10_init 17 = .ok (.putfield 13, 3) := by decide +kernel
theorem dX10_init_20 : decode cX10_init 20 = .ok (.aload_n 0, 1) := by decide +kernel
theorem dX10_init_21 : decode cX10_init 21 = .ok (.bipush 40, 2) := by decide +kernel
theorem dX10_init_23 : decode cX10_init 23 = .ok (.newarray .int, 2) := by decide +kernel
theorem dX10_init_25 : decode cX10_init 25 = .ok (.putfield 16, 3) := by decide +kernel
theorem dX10_init_28 : decode cX10_init 28 = .ok (.aload_n 0, 1) := by decide +kernel
theorem dX10_init_29 : decode cX10_init 29 = .ok (.bipush 40, 2) := by decide +kernel
theorem dX10_init_31 : decode cX10_init 31 = .ok (.newarray .int, 2) := by decide +kernel
theorem dX10_init_33 : decode cX10_init 33 = .ok (.putfield 19, 3) := by decide +kernel
theorem dX10_init_36 : decode cX10_init 36 = .ok (.aload_n 0, 1) := by decide +kernel
theorem dX10_init_37 : decode cX10_init 37 = .ok (.bipush 6, 2) := by decide +kernel
theorem dX10_init_39 : decode cX10_init 39 = .ok (.newarray .int, 2) := by decide +kernel
theorem dX10_init_41 : decode cX10_init 41 = .ok (.putfield 22, 3) := by decide +kernel
theorem dX10_init_44 : decode cX10_init 44 = .ok (.aload_n 0, 1) := by decide +kernel
theorem dX10_init_45 : decode cX10_init 45 = .ok (.iconst 5, 1) := by decide +kernel
theorem dX10_init_46 : decode cX10_init 46 = .ok (.newarray .int, 2) := by decide +kernel
theorem dX10_init_48 : decode cX10_init 48 = .ok (.putfield 25, 3) := by decide +kernel
theorem dX10_init_51 : decode cX10_init 51 = .ok (.aload_n 0, 1) := by decide +kernel
theorem dX10_init_52 : decode cX10_init 52 = .ok (.iconst 5, 1) := by decide +kernel
theorem dX10_init_53 : decode cX10_init 53 = .ok (.newarray .int, 2) := by decide +kernel
theorem dX10_init_55 : decode cX10_init 55 = .ok (.putfield 28, 3) := by decide +kernel
theorem dX10_init_58 : decode cX10_init 58 = .ok (.aload_n 0, 1) := by decide +kernel
theorem dX10_init_59 : decode cX10_init 59 = .ok (.iconst 5, 1) := by decide +kernel
theorem dX10_init_60 : decode cX10_init 60 = .ok (.newarray .int, 2) := by decide +kernel
theorem dX10_init_62 : decode cX10_init 62 = .ok (.putfield 31, 3) := by decide +kernel
theorem dX10_init_65 : decode cX10_init 65 = .ok (.aload_n 0, 1) := by decide +kernel
theorem dX10_init_66 : decode cX10_init 66 = .ok (.iconst 5, 1) := by decide +kernel
theorem dX10_init_67 : decode cX10_init 67 = .ok (.newarray .int, 2) := by decide +kernel
theorem dX10_init_69 : decode cX10_init 69 = .ok (.putfield 34, 3) := by decide +kernel
theorem dX10_init_72 : decode cX10_init 72 = .ok (.aload_n 0, 1) := by decide +kernel
theorem dX10_init_73 : decode cX10_init 73 = .ok (.bipush 120, 2) := by decide +kernel
theorem dX10_init_75 : decode cX10_init 75 = .ok (.newarray .int, 2) := by decide +kernel
theorem dX10_init_77 : decode cX10_init 77 = .ok (.putfield 37, 3) := by decide +kernel
theorem dX10_init_80 : decode cX10_init 80 = .ok (.aload_n 0, 1) := by decide +kernel
theorem dX10_init_81 : decode cX10_init 81 = .ok (.sipush 480, 3) := by decide +kernel
theorem dX10_init_84 : decode cX10_init 84 = .ok (.newarray .int, 2) := by decide +kernel
theorem dX10_init_86 : decode cX10_init 86 = .ok (.putfield 40, 3) := by decide +kernel
theorem dX10_init_89 : decode cX10_init 89 = .ok (.aload_n 0, 1) := by decide +kernel
theorem dX10_init_90 : decode cX10_init 90 = .ok (.iconst 4, 1) := by decide +kernel
theorem dX10_init_91 : decode cX10_init 91 = .ok (.newarray .int, 2) := by decide +kernel
theorem dX10_init_93 : decode cX10_init 93 = .ok (.putfield 43, 3) := by decide +kernel
theorem dX10_init_96 : decode cX10_init 96 = .ok (.aload_n 0, 1) := by decide +kernel
theorem dX10_init_97 : decode cX10_init 97 = .ok (.bipush 7, 2) := by decide +kernel
theorem dX10_init_99 : decode cX10_init 99 = .ok (.newarray .int, 2) := by decide +kernel
theorem dX10_init_101 : decode cX10_init 101 = .ok (.putfield 46, 3) := by decide +kernel
theorem dX10_init_104 : decode cX10_init 104 = .ok (.aload_n 0, 1) := by decide +kernel
theorem dX10_init_105 : decode cX10_init 105 = .ok (.bipush 24, 2) := by decide +kernel
theorem dX10_init_107 : decode cX10_init 107 = .ok (.newarray .int, 2) := by decide +kernel
theorem dX10_init_109 : decode cX10_init 109 = .ok (.putfield 49, 3) := by decide +kernel
theorem dX10_init_112 : decode cX10_init 112 = .ok (.aload_n 0, 1) := by decide +kernel
theorem dX10_init_113 : decode cX10_init 113 = .ok (.bipush 6, 2) := by decide +kernel
theorem dX10_init_115 : decode cX10_init 115 = .ok (.newarray .int, 2) := by decide +kernel
theorem dX10_init_117 : decode cX10_init 117 = .ok (.putfield 52, 3) := by decide +kernel
theorem dX10_init_120 : decode cX10_init 120 = .ok (.aload_n 0, 1) := by decide +kernel
theorem dX10_init_121 : decode cX10_init 121 = .ok (.bipush 100, 2) := by decide +kernel
theorem dX10_init_123 : decode cX10_init 123 = .ok (.putfield 55, 3) := by decide +kernel
theorem dX10_init_126 : decode cX10_init 126 = .ok (.aload_n 0, 1) := by decide +kernel
theorem dX10_init_127 : decode cX10_init 127 = .ok (.bipush 6, 2) := by decide +kernel
theorem dX10_init_129 : decode cX10_init 129 = .ok (.newarray .int, 2) := by decide +kernel
theorem dX10_init_131 : decode cX10_init 131 = .ok (.putfield 59, 3) := by decide +kernel
theorem dX10_init_134 : decode cX10_init 134 = .ok (.aload_n 0, 1) := by decide +kernel
theorem dX10_init_135 : decode cX10_init 135 = .ok (.bipush 30, 2) := by decide +kernel
theorem dX10_init_137 : decode cX10_init 137 = .ok (.newarray .int, 2) := by decide +kernel
theorem dX10_init_139 : decode cX10_init 139 = .ok (.putfield 62, 3) := by decide +kernel
theorem dX10_init_142 : decode cX10_init 142 = .ok (.aload_n 0, 1) := by decide +kernel
theorem dX10_init_143 : decode cX10_init 143 = .ok (.bipush 6, 2) := by decide +kernel
theorem dX10_init_145 : decode cX10_init 145 = .ok (.newarray .int, 2) := by decide +kernel
theorem dX10_init_147 : decode cX10_init 147 = .ok (.putfield 65, 3) := by decide +kernel
theorem dX10_init_150 : decode cX10_init 150 = .ok (.aload_n 0, 1) := by decide +kernel
theorem dX10_init_151 : decode cX10_init 151 = .ok (.bipush 6, 2) := by decide +kernel
theorem dX10_init_153 : decode cX10_init 153 = .ok (.newarray .int, 2) := by decide +kernel
theorem dX10_init_155 : decode cX10_init 155 = .ok (.putfield 68, 3) := by decide +kernel
theorem dX10_init_158 : decode cX10_init 158 = .ok (.aload_n 0, 1) := by decide +kernel
theorem dX10_init_159 : decode cX10_init 159 = .ok (.bipush 6, 2) := by decide +kernel
theorem dX10_init_161 : decode cX10_init 161 = .ok (.newarray .int, 2) := by decide +kernel
theorem dX10_init_163 : decode cX10_init 163 = .ok (.putfield 71, 3) := by decide +kernel
theorem dX10_init_166 : decode cX10_init 166 = .ok (.aload_n 0, 1) := by decide +kernel
theorem dX10_init_167 : decode cX10_init 167 = .ok (.sipush 1783, 3) := by decide +kernel
theorem dX10_init_170 : decode cX10_init 170 = .ok (.newarray .int, 2) := by decide +kernel
theorem dX10_init_172 : decode cX10_init 172 = .ok (.putfield 74, 3) := by decide +kernel
theorem dX10_init_175 : decode cX10_init 175 = .ok (.aload_n 0, 1) := by decide +kernel
theorem dX10_init_176 : decode cX10_init 176 = .ok (.bipush 50, 2) := by decide +kernel
theorem dX10_init_178 : decode cX10_init 178 = .ok (.newarray .int, 2) := by decide +kernel
theorem dX10_init_180 : decode cX10_init 180 = .ok (.putfield 77, 3) := by decide +kernel
theorem dX10_init_183 : decode cX10_init 183 = .ok (.aload_n 0, 1) := by decide +kernel
theorem dX10_init_184 : decode cX10_init 184 = .ok (.bipush 24, 2) := by decide +kernel
theorem dX10_init_186 : decode cX10_init 186 = .ok (.newarray .int, 2) := by decide +kernel
theorem dX10_init_188 : decode cX10_init 188 = .ok (.putfield 80, 3) := by decide +kernel
theorem dX10_init_191 : decode cX10_init 191 = .ok (.aload_n 0, 1) := by decide +kernel
theorem dX10_init_192 : decode cX10_init 192 = .ok (.bipush 6, 2) := by decide +kernel
theorem dX10_init_194 : decode cX10_init 194 = .ok (.newarray .int, 2) := by decide +kernel
theorem dX10_init_196 : decode cX10_init 196 = .ok (.putfield 83, 3) := by decide +kernel
theorem dX10_init_199 : decode cX10_init 199 = .ok (.aload_n 0, 1) := by decide +kernel
theorem dX10_init_200 : decode cX10_init 200 = .ok (.bipush 6, 2) := by decide +kernel
theorem dX10_init_202 : decode cX10_init 202 = .ok (.newarray .int, 2) := by decide +kernel
theorem dX10_init_204 : decode cX10_init 204 = .ok (.putfield 86, 3) := by decide +kernel
theorem dX10_init_207 : decode cX10_init 207 = .ok (.aload_n 0, 1) := by decide +kernel
theorem dX10_init_208 : decode cX10_init 208 = .ok (.sipush 360, 3) := by decide +kernel
theorem dX10_init_211 : decode cX10_init 211 = .ok (.newarray .long, 2) := by decide +kernel
theorem dX10_init_213 : decode cX10_init 213 = .ok (.putfield 89, 3) := by decide +kernel
theorem dX10_init_216 : decode cX10_init 216 = .ok (.aload_n 0, 1) := by decide +kernel
theorem dX10_init_217 : decode cX10_init 217 = .ok (.bipush 60, 2) := by decide +kernel
theorem dX10_init_219 : decode cX10_init 219 = .ok (.newarray .long, 2) := by decide +kernel
theorem dX10_init_221 : decode cX10_init 221 = .ok (.putfield 93, 3) := by decide +kernel
theorem dX10_init_224 : decode cX10_init 224 = .ok (.iconst 0, 1) := by decide +kernel
theorem dX10_init_225 : decode cX10_init 225 = .ok (.istore_n 1, 1) := by decide +kernel
theorem dX10_init_226 : decode cX10_init 226 = .ok (.iload_n 1, 1) := by decide +kernel
theorem dX10_init_227 : decode cX10_init 227 = .ok (.bipush 6, 2) := by decide +kernel
theorem dX10_init_229 : decode cX10_init 229 = .ok (.if_icmp .ge 16, 3) := by decide +kernel
theorem dX10_init_232 : decode cX10_init 232 = .ok (.aload_n 0, 1) := by decide +kernel
theorem dX10_init_233 : decode cX10_init 233 = .ok (.getfield 83, 3) := by decide +kernel
theorem dX10_init_236 : decode cX10_init 236 = .ok (.iload_n 1, 1) := by decide +kernel
theorem dX10_init_237 : decode cX10_init 237 = .ok (.iconst (-1), 1) := by decide +kernel
theorem dX10_init_238 : decode cX10_init 238 = .ok (.iastore, 1) := by decide +kernel
theorem dX10_init_239 : decode cX10_init 239 = .ok (.iinc 1 1, 3) := by decide +kernel
theorem dX10_init_242 : decode cX10_init 242 = .ok (.goto (-16), 3) := by decide +kernel
theorem dX10_init_245 : decode cX10_init 245 = .ok (.return_, 1) := by decide +kernel
theorem dX10_becomes_0 : decode cX10_becomes 0 = .ok (.aload_n 0, 1) := by decide +kernel
theorem dX10_becomes_1 : decode cX10_becomes 1 = .ok (.getfield 9, 3) := by decide +kernel
theorem dX10_becomes_4 : decode cX10_becomes 4 = .ok (.iload_n 1, 1) := by decide +kernel
theorem dX10_becomes_5 : decode cX10_becomes 5 = .ok (.iaload, 1) := by decide +kernel
theorem dX10_becomes_6 : decode cX10_becomes 6 = .ok (.istore_n 3, 1) := by decide +kernel
theorem dX10_becomes_7 : decode cX10_becomes 7 = .ok (.iload_n 3, 1) := by decide +kernel
theorem dX10_becomes_8 : decode cX10_becomes 8 = .ok (.iload_n 2, 1) := by decide +kernel
theorem dX10_becomes_9 : decode cX10_becomes 9 = .ok (.if_icmp .ne 5, 3) := by decide +kernel
theorem dX10_becomes_12 : decode cX10_becomes 12 = .ok (.iload_n 3, 1) := by decide +kernel
theorem dX10_becomes_13 : decode cX10_becomes 13 = .ok (.ireturn, 1) := by decide +kernel
theorem dX10_becomes_14 : decode cX10_becomes 14 = .ok (.aload_n 0, 1) := by decide +kernel
theorem dX10_becomes_15 : decode cX10_becomes 15 = .ok (.getfield 96, 3) := by decide +kernel
theorem dX10_becomes_18 : decode cX10_becomes 18 = .ok (.bipush 40, 2) := by decide +kernel
theorem dX10_becomes_20 : decode cX10_becomes 20 = .ok (.if_icmp .ne 77, 3) := by decide +kernel
theorem dX10_becomes_23 : decode cX10_becomes 23 = .ok (.iconst 1, 1) := by decide +kernel
theorem dX10_becomes_24 : decode cX10_becomes 24 = .ok (.istore 4, 2) := by decide +kernel
theorem dX10_becomes_26 : decode cX10_becomes 26 = .ok (.iload 4, 2) := by decide +kernel
theorem dX10_becomes_28 : decode cX10_becomes 28 = .ok (.bipush 40, 2) := by decide +kernel
theorem dX10_becomes_30 : decode cX10_becomes 30 = .ok (.if_icmp .ge 57, 3) := by decide +kernel
theorem dX10_becomes_33 : decode cX10_becomes 33 = .ok (.aload_n 0, 1) := by decide +kernel
theorem dX10_becomes_34 : decode cX10_becomes 34 = .ok (.getfield 13, 3) := by decide +kernel
theorem dX10_becomes_37 : decode cX10_becomes 37 = .ok (.iload 4, 2) := by decide +kernel
theorem dX10_becomes_39 : decode cX10_becomes 39 = .ok (.iconst 1, 1) := by decide +kernel
theorem dX10_becomes_40 : decode cX10_becomes 40 = .ok (.isub, 1) := by decide +kernel
theorem dX10_becomes_41 : decode cX10_becomes 41 = .ok (.aload_n 0, 1) := by decide +kernel
theorem dX10_becomes_42 : decode cX10_becomes 42 = .ok (.getfield 13, 3) := by decide +kernel
theorem dX10_becomes_45 : decode cX10_becomes 45 = .ok (.iload 4, 2) := by decide +kernel
theorem dX10_becomes_47 : decode cX10_becomes 47 = .ok (.iaload, 1) := by decide +kernel
theorem dX10_becomes_48 : decode cX10_becomes 48 = .ok (.iastore, 1) := by decide +kernel
theorem dX10_becomes_49 : decode cX10_becomes 49 = .ok (.aload_n 0, 1) := by decide +kernel
theorem dX10_becomes_50 : decode cX10_becomes 50 = .ok (.getfield 16, 3) := by decide +kernel
theorem dX10_becomes_53 : decode cX10_becomes 53 = .ok (.iload 4, 2) := by decide +kernel
theorem dX10_becomes_55 : decode cX10_becomes 55 = .ok (.iconst 1, 1) := by decide +kernel
theorem dX10_becomes_56 : decode cX10_becomes 56 = .ok (.isub, 1) := by decide +kernel
theorem dX10_becomes_57 : decode cX10_becomes 57 = .ok (.aload_n 0, 1) := by decide +kernel
theorem dX10_becomes_58 : decode cX10_becomes 58 = .ok (.getfield 16, 3) := by decide +kernel
theorem dX10_becomes_61 : decode cX10_becomes 61 = .ok (.iload 4, 2) := by decide +kernel
theorem dX10_becomes_63 : decode cX10_becomes 63 = .ok (.iaload, 1) := by decide +kernel
theorem dX10_becomes_64 : decode cX10_becomes 64 = .ok (.iastore, 1) := by decide +kernel
theorem dX10_becomes_65 : decode cX10_becomes 65 = .ok (.aload_n 0, 1) := by decide +kernel
theorem dX10_becomes_66 : decode cX10_becomes 66 = .ok (.getfield 19, 3) := by decide +kernel
theorem dX10_becomes_69 : decode cX10_becomes 69 = .ok (.iload 4, 2) := by decide +kernel
theorem dX10_becomes_71 : decode cX10_becomes 71 = .ok (.iconst 1, 1) := by decide +kernel
theorem dX10_becomes_72 : decode cX10_becomes 72 = .ok (.isub, 1) := by decide +kernel
theorem dX10_becomes_73 : decode cX10_becomes 73 = .ok (.aload_n 0, 1) := by decide +kernel
theorem dX10_becomes_74 : decode cX10_becomes 74 = .ok (.getfield 19, 3) := by decide +kernel
theorem dX10_becomes_77 : decode cX10_becomes 77 = .ok (.iload 4, 2) := by decide +kernel
theorem dX10_becomes_79 : decode cX10_becomes 79 = .ok (.iaload, 1) := by decide +kernel
theorem dX10_becomes_80 : decode cX10_becomes 80 = .ok (.iastore, 1) := by decide +kernel
theorem dX10_becomes_81 : decode cX10_becomes 81 = .ok (.iinc 4 1, 3) := by decide +kernel
theorem dX10_becomes_84 : decode cX10_becomes 84 = .ok (.goto (-58), 3) := by decide +kernel
theorem dX10_becomes_87 : decode cX10_becomes 87 = .ok (.aload_n 0, 1) := by decide +kernel
theorem dX10_becomes_88 : decode cX10_becomes 88 = .ok (.dup, 1) := by decide +kernel
theorem dX10_becomes_89 : decode cX10_becomes 89 = .ok (.getfield 96, 3) := by decide +kernel
theorem dX10_becomes_92 : decode cX10_becomes 92 = .ok (.iconst 1, 1) := by decide +kernel
theorem dX10_becomes_93 : decode cX10_becomes 93 = .ok (.isub, 1) := by decide +kernel
theorem dX10_becomes_94 : decode cX10_becomes 94 = .ok (.putfield 96, 3) := by decide +kernel
theorem dX10_becomes_97 : decode cX10_becomes 97 = .ok (.aload_n 0, 1) := by decide +kernel
theorem dX10_becomes_98 : decode cX10_becomes 98 = .ok (.getfield 13, 3) := by decide +kernel
theorem dX10_becomes_101 : decode cX10_becomes 101 = .ok (.aload_n 0, 1) := by decide +kernel
theorem dX10_becomes_102 : decode cX10_becomes 102 = .ok (.getfield 96, 3) := by decide +kernel
theorem dX10_becomes_105 : decode cX10_becomes 105 = .ok (.iload_n 1, 1) := by decide +kernel
theorem dX10_becomes_106 : decode cX10_becomes 106 = .ok (.iastore, 1) := by decide +kernel
theorem dX10_becomes_107 : decode cX10_becomes 107 = .ok (.aload_n 0, 1) := by decide +kernel
theorem dX10_becomes_108 : decode cX10_becomes 108 = .ok (.getfield 16, 3) := by decide +kernel
theorem dX10_becomes_111 : decode cX10_becomes 111 = .ok (.aload_n 0, 1) := by decide +kernel
theorem dX10_becomes_112 : decode cX10_becomes 112 = .ok (.getfield 96, 3) := by decide +kernel
theorem dX10_becomes_115 : decode cX10_becomes 115 = .ok (.iload_n 3, 1) := by decide +kernel
theorem dX10_becomes_116 : decode cX10_becomes 116 = .ok (.iastore, 1) := by decide +kernel
theorem dX10_becomes_117 : decode cX10_becomes 117 = .ok (.aload_n 0, 1) := by decide +kernel
theorem dX10_becomes_118 : decode cX10_becomes 118 = .ok (.getfield 19, 3) := by decide +kernel
theorem dX10_becomes_121 : decode cX10_becomes 121 = .ok (.aload_n 0, 1) := by decide +kernel
theorem dX10_becomes_122 : decode cX10_becomes 122 = .ok (.getfield 96, 3) := by decide +kernel
theorem dX10_becomes_125 : decode cX10_becomes 125 = .ok (.iload_n 2, 1) := by decide +kernel
theorem dX10_becomes_126 : decode cX10_becomes 126 = .ok (.iastore, 1) := by decide +kernel
theorem dX10_becomes_127 : decode cX10_becomes 127 = .ok (.aload_n 0, 1) := by decide +kernel
theorem dX10_becomes_128 : decode cX10_becomes 128 = .ok (.dup, 1) := by decide +kernel
theorem dX10_becomes_129 : decode cX10_becomes 129 = .ok (.getfield 96, 3) := by decide +kernel
theorem dX10_becomes_132 : decode cX10_becomes 132 = .ok (.iconst 1, 1) := by decide +kernel
theorem dX10_becomes_133 : decode cX10_becomes 133 = .ok (.iadd, 1) := by decide +kernel
theorem dX10_becomes_134 : decode cX10_becomes 134 = .ok (.putfield 96, 3) := by decide +kernel
theorem dX10_becomes_137 : decode cX10_becomes 137 = .ok (.aload_n 0, 1) := by decide +kernel
theorem dX10_becomes_138 : decode cX10_becomes 138 = .ok (.aload_n 0, 1) := by decide +kernel
theorem dX10_becomes_139 : decode cX10_becomes 139 = .ok (.getfield 96, 3) := by decide +kernel
theorem dX10_becomes_142 : decode cX10_becomes 142 = .ok (.putfield 99, 3) := by decide +kernel
theorem dX10_becomes_145 : decode cX10_becomes 145 = .ok (.aload_n 0, 1) := by decide +kernel
theorem dX10_becomes_146 : decode cX10_becomes 146 = .ok (.getfield 9, 3) := by decide +kernel
theorem dX10_becomes_149 : decode cX10_becomes 149 = .ok (.iload_n 1, 1) := by decide +kernel
theorem dX10_becomes_150 : decode cX10_becomes 150 = .ok (.iload_n 2, 1) := by decide +kernel
theorem dX10_becomes_151 : decode cX10_becomes 151 = .ok (.iastore, 1) := by decide +kernel
theorem dX10_becomes_152 : decode cX10_becomes 152 = .ok (.iload_n 3, 1) := by decide +kernel
theorem dX10_becomes_153 : decode cX10_becomes 153 = .ok (.ireturn, 1) := by decide +kernel
theorem dX10_undo_0 : decode cX10_undo 0 = .ok (.aload_n 0, 1) := by decide +kernel
theorem dX10_undo_1 : decode cX10_undo 1 = .ok (.getfield 96, 3) := by decide +kernel
theorem dX10_undo_4 : decode cX10_undo 4 = .ok (.ifCond .ne 6, 3) := by decide +kernel
theorem dX10_undo_7 : decode cX10_undo 7 = .ok (.bipush (-5), 2) := by decide +kernel
theorem dX10_undo_9 : decode cX10_undo 9 = .ok (.ireturn, 1) := by decide +kernel
theorem dX10_undo_10 : decode cX10_undo 10 = .ok (.aload_n 0, 1) := by decide +kernel
theorem dX10_undo_11 : decode cX10_undo 11 = .ok (.dup, 1) := by decide +kernel
theorem dX10_undo_12 : decode cX10_undo 12 = .ok (.getfield 96, 3) := by decide +kernel
theorem dX10_undo_15 : decode cX10_undo 15 = .ok (.iconst 1, 1) := by decide +kernel
theorem dX10_undo_16 : decode cX10_undo 16 = .ok (.isub, 1) := by decide +kernel
theorem dX10_undo_17 : decode cX10_undo 17 = .ok (.putfield 96, 3) := by decide +kernel
theorem dX10_undo_20 : decode cX10_undo 20 = .ok (.aload_n 0, 1) := by decide +kernel
theorem dX10_undo_21 : decode cX10_undo 21 = .ok (.getfield 9, 3) := by decide +kernel
theorem dX10_undo_24 : decode cX10_undo 24 = .ok (.aload_n 0, 1) := by decide +kernel
theorem dX10_undo_25 : decode cX10_undo 25 = .ok (.getfield 13, 3) := by decide +kernel
theorem dX10_undo_28 : decode cX10_undo 28 = .ok (.aload_n 0, 1) := by decide +kernel
theorem dX10_undo_29 : decode cX10_undo 29 = .ok (.getfield 96, 3) := by decide +kernel
theorem dX10_undo_32 : decode cX10_undo 32 = .ok (.iaload, 1) := by decide +kernel
theorem dX10_undo_33 : decode cX10_undo 33 = .ok (.aload_n 0, 1) := by decide +kernel
theorem dX10_undo_34 : decode cX10_undo 34 = .ok (.getfield 16, 3) := by decide +kernel
theorem dX10_undo_37 : decode cX10_undo 37 = .ok (.aload_n 0, 1) := by decide +kernel
theorem dX10_undo_38 : decode cX10_undo 38 = .ok (.getfield 96, 3) := by decide +kernel
theorem dX10_undo_41 : decode cX10_undo 41 = .ok (.iaload, 1) := by decide +kernel
theorem dX10_undo_42 : decode cX10_undo 42 = .ok (.iastore, 1) := by decide +kernel
theorem dX10_undo_43 : decode cX10_undo 43 = .ok (.aload_n 0, 1) := by decide +kernel
theorem dX10_undo_44 : decode cX10_undo 44 = .ok (.getfield 96, 3) := by decide +kernel
theorem dX10_undo_47 : decode cX10_undo 47 = .ok (.ireturn, 1) := by decide +kernel
theorem dX10_redo_0 : decode cX10_redo 0 = .ok (.aload_n 0, 1) := by decide +kernel
theorem dX10_redo_1 : decode cX10_redo 1 = .ok (.getfield 96, 3) := by decide +kernel
theorem dX10_redo_4 : decode cX10_redo 4 = .ok (.aload_n 0, 1) := by decide +kernel
theorem dX10_redo_5 : decode cX10_redo 5 = .ok (.getfield 99, 3) := by decide +kernel
theorem dX10_redo_8 : decode cX10_redo 8 = .ok (.if_icmp .ne 6, 3) := by decide +kernel
theorem dX10_redo_11 : decode cX10_redo 11 = .ok (.bipush (-5), 2) := by decide +kernel
theorem dX10_redo_13 : decode cX10_redo 13 = .ok (.ireturn, 1) := by decide +kernel
theorem dX10_redo_14 : decode cX10_redo 14 = .ok (.aload_n 0, 1) := by decide +kernel
theorem dX10_redo_15 : decode cX10_redo 15 = .ok (.getfield 9, 3) := by decide +kernel
theorem dX10_redo_18 : decode cX10_redo 18 = .ok (.aload_n 0, 1) := by decide +kernel
theorem dX10_redo_19 : decode cX10_redo 19 = .ok (.getfield 13, 3) := by decide +kernel
theorem dX10_redo_22 : decode cX10_redo 22 = .ok (.aload_n 0, 1) := by decide +kernel
theorem dX10_redo_23 : decode cX10_redo 23 = .ok (.getfield 96, 3) := by decide +kernel
theorem dX10_redo_26 : decode cX10_redo 26 = .ok (.iaload, 1) := by decide +kernel
theorem dX10_redo_27 : decode cX10_redo 27 = .ok (.aload_n 0, 1) := by decide +kernel
theorem dX10_redo_28 : decode cX10_redo 28 = .ok (.getfield 19, 3) := by decide +kernel
theorem dX10_redo_31 : decode cX10_redo 31 = .ok (.aload_n 0, 1) := by decide +kernel
theorem dX10_redo_32 : decode cX10_redo 32 = .ok (.getfield 96, 3) := by decide +kernel
theorem dX10_redo_35 : decode cX10_redo 35 = .ok (.iaload, 1) := by decide +kernel
theorem dX10_redo_36 : decode cX10_redo 36 = .ok (.iastore, 1) := by decide +kernel
theorem dX10_redo_37 : decode cX10_redo 37 = .ok (.aload_n 0, 1) := by decide +kernel
theorem dX10_redo_38 : decode cX10_redo 38 = .ok (.dup, 1) := by decide +kernel
theorem dX10_redo_39 : decode cX10_redo 39 = .ok (.getfield 96, 3) := by decide +kernel
theorem dX10_redo_42 : decode cX10_redo 42 = .ok (.iconst 1, 1) := by decide +kernel
theorem dX10_redo_43 : decode cX10_redo 43 = .ok (.iadd, 1) := by decide +kernel
theorem dX10_redo_44 : decode cX10_redo 44 = .ok (.putfield 96, 3) := by decide +kernel
theorem dX10_redo_47 : decode cX10_redo 47 = .ok (.aload_n 0, 1) := by decide +kernel
theorem dX10_redo_48 : decode cX10_redo 48 = .ok (.getfield 99, 3) := by decide +kernel
theorem dX10_redo_51 : decode cX10_redo 51 = .ok (.aload_n 0, 1) := by decide +kernel
theorem dX10_redo_52 : decode cX10_redo 52 = .ok (.getfield 96, 3) := by decide +kernel
theorem dX10_redo_55 : decode cX10_redo 55 = .ok (.isub, 1) := by decide +kernel
theorem dX10_redo_56 : decode cX10_redo 56 = .ok (.ireturn, 1) := by decide +kernel
theorem dX10_isThing_0 : decode cX10_isThing 0 = .ok (.iload_n 1, 1) := by decide +kernel
theorem dX10_isThing_1 : decode cX10_isThing 1 = .ok (.i2l, 1) := by decide +kernel
theorem dX10_isThing_2 : decode cX10_isThing 2 = .ok (.lconst 0, 1) := by decide +kernel
theorem dX10_isThing_3 : decode cX10_isThing 3 = .ok (.aload_n 0, 1) := by decide +kernel
theorem dX10_isThing_4 : decode cX10_isThing 4 = .ok (.getfield 102, 3) := by decide +kernel
theorem dX10_isThing_7 : decode cX10_isThing 7 = .ok (.iconst 1, 1) := by decide +kernel
theorem dX10_isThing_8 : decode cX10_isThing 8 = .ok (.isub, 1) := by decide +kernel
theorem dX10_isThing_9 : decode cX10_isThing 9 = .ok (.i2l, 1) := by decide +kernel
theorem dX10_isThing_10 : decode cX10_isThing 10 = .ok (.invokestatic 105, 3) := by decide +kernel
theorem dX10_isThing_13 : decode cX10_isThing 13 = .ok (.ireturn, 1) := by decide +kernel
theorem dX10_isSort_0 : decode cX10_isSort 0 = .ok (.iload_n 1, 1) := by decide +kernel
theorem dX10_isSort_1 : decode cX10_isSort 1 = .ok (.i2l, 1) := by decide +kernel
theorem dX10_isSort_2 : decode cX10_isSort 2 = .ok (.lconst 0, 1) := by decide +kernel
theorem dX10_isSort_3 : decode cX10_isSort 3 = .ok (.aload_n 0, 1) := by decide +kernel
theorem dX10_isSort_4 : decode cX10_isSort 4 = .ok (.getfield 109, 3) := by decide +kernel
theorem dX10_isSort_7 : decode cX10_isSort 7 = .ok (.iconst 1, 1) := by decide +kernel
theorem dX10_isSort_8 : decode cX10_isSort 8 = .ok (.isub, 1) := by decide +kernel
theorem dX10_isSort_9 : decode cX10_isSort 9 = .ok (.i2l, 1) := by decide +kernel
theorem dX10_isSort_10 : decode cX10_isSort 10 = .ok (.invokestatic 105, 3) := by decide +kernel
theorem dX10_isSort_13 : decode cX10_isSort 13 = .ok (.ireturn, 1) := by decide +kernel
theorem dX10_isTwo_0 : decode cX10_isTwo 0 = .ok (.lload_n 0, 1) := by decide +kernel
theorem dX10_isTwo_1 : decode cX10_isTwo 1 = .ok (.lconst 0, 1) := by decide +kernel
theorem dX10_isTwo_2 : decode cX10_isTwo 2 = .ok (.ldc2_w 112, 3) := by decide +kernel
theorem dX10_isTwo_5 : decode cX10_isTwo 5 = .ok (.invokestatic 105, 3) := by decide +kernel
theorem dX10_isTwo_8 : decode cX10_isTwo 8 = .ok (.ireturn, 1) := by decide +kernel
theorem dX10_adds_0 : decode cX10_adds 0 = .ok (.aload_n 0, 1) := by decide +kernel
theorem dX10_adds_1 : decode cX10_adds 1 = .ok (.getfield 9, 3) := by decide +kernel
theorem dX10_adds_4 : decode cX10_adds 4 = .ok (.aload_n 0, 1) := by decide +kernel
theorem dX10_adds_5 : decode cX10_adds 5 = .ok (.getfield 102, 3) := by decide +kernel
theorem dX10_adds_8 : decode cX10_adds 8 = .ok (.iload_n 1, 1) := by decide +kernel
theorem dX10_adds_9 : decode cX10_adds 9 = .ok (.iastore, 1) := by decide +kernel
theorem dX10_adds_10 : decode cX10_adds 10 = .ok (.aload_n 0, 1) := by decide +kernel
theorem dX10_adds_11 : decode cX10_adds 11 = .ok (.getfield 9, 3) := by decide +kernel
theorem dX10_adds_14 : decode cX10_adds 14 = .ok (.bipush 6, 2) := by decide +kernel
theorem dX10_adds_16 : decode cX10_adds 16 = .ok (.aload_n 0, 1) := by decide +kernel
theorem dX10_adds_17 : decode cX10_adds 17 = .ok (.getfield 102, 3) := by decide +kernel
theorem dX10_adds_20 : decode cX10_adds 20 = .ok (.iadd, 1) := by decide +kernel
theorem dX10_adds_21 : decode cX10_adds 21 = .ok (.iload_n 2, 1) := by decide +kernel
theorem dX10_adds_22 : decode cX10_adds 22 = .ok (.iastore, 1) := by decide +kernel
theorem dX10_adds_23 : decode cX10_adds 23 = .ok (.aload_n 0, 1) := by decide +kernel
theorem dX10_adds_24 : decode cX10_adds 24 = .ok (.getfield 9, 3) := by decide +kernel
theorem dX10_adds_27 : decode cX10_adds 27 = .ok (.bipush 12, 2) := by decide +kernel
theorem dX10_adds_29 : decode cX10_adds 29 = .ok (.aload_n 0, 1) := by decide +kernel
theorem dX10_adds_30 : decode cX10_adds 30 = .ok (.getfield 102, 3) := by decide +kernel
theorem dX10_adds_33 : decode cX10_adds 33 = .ok (.iadd, 1) := by decide +kernel
theorem dX10_adds_34 : decode cX10_adds 34 = .ok (.iload_n 3, 1) := by decide +kernel
theorem dX10_adds_35 : decode cX10_adds 35 = .ok (.iastore, 1) := by decide +kernel
theorem dX10_adds_36 : decode cX10_adds 36 = .ok (.aload_n 0, 1) := by decide +kernel
theorem dX10_adds_37 : decode cX10_adds 37 = .ok (.getfield 22, 3) := by decide +kernel
theorem dX10_adds_40 : decode cX10_adds 40 = .ok (.aload_n 0, 1) := by decide +kernel
theorem dX10_adds_41 : decode cX10_adds 41 = .ok (.getfield 102, 3) := by decide +kernel
theorem dX10_adds_44 : decode cX10_adds 44 = .ok (.iload 4, 2) := by decide +kernel
theorem dX10_adds_46 : decode cX10_adds 46 = .ok (.iastore, 1) := by decide +kernel
theorem dX10_adds_47 : decode cX10_adds 47 = .ok (.aload_n 0, 1) := by decide +kernel
theorem dX10_adds_48 : decode cX10_adds 48 = .ok (.dup, 1) := by decide +kernel
theorem dX10_adds_49 : decode cX10_adds 49 = .ok (.getfield 102, 3) := by decide +kernel
theorem dX10_adds_52 : decode cX10_adds 52 = .ok (.iconst 1, 1) := by decide +kernel
theorem dX10_adds_53 : decode cX10_adds 53 = .ok (.iadd, 1) := by decide +kernel
theorem dX10_adds_54 : decode cX10_adds 54 = .ok (.putfield 102, 3) := by decide +kernel
theorem dX10_adds_57 : decode cX10_adds 57 = .ok (.return_, 1) := by decide +kernel
theorem dX10_thing_0 : decode cX10_thing 0 = .ok (.iload_n 1, 1) := by decide +kernel
theorem dX10_thing_1 : decode cX10_thing 1 = .ok (.i2l, 1) := by decide +kernel
theorem dX10_thing_2 : decode cX10_thing 2 = .ok (.lconst 0, 1) := by decide +kernel
theorem dX10_thing_3 : decode cX10_thing 3 = .ok (.ldc2_w 114, 3) := by decide +kernel
theorem dX10_thing_6 : decode cX10_thing 6 = .ok (.invokestatic 105, 3) := by decide +kernel
theorem dX10_thing_9 : decode cX10_thing 9 = .ok (.ifCond .eq 23, 3) := by decide +kernel
theorem dX10_thing_12 : decode cX10_thing 12 = .ok (.iload_n 2, 1) := by decide +kernel
theorem dX10_thing_13 : decode cX10_thing 13 = .ok (.i2l, 1) := by decide +kernel
theorem dX10_thing_14 : decode cX10_thing 14 = .ok (.lconst 0, 1) := by decide +kernel
theorem dX10_thing_15 : decode cX10_thing 15 = .ok (.ldc2_w 116, 3) := by decide +kernel
theorem dX10_thing_18 : decode cX10_thing 18 = .ok (.invokestatic 105, 3) := by decide +kernel
theorem dX10_thing_21 : decode cX10_thing 21 = .ok (.ifCond .eq 11, 3) := by decide +kernel
theorem dX10_thing_24 : decode cX10_thing 24 = .ok (.iload_n 3, 1) := by decide +kernel
theorem dX10_thing_25 : decode cX10_thing 25 = .ok (.i2l, 1) := by decide +kernel
theorem dX10_thing_26 : decode cX10_thing 26 = .ok (.invokestatic 118, 3) := by decide +kernel
theorem dX10_thing_29 : decode cX10_thing 29 = .ok (.ifCond .ne 5, 3) := by decide +kernel
theorem dX10_thing_32 : decode cX10_thing 32 = .ok (.iconst (-1), 1) := by decide +kernel
theorem dX10_thing_33 : decode cX10_thing 33 = .ok (.ireturn, 1) := by decide +kernel
theorem dX10_thing_34 : decode cX10_thing 34 = .ok (.aload_n 0, 1) := by decide +kernel
theorem dX10_thing_35 : decode cX10_thing 35 = .ok (.getfield 102, 3) := by decide +kernel
theorem dX10_thing_38 : decode cX10_thing 38 = .ok (.bipush 6, 2) := by decide +kernel
theorem dX10_thing_40 : decode cX10_thing 40 = .ok (.if_icmp .ne 6, 3) := by decide +kernel
theorem dX10_thing_43 : decode cX10_thing 43 = .ok (.bipush (-3), 2) := by decide +kernel
theorem dX10_thing_45 : decode cX10_thing 45 = .ok (.ireturn, 1) := by decide +kernel
theorem dX10_thing_46 : decode cX10_thing 46 = .ok (.aload_n 0, 1) := by decide +kernel
theorem dX10_thing_47 : decode cX10_thing 47 = .ok (.iload_n 1, 1) := by decide +kernel
theorem dX10_thing_48 : decode cX10_thing 48 = .ok (.iload_n 2, 1) := by decide +kernel
theorem dX10_thing_49 : decode cX10_thing 49 = .ok (.bipush 100, 2) := by decide +kernel
theorem dX10_thing_51 : decode cX10_thing 51 = .ok (.idiv, 1) := by decide +kernel
theorem dX10_thing_52 : decode cX10_thing 52 = .ok (.iload_n 2, 1) := by decide +kernel
theorem dX10_thing_53 : decode cX10_thing 53 = .ok (.bipush 100, 2) := by decide +kernel
theorem dX10_thing_55 : decode cX10_thing 55 = .ok (.irem, 1) := by decide +kernel
theorem dX10_thing_56 : decode cX10_thing 56 = .ok (.iload_n 3, 1) := by decide +kernel
theorem dX10_thing_57 : decode cX10_thing 57 = .ok (.invokevirtual 122, 3) := by decide +kernel
theorem dX10_thing_60 : decode cX10_thing 60 = .ok (.aload_n 0, 1) := by decide +kernel
theorem dX10_thing_61 : decode cX10_thing 61 = .ok (.getfield 102, 3) := by decide +kernel
theorem dX10_thing_64 : decode cX10_thing 64 = .ok (.iconst 1, 1) := by decide +kernel
theorem dX10_thing_65 : decode cX10_thing 65 = .ok (.isub, 1) := by decide +kernel
theorem dX10_thing_66 : decode cX10_thing 66 = .ok (.ireturn, 1) := by decide +kernel
theorem dX10_things_0 : decode cX10_things 0 = .ok (.iload_n 1, 1) := by decide +kernel
theorem dX10_things_1 : decode cX10_things 1 = .ok (.invokestatic 126, 3) := by decide +kernel
theorem dX10_things_4 : decode cX10_things 4 = .ok (.ifCond .eq 15, 3) := by decide +kernel
theorem dX10_things_7 : decode cX10_things 7 = .ok (.iload_n 3, 1) := by decide +kernel
theorem dX10_things_8 : decode cX10_things 8 = .ok (.i2l, 1) := by decide +kernel
theorem dX10_things_9 : decode cX10_things 9 = .ok (.lconst 1, 1) := by decide +kernel
theorem dX10_things_10 : decode cX10_things 10 = .ok (.ldc2_w 130, 3) := by decide +kernel
theorem dX10_things_13 : decode cX10_things 13 = .ok (.invokestatic 105, 3) := by decide +kernel
theorem dX10_things_16 : decode cX10_things 16 = .ok (.ifCond .ne 5, 3) := by decide +kernel
theorem dX10_things_19 : decode cX10_things 19 = .ok (.iconst (-1), 1) := by decide +kernel
theorem dX10_things_20 : decode cX10_things 20 = .ok (.ireturn, 1) := by decide +kernel
theorem dX10_things_21 : decode cX10_things 21 = .ok (.aload_n 0, 1) := by decide +kernel
theorem dX10_things_22 : decode cX10_things 22 = .ok (.getfield 83, 3) := by decide +kernel
theorem dX10_things_25 : decode cX10_things 25 = .ok (.iload_n 1, 1) := by decide +kernel
theorem dX10_things_26 : decode cX10_things 26 = .ok (.iaload, 1) := by decide +kernel
theorem dX10_things_27 : decode cX10_things 27 = .ok (.ifCond .lt 17, 3) := by decide +kernel
theorem dX10_things_30 : decode cX10_things 30 = .ok (.aload_n 0, 1) := by decide +kernel
theorem dX10_things_31 : decode cX10_things 31 = .ok (.getfield 83, 3) := by decide +kernel
theorem dX10_things_34 : decode cX10_things 34 = .ok (.iload_n 1, 1) := by decide +kernel
theorem dX10_things_35 : decode cX10_things 35 = .ok (.iaload, 1) := by decide +kernel
theorem dX10_things_36 : decode cX10_things 36 = .ok (.bipush 51, 2) := by decide +kernel
theorem dX10_things_38 : decode cX10_things 38 = .ok (.if_icmp .eq 6, 3) := by decide +kernel
theorem dX10_things_41 : decode cX10_things 41 = .ok (.bipush (-12), 2) := by decide +kernel
theorem dX10_things_43 : decode cX10_things 43 = .ok (.ireturn, 1) := by decide +kernel
theorem dX10_things_44 : decode cX10_things 44 = .ok (.iconst 0, 1) := by decide +kernel
theorem dX10_things_45 : decode cX10_things 45 = .ok (.istore 4, 2) := by decide +kernel
theorem dX10_things_47 : decode cX10_things 47 = .ok (.aload_n 0, 1) := by decide +kernel
theorem dX10_things_48 : decode cX10_things 48 = .ok (.getfield 83, 3) := by decide +kernel
theorem dX10_things_51 : decode cX10_things 51 = .ok (.iload_n 1, 1) := by decide +kernel
theorem dX10_things_52 : decode cX10_things 52 = .ok (.iaload, 1) := by decide +kernel
theorem dX10_things_53 : decode cX10_things 53 = .ok (.bipush 51, 2) := by decide +kernel
theorem dX10_things_55 : decode cX10_things 55 = .ok (.if_icmp .ne 11, 3) := by decide +kernel
theorem dX10_things_58 : decode cX10_things 58 = .ok (.iload_n 2, 1) := by decide +kernel
theorem dX10_things_59 : decode cX10_things 59 = .ok (.ifCond .lt 7, 3) := by decide +kernel
theorem dX10_things_62 : decode cX10_things 62 = .ok (.iconst 1, 1) := by decide +kernel
theorem dX10_things_63 : decode cX10_things 63 = .ok (.goto 4, 3) := by decide +kernel
theorem dX10_things_66 : decode cX10_things 66 = .ok (.iconst 0, 1) := by decide +kernel
theorem dX10_things_67 : decode cX10_things 67 = .ok (.istore 5, 2) := by decide +kernel
theorem dX10_things_69 : decode cX10_things 69 = .ok (.iload 5, 2) := by decide +kernel
theorem dX10_things_71 : decode cX10_things 71 = .ok (.ifCond .eq 182, 3) := by decide +kernel
theorem dX10_things_74 : decode cX10_things 74 = .ok (.iload 4, 2) := by decide +kernel
theorem dX10_things_76 : decode cX10_things 76 = .ok (.iload_n 3, 1) := by decide +kernel
theorem dX10_things_77 : decode cX10_things 77 = .ok (.if_icmp .ge 176, 3) := by decide +kernel
theorem dX10_things_80 : decode cX10_things 80 = .ok (.iload_n 2, 1) := by decide +kernel
theorem dX10_things_81 : decode cX10_things 81 = .ok (.aload_n 0, 1) := by decide +kernel
theorem dX10_things_82 : decode cX10_things 82 = .ok (.getfield 86, 3) := by decide +kernel
theorem dX10_things_85 : decode cX10_things 85 = .ok (.iload_n 1, 1) := by decide +kernel
theorem dX10_things_86 : decode cX10_things 86 = .ok (.iaload, 1) := by decide +kernel
theorem dX10_things_87 : decode cX10_things 87 = .ok (.iconst 4, 1) := by decide +kernel
theorem dX10_things_88 : decode cX10_things 88 = .ok (.isub, 1) := by decide +kernel
theorem dX10_things_89 : decode cX10_things 89 = .ok (.iconst 4, 1) := by decide +kernel
theorem dX10_things_90 : decode cX10_things 90 = .ok (.iload 4, 2) := by decide +kernel
theorem dX10_things_92 : decode cX10_things 92 = .ok (.imul, 1) := by decide +kernel
theorem dX10_things_93 : decode cX10_things 93 = .ok (.isub, 1) := by decide +kernel
theorem dX10_things_94 : decode cX10_things 94 = .ok (.if_icmp .gt 16, 3) := by decide +kernel
theorem dX10_things_97 : decode cX10_things 97 = .ok (.aload_n 0, 1) := by decide +kernel
theorem dX10_things_98 : decode cX10_things 98 = .ok (.getfield 102, 3) := by decide +kernel
theorem dX10_things_101 : decode cX10_things 101 = .ok (.bipush 6, 2) := by decide +kernel
theorem dX10_things_103 : decode cX10_things 103 = .ok (.if_icmp .ge 7, 3) := by decide +kernel
theorem dX10_things_106 : decode cX10_things 106 = .ok (.iconst 1, 1) := by decide +kernel
theorem dX10_things_107 : decode cX10_things 107 = .ok (.goto 4, 3) := by decide +kernel
theorem dX10_things_110 : decode cX10_things 110 = .ok (.iconst 0, 1) := by decide +kernel
theorem dX10_things_111 : decode cX10_things 111 = .ok (.istore 5, 2) := by decide +kernel
theorem dX10_things_113 : decode cX10_things 113 = .ok (.bipush 60, 2) := by decide +kernel
theorem dX10_things_115 : decode cX10_things 115 = .ok (.iload_n 1, 1) := by decide +kernel
theorem dX10_things_116 : decode cX10_things 116 = .ok (.imul, 1) := by decide +kernel
theorem dX10_things_117 : decode cX10_things 117 = .ok (.iload_n 2, 1) := by decide +kernel
theorem dX10_things_118 : decode cX10_things 118 = .ok (.iadd, 1) := by decide +kernel
theorem dX10_things_119 : decode cX10_things 119 = .ok (.iconst 4, 1) := by decide +kernel
theorem dX10_things_120 : decode cX10_things 120 = .ok (.iload 4, 2) := by decide +kernel
theorem dX10_things_122 : decode cX10_things 122 = .ok (.imul, 1) := by decide +kernel
theorem dX10_things_123 : decode cX10_things 123 = .ok (.iadd, 1) := by decide +kernel
theorem dX10_things_124 : decode cX10_things 124 = .ok (.istore 6, 2) := by decide +kernel
theorem dX10_things_126 : decode cX10_things 126 = .ok (.iload 5, 2) := by decide +kernel
theorem dX10_things_128 : decode cX10_things 128 = .ok (.ifCond .eq 69, 3) := by decide +kernel
theorem dX10_things_131 : decode cX10_things 131 = .ok (.aload_n 0, 1) := by decide +kernel
theorem dX10_things_132 : decode cX10_things 132 = .ok (.getfield 89, 3) := by decide +kernel
theorem dX10_things_135 : decode cX10_things 135 = .ok (.iload 6, 2) := by decide +kernel
theorem dX10_things_137 : decode cX10_things 137 = .ok (.laload, 1) := by decide +kernel
theorem dX10_things_138 : decode cX10_things 138 = .ok (.lconst 0, 1) := by decide +kernel
theorem dX10_things_139 : decode cX10_things 139 = .ok (.ldc2_w 114, 3) := by decide +kernel
theorem dX10_things_142 : decode cX10_things 142 = .ok (.invokestatic 105, 3) := by decide +kernel
theorem dX10_things_145 : decode cX10_things 145 = .ok (.ifCond .eq 52, 3) := by decide +kernel
theorem dX10_things_148 : decode cX10_things 148 = .ok (.aload_n 0, 1) := by decide +kernel
theorem dX10_things_149 : decode cX10_things 149 = .ok (.getfield 89, 3) := by decide +kernel
theorem dX10_things_152 : decode cX10_things 152 = .ok (.iload 6, 2) := by decide +kernel
theorem dX10_things_154 : decode cX10_things 154 = .ok (.iconst 1, 1) := by decide +kernel
theorem dX10_things_155 : decode cX10_things 155 = .ok (.iadd, 1) := by decide +kernel
theorem dX10_things_156 : decode cX10_things 156 = .ok (.laload, 1) := by decide +kernel
theorem dX10_things_157 : decode cX10_things 157 = .ok (.invokestatic 118, 3) := by decide +kernel
theorem dX10_things_160 : decode cX10_things 160 = .ok (.ifCond .eq 37, 3) := by decide +kernel
theorem dX10_things_163 : decode cX10_things 163 = .ok (.aload_n 0, 1) := by decide +kernel
theorem dX10_things_164 : decode cX10_things 164 = .ok (.getfield 89, 3) := by decide +kernel
theorem dX10_things_167 : decode cX10_things 167 = .ok (.iload 6, 2) := by decide +kernel
theorem dX10_things_169 : decode cX10_things 169 = .ok (.iconst 2, 1) := by decide +kernel
theorem dX10_things_170 : decode cX10_things 170 = .ok (.iadd, 1) := by decide +kernel
theorem dX10_things_171 : decode cX10_things 171 = .ok (.laload, 1) := by decide +kernel
theorem dX10_things_172 : decode cX10_things 172 = .ok (.invokestatic 118, 3) := by decide +kernel
theorem dX10_things_175 : decode cX10_things 175 = .ok (.ifCond .eq 22, 3) := by decide +kernel
theorem dX10_things_178 : decode cX10_things 178 = .ok (.aload_n 0, 1) := by decide +kernel
theorem dX10_things_179 : decode cX10_things 179 = .ok (.getfield 89, 3) := by decide +kernel
theorem dX10_things_182 : decode cX10_things 182 = .ok (.iload 6, 2) := by decide +kernel
theorem dX10_things_184 : decode cX10_things 184 = .ok (.iconst 3, 1) := by decide +kernel
theorem dX10_things_185 : decode cX10_things 185 = .ok (.iadd, 1) := by decide +kernel
theorem dX10_things_186 : decode cX10_things 186 = .ok (.laload, 1) := by decide +kernel
theorem dX10_things_187 : decode cX10_things 187 = .ok (.invokestatic 118, 3) := by decide +kernel
theorem dX10_things_190 : decode cX10_things 190 = .ok (.ifCond .eq 7, 3) := by decide +kernel
theorem dX10_things_193 : decode cX10_things 193 = .ok (.iconst 1, 1) := by decide +kernel
theorem dX10_things_194 : decode cX10_things 194 = .ok (.goto 4, 3) := by decide +kernel
theorem dX10_things_197 : decode cX10_things 197 = .ok (.iconst 0, 1) := by decide +kernel
theorem dX10_things_198 : decode cX10_things 198 = .ok (.istore 5, 2) := by decide +kernel
theorem dX10_things_200 : decode cX10_things 200 = .ok (.iload 5, 2) := by decide +kernel
theorem dX10_things_202 : decode cX10_things 202 = .ok (.ifCond .eq 48, 3) := by decide +kernel
theorem dX10_things_205 : decode cX10_things 205 = .ok (.aload_n 0, 1) := by decide +kernel
theorem dX10_things_206 : decode cX10_things 206 = .ok (.aload_n 0, 1) := by decide +kernel
theorem dX10_things_207 : decode cX10_things 207 = .ok (.getfield 89, 3) := by decide +kernel
theorem dX10_things_210 : decode cX10_things 210 = .ok (.iload 6, 2) := by decide +kernel
theorem dX10_things_212 : decode cX10_things 212 = .ok (.laload, 1) := by decide +kernel
theorem dX10_things_213 : decode cX10_things 213 = .ok (.l2i, 1) := by decide +kernel
theorem dX10_things_214 : decode cX10_things 214 = .ok (.aload_n 0, 1) := by decide +kernel
theorem dX10_things_215 : decode cX10_things 215 = .ok (.getfield 89, 3) := by decide +kernel
theorem dX10_things_218 : decode cX10_things 218 = .ok (.iload 6, 2) := by decide +kernel
theorem dX10_things_220 : decode cX10_things 220 = .ok (.iconst 1, 1) := by decide +kernel
theorem dX10_things_221 : decode cX10_things 221 = .ok (.iadd, 1) := by decide +kernel
theorem dX10_things_222 : decode cX10_things 222 = .ok (.laload, 1) := by decide +kernel
theorem dX10_things_223 : decode cX10_things 223 = .ok (.l2i, 1) := by decide +kernel
theorem dX10_things_224 : decode cX10_things 224 = .ok (.aload_n 0, 1) := by decide +kernel
theorem dX10_things_225 : decode cX10_things 225 = .ok (.getfield 89, 3) := by decide +kernel
theorem dX10_things_228 : decode cX10_things 228 = .ok (.iload 6, 2) := by decide +kernel
theorem dX10_things_230 : decode cX10_things 230 = .ok (.iconst 2, 1) := by decide +kernel
theorem dX10_things_231 : decode cX10_things 231 = .ok (.iadd, 1) := by decide +kernel
theorem dX10_things_232 : decode cX10_things 232 = .ok (.laload, 1) := by decide +kernel
theorem dX10_things_233 : decode cX10_things 233 = .ok (.l2i, 1) := by decide +kernel
theorem dX10_things_234 : decode cX10_things 234 = .ok (.aload_n 0, 1) := by decide +kernel
theorem dX10_things_235 : decode cX10_things 235 = .ok (.getfield 89, 3) := by decide +kernel
theorem dX10_things_238 : decode cX10_things 238 = .ok (.iload 6, 2) := by decide +kernel
theorem dX10_things_240 : decode cX10_things 240 = .ok (.iconst 3, 1) := by decide +kernel
theorem dX10_things_241 : decode cX10_things 241 = .ok (.iadd, 1) := by decide +kernel
theorem dX10_things_242 : decode cX10_things 242 = .ok (.laload, 1) := by decide +kernel
theorem dX10_things_243 : decode cX10_things 243 = .ok (.l2i, 1) := by decide +kernel
theorem dX10_things_244 : decode cX10_things 244 = .ok (.invokevirtual 122, 3) := by decide +kernel
theorem dX10_things_247 : decode cX10_things 247 = .ok (.iinc 4 1, 3) := by decide +kernel
theorem dX10_things_250 : decode cX10_things 250 = .ok (.goto (-181), 3) := by decide +kernel
theorem dX10_things_253 : decode cX10_things 253 = .ok (.iload 4, 2) := by decide +kernel
theorem dX10_things_255 : decode cX10_things 255 = .ok (.ireturn, 1) := by decide +kernel
theorem dX10_mend_0 : decode cX10_mend 0 = .ok (.aload_n 0, 1) := by decide +kernel
theorem dX10_mend_1 : decode cX10_mend 1 = .ok (.iload_n 1, 1) := by decide +kernel
theorem dX10_mend_2 : decode cX10_mend 2 = .ok (.invokevirtual 132, 3) := by decide +kernel
theorem dX10_mend_5 : decode cX10_mend 5 = .ok (.ifCond .eq 51, 3) := by decide +kernel
theorem dX10_mend_8 : decode cX10_mend 8 = .ok (.iload_n 2, 1) := by decide +kernel
theorem dX10_mend_9 : decode cX10_mend 9 = .ok (.i2l, 1) := by decide +kernel
theorem dX10_mend_10 : decode cX10_mend 10 = .ok (.lconst 0, 1) := by decide +kernel
theorem dX10_mend_11 : decode cX10_mend 11 = .ok (.ldc2_w 135, 3) := by decide +kernel
theorem dX10_mend_14 : decode cX10_mend 14 = .ok (.invokestatic 105, 3) := by decide +kernel
theorem dX10_mend_17 : decode cX10_mend 17 = .ok (.ifCond .eq 39, 3) := by decide +kernel
theorem dX10_mend_20 : decode cX10_mend 20 = .ok (.iload_n 3, 1) := by decide +kernel
theorem dX10_mend_21 : decode cX10_mend 21 = .ok (.i2l, 1) := by decide +kernel
theorem dX10_mend_22 : decode cX10_mend 22 = .ok (.lconst 0, 1) := by decide +kernel
theorem dX10_mend_23 : decode cX10_mend 23 = .ok (.iload_n 2, 1) := by decide +kernel
theorem dX10_mend_24 : decode cX10_mend 24 = .ok (.ifCond .ne 9, 3) := by decide +kernel
theorem dX10_mend_27 : decode cX10_mend 27 = .ok (.ldc2_w 114, 3) := by decide +kernel
theorem dX10_mend_30 : decode cX10_mend 30 = .ok (.goto 6, 3) := by decide +kernel
theorem dX10_mend_33 : decode cX10_mend 33 = .ok (.ldc2_w 112, 3) := by decide +kernel
theorem dX10_mend_36 : decode cX10_mend 36 = .ok (.invokestatic 105, 3) := by decide +kernel
theorem dX10_mend_39 : decode cX10_mend 39 = .ok (.ifCond .eq 17, 3) := by decide +kernel
theorem dX10_mend_42 : decode cX10_mend 42 = .ok (.aload_n 0, 1) := by decide +kernel
theorem dX10_mend_43 : decode cX10_mend 43 = .ok (.bipush 6, 2) := by decide +kernel
theorem dX10_mend_45 : decode cX10_mend 45 = .ok (.iload_n 2, 1) := by decide +kernel
theorem dX10_mend_46 : decode cX10_mend 46 = .ok (.imul, 1) := by decide +kernel
theorem dX10_mend_47 : decode cX10_mend 47 = .ok (.iload_n 1, 1) := by decide +kernel
theorem dX10_mend_48 : decode cX10_mend 48 = .ok (.iadd, 1) := by decide +kernel
theorem dX10_mend_49 : decode cX10_mend 49 = .ok (.iload_n 3, 1) := by decide +kernel
theorem dX10_mend_50 : decode cX10_mend 50 = .ok (.invokevirtual 137, 3) := by decide +kernel
theorem dX10_mend_53 : decode cX10_mend 53 = .ok (.goto 4, 3) := by decide +kernel
theorem dX10_mend_56 : decode cX10_mend 56 = .ok (.iconst (-1), 1) := by decide +kernel
theorem dX10_mend_57 : decode cX10_mend 57 = .ok (.ireturn, 1) := by decide +kernel
theorem dX10_sort_0 : decode cX10_sort 0 = .ok (.iload_n 1, 1) := by decide +kernel
theorem dX10_sort_1 : decode cX10_sort 1 = .ok (.i2l, 1) := by decide +kernel
theorem dX10_sort_2 : decode cX10_sort 2 = .ok (.lconst 1, 1) := by decide +kernel
theorem dX10_sort_3 : decode cX10_sort 3 = .ok (.ldc2_w 112, 3) := by decide +kernel
theorem dX10_sort_6 : decode cX10_sort 6 = .ok (.invokestatic 105, 3) := by decide +kernel
theorem dX10_sort_9 : decode cX10_sort 9 = .ok (.ifCond .eq 38, 3) := by decide +kernel
theorem dX10_sort_12 : decode cX10_sort 12 = .ok (.iload_n 2, 1) := by decide +kernel
theorem dX10_sort_13 : decode cX10_sort 13 = .ok (.i2l, 1) := by decide +kernel
theorem dX10_sort_14 : decode cX10_sort 14 = .ok (.lconst 0, 1) := by decide +kernel
theorem dX10_sort_15 : decode cX10_sort 15 = .ok (.ldc2_w 116, 3) := by decide +kernel
theorem dX10_sort_18 : decode cX10_sort 18 = .ok (.invokestatic 105, 3) := by decide +kernel
theorem dX10_sort_21 : decode cX10_sort 21 = .ok (.ifCond .eq 26, 3) := by decide +kernel
theorem dX10_sort_24 : decode cX10_sort 24 = .ok (.iload_n 3, 1) := by decide +kernel
theorem dX10_sort_25 : decode cX10_sort 25 = .ok (.ifCond .lt 22, 3) := by decide +kernel
theorem dX10_sort_28 : decode cX10_sort 28 = .ok (.iload_n 3, 1) := by decide +kernel
theorem dX10_sort_29 : decode cX10_sort 29 = .ok (.bipush 10, 2) := by decide +kernel
theorem dX10_sort_31 : decode cX10_sort 31 = .ok (.idiv, 1) := by decide +kernel
theorem dX10_sort_32 : decode cX10_sort 32 = .ok (.iconst 3, 1) := by decide +kernel
theorem dX10_sort_33 : decode cX10_sort 33 = .ok (.if_icmp .gt 14, 3) := by decide +kernel
theorem dX10_sort_36 : decode cX10_sort 36 = .ok (.iload_n 3, 1) := by decide +kernel
theorem dX10_sort_37 : decode cX10_sort 37 = .ok (.bipush 10, 2) := by decide +kernel
theorem dX10_sort_39 : decode cX10_sort 39 = .ok (.irem, 1) := by decide +kernel
theorem dX10_sort_40 : decode cX10_sort 40 = .ok (.aload_n 0, 1) := by decide +kernel
theorem dX10_sort_41 : decode cX10_sort 41 = .ok (.getfield 141, 3) := by decide +kernel
theorem dX10_sort_44 : decode cX10_sort 44 = .ok (.if_icmp .lt 5, 3) := by decide +kernel
theorem dX10_sort_47 : decode cX10_sort 47 = .ok (.iconst (-1), 1) := by decide +kernel
theorem dX10_sort_48 : decode cX10_sort 48 = .ok (.ireturn, 1) := by decide +kernel
theorem dX10_sort_49 : decode cX10_sort 49 = .ok (.aload_n 0, 1) := by decide +kernel
theorem dX10_sort_50 : decode cX10_sort 50 = .ok (.getfield 109, 3) := by decide +kernel
theorem dX10_sort_53 : decode cX10_sort 53 = .ok (.iconst 5, 1) := by decide +kernel
theorem dX10_sort_54 : decode cX10_sort 54 = .ok (.if_icmp .ne 6, 3) := by decide +kernel
theorem dX10_sort_57 : decode cX10_sort 57 = .ok (.bipush (-3), 2) := by decide +kernel
theorem dX10_sort_59 : decode cX10_sort 59 = .ok (.ireturn, 1) := by decide +kernel
theorem dX10_sort_60 : decode cX10_sort 60 = .ok (.aload_n 0, 1) := by decide +kernel
theorem dX10_sort_61 : decode cX10_sort 61 = .ok (.getfield 25, 3) := by decide +kernel
theorem dX10_sort_64 : decode cX10_sort 64 = .ok (.aload_n 0, 1) := by decide +kernel
theorem dX10_sort_65 : decode cX10_sort 65 = .ok (.getfield 109, 3) := by decide +kernel
theorem dX10_sort_68 : decode cX10_sort 68 = .ok (.iload_n 1, 1) := by decide +kernel
theorem dX10_sort_69 : decode cX10_sort 69 = .ok (.iastore, 1) := by decide +kernel
theorem dX10_sort_70 : decode cX10_sort 70 = .ok (.aload_n 0, 1) := by decide +kernel
theorem dX10_sort_71 : decode cX10_sort 71 = .ok (.getfield 9, 3) := by decide +kernel
theorem dX10_sort_74 : decode cX10_sort 74 = .ok (.bipush 18, 2) := by decide +kernel
theorem dX10_sort_76 : decode cX10_sort 76 = .ok (.aload_n 0, 1) := by decide +kernel
theorem dX10_sort_77 : decode cX10_sort 77 = .ok (.getfield 109, 3) := by decide +kernel
theorem dX10_sort_80 : decode cX10_sort 80 = .ok (.iadd, 1) := by decide +kernel
theorem dX10_sort_81 : decode cX10_sort 81 = .ok (.iload_n 2, 1) := by decide +kernel
theorem dX10_sort_82 : decode cX10_sort 82 = .ok (.bipush 100, 2) := by decide +kernel
theorem dX10_sort_84 : decode cX10_sort 84 = .ok (.idiv, 1) := by decide +kernel
theorem dX10_sort_85 : decode cX10_sort 85 = .ok (.iastore, 1) := by decide +kernel
theorem dX10_sort_86 : decode cX10_sort 86 = .ok (.aload_n 0, 1) := by decide +kernel
theorem dX10_sort_87 : decode cX10_sort 87 = .ok (.getfield 9, 3) := by decide +kernel
theorem dX10_sort_90 : decode cX10_sort 90 = .ok (.bipush 23, 2) := by decide +kernel
theorem dX10_sort_92 : decode cX10_sort 92 = .ok (.aload_n 0, 1) := by decide +kernel
theorem dX10_sort_93 : decode cX10_sort 93 = .ok (.getfield 109, 3) := by decide +kernel
theorem dX10_sort_96 : decode cX10_sort 96 = .ok (.iadd, 1) := by decide +kernel
theorem dX10_sort_97 : decode cX10_sort 97 = .ok (.iload_n 2, 1) := by decide +kernel
theorem dX10_sort_98 : decode cX10_sort 98 = .ok (.bipush 100, 2) := by decide +kernel
theorem dX10_sort_100 : decode cX10_sort 100 = .ok (.irem, 1) := by decide +kernel
theorem dX10_sort_101 : decode cX10_sort 101 = .ok (.iastore, 1) := by decide +kernel
theorem dX10_sort_102 : decode cX10_sort 102 = .ok (.aload_n 0, 1) := by decide +kernel
theorem dX10_sort_103 : decode cX10_sort 103 = .ok (.getfield 28, 3) := by decide +kernel
theorem dX10_sort_106 : decode cX10_sort 106 = .ok (.aload_n 0, 1) := by decide +kernel
theorem dX10_sort_107 : decode cX10_sort 107 = .ok (.getfield 109, 3) := by decide +kernel
theorem dX10_sort_110 : decode cX10_sort 110 = .ok (.iload_n 3, 1) := by decide +kernel
theorem dX10_sort_111 : decode cX10_sort 111 = .ok (.bipush 10, 2) := by decide +kernel
theorem dX10_sort_113 : decode cX10_sort 113 = .ok (.idiv, 1) := by decide +kernel
theorem dX10_sort_114 : decode cX10_sort 114 = .ok (.iastore, 1) := by decide +kernel
theorem dX10_sort_115 : decode cX10_sort 115 = .ok (.aload_n 0, 1) := by decide +kernel
theorem dX10_sort_116 : decode cX10_sort 116 = .ok (.getfield 31, 3) := by decide +kernel
theorem dX10_sort_119 : decode cX10_sort 119 = .ok (.aload_n 0, 1) := by decide +kernel
theorem dX10_sort_120 : decode cX10_sort 120 = .ok (.getfield 109, 3) := by decide +kernel
theorem dX10_sort_123 : decode cX10_sort 123 = .ok (.iload_n 3, 1) := by decide +kernel
theorem dX10_sort_124 : decode cX10_sort 124 = .ok (.bipush 10, 2) := by decide +kernel
theorem dX10_sort_126 : decode cX10_sort 126 = .ok (.irem, 1) := by decide +kernel
theorem dX10_sort_127 : decode cX10_sort 127 = .ok (.iastore, 1) := by decide +kernel
theorem dX10_sort_128 : decode cX10_sort 128 = .ok (.aload_n 0, 1) := by decide +kernel
theorem dX10_sort_129 : decode cX10_sort 129 = .ok (.getfield 34, 3) := by decide +kernel
theorem dX10_sort_132 : decode cX10_sort 132 = .ok (.aload_n 0, 1) := by decide +kernel
theorem dX10_sort_133 : decode cX10_sort 133 = .ok (.getfield 109, 3) := by decide +kernel
theorem dX10_sort_136 : decode cX10_sort 136 = .ok (.iconst 0, 1) := by decide +kernel
theorem dX10_sort_137 : decode cX10_sort 137 = .ok (.iastore, 1) := by decide +kernel
theorem dX10_sort_138 : decode cX10_sort 138 = .ok (.aload_n 0, 1) := by decide +kernel
theorem dX10_sort_139 : decode cX10_sort 139 = .ok (.dup, 1) := by decide +kernel
theorem dX10_sort_140 : decode cX10_sort 140 = .ok (.getfield 109, 3) := by decide +kernel
theorem dX10_sort_143 : decode cX10_sort 143 = .ok (.iconst 1, 1) := by decide +kernel
theorem dX10_sort_144 : decode cX10_sort 144 = .ok (.iadd, 1) := by decide +kernel
theorem dX10_sort_145 : decode cX10_sort 145 = .ok (.putfield 109, 3) := by decide +kernel
theorem dX10_sort_148 : decode cX10_sort 148 = .ok (.aload_n 0, 1) := by decide +kernel
theorem dX10_sort_149 : decode cX10_sort 149 = .ok (.getfield 109, 3) := by decide +kernel
theorem dX10_sort_152 : decode cX10_sort 152 = .ok (.iconst 1, 1) := by decide +kernel
theorem dX10_sort_153 : decode cX10_sort 153 = .ok (.isub, 1) := by decide +kernel
theorem dX10_sort_154 : decode cX10_sort 154 = .ok (.ireturn, 1) := by decide +kernel
theorem dX10_purse_0 : decode cX10_purse 0 = .ok (.aload_n 0, 1) := by decide +kernel
theorem dX10_purse_1 : decode cX10_purse 1 = .ok (.iload_n 1, 1) := by decide +kernel
theorem dX10_purse_2 : decode cX10_purse 2 = .ok (.invokevirtual 144, 3) := by decide +kernel
theorem dX10_purse_5 : decode cX10_purse 5 = .ok (.ifCond .eq 42, 3) := by decide +kernel
theorem dX10_purse_8 : decode cX10_purse 8 = .ok (.iload_n 2, 1) := by decide +kernel
theorem dX10_purse_9 : decode cX10_purse 9 = .ok (.i2l, 1) := by decide +kernel
theorem dX10_purse_10 : decode cX10_purse 10 = .ok (.lconst 0, 1) := by decide +kernel
theorem dX10_purse_11 : decode cX10_purse 11 = .ok (.lconst 1, 1) := by decide +kernel
theorem dX10_purse_12 : decode cX10_purse 12 = .ok (.invokestatic 105, 3) := by decide +kernel
theorem dX10_purse_15 : decode cX10_purse 15 = .ok (.ifCond .eq 32, 3) := by decide +kernel
theorem dX10_purse_18 : decode cX10_purse 18 = .ok (.iload_n 3, 1) := by decide +kernel
theorem dX10_purse_19 : decode cX10_purse 19 = .ok (.i2l, 1) := by decide +kernel
theorem dX10_purse_20 : decode cX10_purse 20 = .ok (.invokestatic 118, 3) := by decide +kernel
theorem dX10_purse_23 : decode cX10_purse 23 = .ok (.ifCond .eq 24, 3) := by decide +kernel
theorem dX10_purse_26 : decode cX10_purse 26 = .ok (.aload_n 0, 1) := by decide +kernel
theorem dX10_purse_27 : decode cX10_purse 27 = .ok (.iload_n 2, 1) := by decide +kernel
theorem dX10_purse_28 : decode cX10_purse 28 = .ok (.ifCond .ne 8, 3) := by decide +kernel
theorem dX10_purse_31 : decode cX10_purse 31 = .ok (.bipush 18, 2) := by decide +kernel
theorem dX10_purse_33 : decode cX10_purse 33 = .ok (.goto 5, 3) := by decide +kernel
theorem dX10_purse_36 : decode cX10_purse 36 = .ok (.bipush 23, 2) := by decide +kernel
theorem dX10_purse_38 : decode cX10_purse 38 = .ok (.iload_n 1, 1) := by decide +kernel
theorem dX10_purse_39 : decode cX10_purse 39 = .ok (.iadd, 1) := by decide +kernel
theorem dX10_purse_40 : decode cX10_purse 40 = .ok (.iload_n 3, 1) := by decide +kernel
theorem dX10_purse_41 : decode cX10_purse 41 = .ok (.invokevirtual 137, 3) := by decide +kernel
theorem dX10_purse_44 : decode cX10_purse 44 = .ok (.goto 4, 3) := by decide +kernel
theorem dX10_purse_47 : decode cX10_purse 47 = .ok (.iconst (-1), 1) := by decide +kernel
theorem dX10_purse_48 : decode cX10_purse 48 = .ok (.ireturn, 1) := by decide +kernel
theorem dX10_purseOf_0 : decode cX10_purseOf 0 = .ok (.aload_n 0, 1) := by decide +kernel
theorem dX10_purseOf_1 : decode cX10_purseOf 1 = .ok (.getfield 9, 3) := by decide +kernel
theorem dX10_purseOf_4 : decode cX10_purseOf 4 = .ok (.bipush 18, 2) := by decide +kernel
theorem dX10_purseOf_6 : decode cX10_purseOf 6 = .ok (.iload_n 1, 1) := by decide +kernel
theorem dX10_purseOf_7 : decode cX10_purseOf 7 = .ok (.iadd, 1) := by decide +kernel
theorem dX10_purseOf_8 : decode cX10_purseOf 8 = .ok (.iaload, 1) := by decide +kernel
theorem dX10_purseOf_9 : decode cX10_purseOf 9 = .ok (.ireturn, 1) := by decide +kernel
theorem dX10_pointsInAll_0 : decode cX10_pointsInAll 0 = .ok (.aload_n 0, 1) := by decide +kernel
theorem dX10_pointsInAll_1 : decode cX10_pointsInAll 1 = .ok (.getfield 9, 3) := by decide +kernel
theorem dX10_pointsInAll_4 : decode cX10_pointsInAll 4 = .ok (.bipush 23, 2) := by decide +kernel
theorem dX10_pointsInAll_6 : decode cX10_pointsInAll 6 = .ok (.iload_n 1, 1) := by decide +kernel
theorem dX10_pointsInAll_7 : decode cX10_pointsInAll 7 = .ok (.iadd, 1) := by decide +kernel
theorem dX10_pointsInAll_8 : decode cX10_pointsInAll 8 = .ok (.iaload, 1) := by decide +kernel
theorem dX10_pointsInAll_9 : decode cX10_pointsInAll 9 = .ok (.bipush 10, 2) := by decide +kernel
theorem dX10_pointsInAll_11 : decode cX10_pointsInAll 11 = .ok (.aload_n 0, 1) := by decide +kernel
theorem dX10_pointsInAll_12 : decode cX10_pointsInAll 12 = .ok (.getfield 28, 3) := by decide +kernel
theorem dX10_pointsInAll_15 : decode cX10_pointsInAll 15 = .ok (.iload_n 1, 1) := by decide +kernel
theorem dX10_pointsInAll_16 : decode cX10_pointsInAll 16 = .ok (.iaload, 1) := by decide +kernel
theorem dX10_pointsInAll_17 : decode cX10_pointsInAll 17 = .ok (.imul, 1) := by decide +kernel
theorem dX10_pointsInAll_18 : decode cX10_pointsInAll 18 = .ok (.iadd, 1) := by decide +kernel
theorem dX10_pointsInAll_19 : decode cX10_pointsInAll 19 = .ok (.ireturn, 1) := by decide +kernel
theorem dX10_of_0 : decode cX10_of 0 = .ok (.iload_n 2, 1) := by decide +kernel
theorem dX10_of_1 : decode cX10_of 1 = .ok (.i2l, 1) := by decide +kernel
theorem dX10_of_2 : decode cX10_of 2 = .ok (.lconst 0, 1) := by decide +kernel
theorem dX10_of_3 : decode cX10_of 3 = .ok (.ldc2_w 147, 3) := by decide +kernel
theorem dX10_of_6 : decode cX10_of 6 = .ok (.invokestatic 105, 3) := by decide +kernel
theorem dX10_of_9 : decode cX10_of 9 = .ok (.ifCond .eq 41, 3) := by decide +kernel
theorem dX10_of_12 : decode cX10_of 12 = .ok (.aload_n 0, 1) := by decide +kernel
theorem dX10_of_13 : decode cX10_of 13 = .ok (.iload_n 1, 1) := by decide +kernel
theorem dX10_of_14 : decode cX10_of 14 = .ok (.invokevirtual 132, 3) := by decide +kernel
theorem dX10_of_17 : decode cX10_of 17 = .ok (.ifCond .ne 7, 3) := by decide +kernel
theorem dX10_of_20 : decode cX10_of 20 = .ok (.iconst (-1), 1) := by decide +kernel
theorem dX10_of_21 : decode cX10_of 21 = .ok (.goto 28, 3) := by decide +kernel
theorem dX10_of_24 : decode cX10_of 24 = .ok (.iload_n 2, 1) := by decide +kernel
theorem dX10_of_25 : decode cX10_of 25 = .ok (.iconst 3, 1) := by decide +kernel
theorem dX10_of_26 : decode cX10_of 26 = .ok (.if_icmp .ne 12, 3) := by decide +kernel
theorem dX10_of_29 : decode cX10_of 29 = .ok (.aload_n 0, 1) := by decide +kernel
theorem dX10_of_30 : decode cX10_of 30 = .ok (.getfield 22, 3) := by decide +kernel
theorem dX10_of_33 : decode cX10_of 33 = .ok (.iload_n 1, 1) := by decide +kernel
theorem dX10_of_34 : decode cX10_of 34 = .ok (.iaload, 1) := by decide +kernel
theorem dX10_of_35 : decode cX10_of 35 = .ok (.goto 14, 3) := by decide +kernel
theorem dX10_of_38 : decode cX10_of 38 = .ok (.aload_n 0, 1) := by decide +kernel
theorem dX10_of_39 : decode cX10_of 39 = .ok (.getfield 9, 3) := by decide +kernel
theorem dX10_of_42 : decode cX10_of 42 = .ok (.bipush 6, 2) := by decide +kernel
theorem dX10_of_44 : decode cX10_of 44 = .ok (.iload_n 2, 1) := by decide +kernel
theorem dX10_of_45 : decode cX10_of 45 = .ok (.imul, 1) := by decide +kernel
theorem dX10_of_46 : decode cX10_of 46 = .ok (.iload_n 1, 1) := by decide +kernel
theorem dX10_of_47 : decode cX10_of 47 = .ok (.iadd, 1) := by decide +kernel
theorem dX10_of_48 : decode cX10_of 48 = .ok (.iaload, 1) := by decide +kernel
theorem dX10_of_49 : decode cX10_of 49 = .ok (.ireturn, 1) := by decide +kernel
theorem dX10_of_50 : decode cX10_of 50 = .ok (.aload_n 0, 1) := by decide +kernel
theorem dX10_of_51 : decode cX10_of 51 = .ok (.iload_n 1, 1) := by decide +kernel
theorem dX10_of_52 : decode cX10_of 52 = .ok (.invokevirtual 144, 3) := by decide +kernel
theorem dX10_of_55 : decode cX10_of 55 = .ok (.ifCond .ne 5, 3) := by decide +kernel
theorem dX10_of_58 : decode cX10_of 58 = .ok (.iconst (-1), 1) := by decide +kernel
theorem dX10_of_59 : decode cX10_of 59 = .ok (.ireturn, 1) := by decide +kernel
theorem dX10_of_60 : decode cX10_of 60 = .ok (.iload_n 2, 1) := by decide +kernel
theorem dX10_of_61 : decode cX10_of 61 = .ok (.tableswitch 68 10 14 #[35, 42, 48, 54, 61], 35) := by decide +kernel
theorem dX10_of_96 : decode cX10_of 96 = .ok (.aload_n 0, 1) := by decide +kernel
theorem dX10_of_97 : decode cX10_of 97 = .ok (.getfield 25, 3) := by decide +kernel
theorem dX10_of_100 : decode cX10_of 100 = .ok (.iload_n 1, 1) := by decide +kernel
theorem dX10_of_101 : decode cX10_of 101 = .ok (.iaload, 1) := by decide +kernel
theorem dX10_of_102 : decode cX10_of 102 = .ok (.ireturn, 1) := by decide +kernel
theorem dX10_of_103 : decode cX10_of 103 = .ok (.aload_n 0, 1) := by decide +kernel
theorem dX10_of_104 : decode cX10_of 104 = .ok (.iload_n 1, 1) := by decide +kernel
theorem dX10_of_105 : decode cX10_of 105 = .ok (.invokevirtual 149, 3) := by decide +kernel
theorem dX10_of_108 : decode cX10_of 108 = .ok (.ireturn, 1) := by decide +kernel
theorem dX10_of_109 : decode cX10_of 109 = .ok (.aload_n 0, 1) := by decide +kernel
theorem dX10_of_110 : decode cX10_of 110 = .ok (.iload_n 1, 1) := by decide +kernel
theorem dX10_of_111 : decode cX10_of 111 = .ok (.invokevirtual 153, 3) := by decide +kernel
theorem dX10_of_114 : decode cX10_of 114 = .ok (.ireturn, 1) := by decide +kernel
theorem dX10_of_115 : decode cX10_of 115 = .ok (.aload_n 0, 1) := by decide +kernel
theorem dX10_of_116 : decode cX10_of 116 = .ok (.getfield 28, 3) := by decide +kernel
theorem dX10_of_119 : decode cX10_of 119 = .ok (.iload_n 1, 1) := by decide +kernel
theorem dX10_of_120 : decode cX10_of 120 = .ok (.iaload, 1) := by decide +kernel
theorem dX10_of_121 : decode cX10_of 121 = .ok (.ireturn, 1) := by decide +kernel
theorem dX10_of_122 : decode cX10_of 122 = .ok (.aload_n 0, 1) := by decide +kernel
theorem dX10_of_123 : decode cX10_of 123 = .ok (.getfield 31, 3) := by decide +kernel
theorem dX10_of_126 : decode cX10_of 126 = .ok (.iload_n 1, 1) := by decide +kernel
theorem dX10_of_127 : decode cX10_of 127 = .ok (.iaload, 1) := by decide +kernel
theorem dX10_of_128 : decode cX10_of 128 = .ok (.ireturn, 1) := by decide +kernel
theorem dX10_of_129 : decode cX10_of 129 = .ok (.iconst (-1), 1) := by decide +kernel
theorem dX10_of_130 : decode cX10_of 130 = .ok (.ireturn, 1) := by decide +kernel
theorem dX10_feed_0 : decode cX10_feed 0 = .ok (.iload_n 1, 1) := by decide +kernel
theorem dX10_feed_1 : decode cX10_feed 1 = .ok (.i2l, 1) := by decide +kernel
theorem dX10_feed_2 : decode cX10_feed 2 = .ok (.lconst 1, 1) := by decide +kernel
theorem dX10_feed_3 : decode cX10_feed 3 = .ok (.ldc2_w 156, 3) := by decide +kernel
theorem dX10_feed_6 : decode cX10_feed 6 = .ok (.invokestatic 105, 3) := by decide +kernel
theorem dX10_feed_9 : decode cX10_feed 9 = .ok (.ifCond .ne 5, 3) := by decide +kernel
theorem dX10_feed_12 : decode cX10_feed 12 = .ok (.iconst (-1), 1) := by decide +kernel
theorem dX10_feed_13 : decode cX10_feed 13 = .ok (.ireturn, 1) := by decide +kernel
theorem dX10_feed_14 : decode cX10_feed 14 = .ok (.aload_n 0, 1) := by decide +kernel
theorem dX10_feed_15 : decode cX10_feed 15 = .ok (.getfield 158, 3) := by decide +kernel
theorem dX10_feed_18 : decode cX10_feed 18 = .ok (.iload_n 1, 1) := by decide +kernel
theorem dX10_feed_19 : decode cX10_feed 19 = .ok (.iadd, 1) := by decide +kernel
theorem dX10_feed_20 : decode cX10_feed 20 = .ok (.bipush 120, 2) := by decide +kernel
theorem dX10_feed_22 : decode cX10_feed 22 = .ok (.if_icmp .le 6, 3) := by decide +kernel
theorem dX10_feed_25 : decode cX10_feed 25 = .ok (.bipush (-3), 2) := by decide +kernel
theorem dX10_feed_27 : decode cX10_feed 27 = .ok (.ireturn, 1) := by decide +kernel
theorem dX10_feed_28 : decode cX10_feed 28 = .ok (.iconst 0, 1) := by decide +kernel
theorem dX10_feed_29 : decode cX10_feed 29 = .ok (.istore_n 3, 1) := by decide +kernel
theorem dX10_feed_30 : decode cX10_feed 30 = .ok (.iload_n 3, 1) := by decide +kernel
theorem dX10_feed_31 : decode cX10_feed 31 = .ok (.iload_n 1, 1) := by decide +kernel
theorem dX10_feed_32 : decode cX10_feed 32 = .ok (.if_icmp .ge 38, 3) := by decide +kernel
theorem dX10_feed_35 : decode cX10_feed 35 = .ok (.aload_n 0, 1) := by decide +kernel
theorem dX10_feed_36 : decode cX10_feed 36 = .ok (.getfield 37, 3) := by decide +kernel
theorem dX10_feed_39 : decode cX10_feed 39 = .ok (.aload_n 0, 1) := by decide +kernel
theorem dX10_feed_40 : decode cX10_feed 40 = .ok (.getfield 158, 3) := by decide +kernel
theorem dX10_feed_43 : decode cX10_feed 43 = .ok (.iload_n 2, 1) := by decide +kernel
theorem dX10_feed_44 : decode cX10_feed 44 = .ok (.bipush 8, 2) := by decide +kernel
theorem dX10_feed_46 : decode cX10_feed 46 = .ok (.iload_n 3, 1) := by decide +kernel
theorem dX10_feed_47 : decode cX10_feed 47 = .ok (.imul, 1) := by decide +kernel
theorem dX10_feed_48 : decode cX10_feed 48 = .ok (.ishr, 1) := by decide +kernel
theorem dX10_feed_49 : decode cX10_feed 49 = .ok (.sipush 255, 3) := by decide +kernel
theorem dX10_feed_52 : decode cX10_feed 52 = .ok (.iand, 1) := by decide +kernel
theorem dX10_feed_53 : decode cX10_feed 53 = .ok (.iastore, 1) := by decide +kernel
theorem dX10_feed_54 : decode cX10_feed 54 = .ok (.aload_n 0, 1) := by decide +kernel
theorem dX10_feed_55 : decode cX10_feed 55 = .ok (.dup, 1) := by decide +kernel
theorem dX10_feed_56 : decode cX10_feed 56 = .ok (.getfield 158, 3) := by decide +kernel
theorem dX10_feed_59 : decode cX10_feed 59 = .ok (.iconst 1, 1) := by decide +kernel
theorem dX10_feed_60 : decode cX10_feed 60 = .ok (.iadd, 1) := by decide +kernel
theorem dX10_feed_61 : decode cX10_feed 61 = .ok (.putfield 158, 3) := by decide +kernel
theorem dX10_feed_64 : decode cX10_feed 64 = .ok (.iinc 3 1, 3) := by decide +kernel
theorem dX10_feed_67 : decode cX10_feed 67 = .ok (.goto (-37), 3) := by decide +kernel
theorem dX10_feed_70 : decode cX10_feed 70 = .ok (.aload_n 0, 1) := by decide +kernel
theorem dX10_feed_71 : decode cX10_feed 71 = .ok (.getfield 158, 3) := by decide +kernel
theorem dX10_feed_74 : decode cX10_feed 74 = .ok (.ireturn, 1) := by decide +kernel
theorem dX10_byteAt_0 : decode cX10_byteAt 0 = .ok (.aload_n 0, 1) := by decide +kernel
theorem dX10_byteAt_1 : decode cX10_byteAt 1 = .ok (.getfield 161, 3) := by decide +kernel
theorem dX10_byteAt_4 : decode cX10_byteAt 4 = .ok (.aload_n 0, 1) := by decide +kernel
theorem dX10_byteAt_5 : decode cX10_byteAt 5 = .ok (.getfield 164, 3) := by decide +kernel
theorem dX10_byteAt_8 : decode cX10_byteAt 8 = .ok (.if_icmp .ge 39, 3) := by decide +kernel
theorem dX10_byteAt_11 : decode cX10_byteAt 11 = .ok (.aload_n 0, 1) := by decide +kernel
theorem dX10_byteAt_12 : decode cX10_byteAt 12 = .ok (.getfield 167, 3) := by decide +kernel
theorem dX10_byteAt_15 : decode cX10_byteAt 15 = .ok (.ifCond .ge 15, 3) := by decide +kernel
theorem dX10_byteAt_18 : decode cX10_byteAt 18 = .ok (.aload_n 0, 1) := by decide +kernel
theorem dX10_byteAt_19 : decode cX10_byteAt 19 = .ok (.getfield 37, 3) := by decide +kernel
theorem dX10_byteAt_22 : decode cX10_byteAt 22 = .ok (.aload_n 0, 1) := by decide +kernel
theorem dX10_byteAt_23 : decode cX10_byteAt 23 = .ok (.getfield 161, 3) := by decide +kernel
theorem dX10_byteAt_26 : decode cX10_byteAt 26 = .ok (.iaload, 1) := by decide +kernel
theorem dX10_byteAt_27 : decode cX10_byteAt 27 = .ok (.goto 21, 3) := by decide +kernel
theorem dX10_byteAt_30 : decode cX10_byteAt 30 = .ok (.aload_n 0, 1) := by decide +kernel
theorem dX10_byteAt_31 : decode cX10_byteAt 31 = .ok (.getfield 40, 3) := by decide +kernel
theorem dX10_byteAt_34 : decode cX10_byteAt 34 = .ok (.aload_n 0, 1) := by decide +kernel
theorem dX10_byteAt_35 : decode cX10_byteAt 35 = .ok (.getfield 167, 3) := by decide +kernel
theorem dX10_byteAt_38 : decode cX10_byteAt 38 = .ok (.aload_n 0, 1) := by decide +kernel
theorem dX10_byteAt_39 : decode cX10_byteAt 39 = .ok (.getfield 161, 3) := by decide +kernel
theorem dX10_byteAt_42 : decode cX10_byteAt 42 = .ok (.iadd, 1) := by decide +kernel
theorem dX10_byteAt_43 : decode cX10_byteAt 43 = .ok (.iaload, 1) := by decide +kernel
theorem dX10_byteAt_44 : decode cX10_byteAt 44 = .ok (.goto 4, 3) := by decide +kernel
theorem dX10_byteAt_47 : decode cX10_byteAt 47 = .ok (.iconst 0, 1) := by decide +kernel
theorem dX10_byteAt_48 : decode cX10_byteAt 48 = .ok (.ireturn, 1) := by decide +kernel
theorem dX10_fails_0 : decode cX10_fails 0 = .ok (.aload_n 0, 1) := by decide +kernel
theorem dX10_fails_1 : decode cX10_fails 1 = .ok (.aload_n 0, 1) := by decide +kernel
theorem dX10_fails_2 : decode cX10_fails 2 = .ok (.getfield 170, 3) := by decide +kernel
theorem dX10_fails_5 : decode cX10_fails 5 = .ok (.ifCond .ge 10, 3) := by decide +kernel
theorem dX10_fails_8 : decode cX10_fails 8 = .ok (.aload_n 0, 1) := by decide +kernel
theorem dX10_fails_9 : decode cX10_fails 9 = .ok (.getfield 161, 3) := by decide +kernel
theorem dX10_fails_12 : decode cX10_fails 12 = .ok (.goto 7, 3) := by decide +kernel
theorem dX10_fails_15 : decode cX10_fails 15 = .ok (.aload_n 0, 1) := by decide +kernel
theorem dX10_fails_16 : decode cX10_fails 16 = .ok (.getfield 170, 3) := by decide +kernel
theorem dX10_fails_19 : decode cX10_fails 19 = .ok (.putfield 170, 3) := by decide +kernel
theorem dX10_fails_22 : decode cX10_fails 22 = .ok (.iconst 0, 1) := by decide +kernel
theorem dX10_fails_23 : decode cX10_fails 23 = .ok (.ireturn, 1) := by decide +kernel
theorem dX10_takes_0 : decode cX10_takes 0 = .ok (.aload_n 0, 1) := by decide +kernel
theorem dX10_takes_1 : decode cX10_takes 1 = .ok (.getfield 170, 3) := by decide +kernel
theorem dX10_takes_4 : decode cX10_takes 4 = .ok (.ifCond .ge 11, 3) := by decide +kernel
theorem dX10_takes_7 : decode cX10_takes 7 = .ok (.aload_n 0, 1) := by decide +kernel
theorem dX10_takes_8 : decode cX10_takes 8 = .ok (.invokevirtual 173, 3) := by decide +kernel
theorem dX10_takes_11 : decode cX10_takes 11 = .ok (.iload_n 1, 1) := by decide +kernel
theorem dX10_takes_12 : decode cX10_takes 12 = .ok (.if_icmp .eq 5, 3) := by decide +kernel
theorem dX10_takes_15 : decode cX10_takes 15 = .ok (.iconst 0, 1) := by decide +kernel
theorem dX10_takes_16 : decode cX10_takes 16 = .ok (.ireturn, 1) := by decide +kernel
theorem dX10_takes_17 : decode cX10_takes 17 = .ok (.aload_n 0, 1) := by decide +kernel
theorem dX10_takes_18 : decode cX10_takes 18 = .ok (.dup, 1) := by decide +kernel
theorem dX10_takes_19 : decode cX10_takes 19 = .ok (.getfield 161, 3) := by decide +kernel
theorem dX10_takes_22 : decode cX10_takes 22 = .ok (.iconst 1, 1) := by decide +kernel
theorem dX10_takes_23 : decode cX10_takes 23 = .ok (.iadd, 1) := by decide +kernel
theorem dX10_takes_24 : decode cX10_takes 24 = .ok (.putfield 161, 3) := by decide +kernel
theorem dX10_takes_27 : decode cX10_takes 27 = .ok (.iconst 1, 1) := by decide +kernel
theorem dX10_takes_28 : decode cX10_takes 28 = .ok (.ireturn, 1) := by decide +kernel
theorem dX10_either_0 : decode cX10_either 0 = .ok (.aload_n 0, 1) := by decide +kernel
theorem dX10_either_1 : decode cX10_either 1 = .ok (.invokevirtual 177, 3) := by decide +kernel
theorem dX10_either_4 : decode cX10_either 4 = .ok (.istore_n 1, 1) := by decide +kernel
theorem dX10_either_5 : decode cX10_either 5 = .ok (.aload_n 0, 1) := by decide +kernel
theorem dX10_either_6 : decode cX10_either 6 = .ok (.bipush 124, 2) := by decide +kernel
theorem dX10_either_8 : decode cX10_either 8 = .ok (.invokevirtual 180, 3) := by decide +kernel
theorem dX10_either_11 : decode cX10_either 11 = .ok (.ifCond .eq 25, 3) := by decide +kernel
theorem dX10_either_14 : decode cX10_either 14 = .ok (.aload_n 0, 1) := by decide +kernel
theorem dX10_either_15 : decode cX10_either 15 = .ok (.invokevirtual 177, 3) := by decide +kernel
theorem dX10_either_18 : decode cX10_either 18 = .ok (.istore_n 2, 1) := by decide +kernel
theorem dX10_either_19 : decode cX10_either 19 = .ok (.iload_n 1, 1) := by decide +kernel
theorem dX10_either_20 : decode cX10_either 20 = .ok (.ifCond .ne 7, 3) := by decide +kernel
theorem dX10_either_23 : decode cX10_either 23 = .ok (.iload_n 2, 1) := by decide +kernel
theorem dX10_either_24 : decode cX10_either 24 = .ok (.ifCond .eq 7, 3) := by decide +kernel
theorem dX10_either_27 : decode cX10_either 27 = .ok (.iconst 1, 1) := by decide +kernel
theorem dX10_either_28 : decode cX10_either 28 = .ok (.goto 4, 3) := by decide +kernel
theorem dX10_either_31 : decode cX10_either 31 = .ok (.iconst 0, 1) := by decide +kernel
theorem dX10_either_32 : decode cX10_either 32 = .ok (.istore_n 1, 1) := by decide +kernel
theorem dX10_either_33 : decode cX10_either 33 = .ok (.goto (-28), 3) := by decide +kernel
theorem dX10_either_36 : decode cX10_either 36 = .ok (.iload_n 1, 1) := by decide +kernel
theorem dX10_either_37 : decode cX10_either 37 = .ok (.ireturn, 1) := by decide +kernel
theorem dX10_both_0 : decode cX10_both 0 = .ok (.aload_n 0, 1) := by decide +kernel
theorem dX10_both_1 : decode cX10_both 1 = .ok (.invokevirtual 182, 3) := by decide +kernel
theorem dX10_both_4 : decode cX10_both 4 = .ok (.istore_n 1, 1) := by decide +kernel
theorem dX10_both_5 : decode cX10_both 5 = .ok (.aload_n 0, 1) := by decide +kernel
theorem dX10_both_6 : decode cX10_both 6 = .ok (.bipush 38, 2) := by decide +kernel
theorem dX10_both_8 : decode cX10_both 8 = .ok (.invokevirtual 180, 3) := by decide +kernel
theorem dX10_both_11 : decode cX10_both 11 = .ok (.ifCond .eq 25, 3) := by decide +kernel
theorem dX10_both_14 : decode cX10_both 14 = .ok (.aload_n 0, 1) := by decide +kernel
theorem dX10_both_15 : decode cX10_both 15 = .ok (.invokevirtual 182, 3) := by decide +kernel
theorem dX10_both_18 : decode cX10_both 18 = .ok (.istore_n 2, 1) := by decide +kernel
theorem dX10_both_19 : decode cX10_both 19 = .ok (.iload_n 1, 1) := by decide +kernel
theorem dX10_both_20 : decode cX10_both 20 = .ok (.ifCond .eq 11, 3) := by decide +kernel
theorem dX10_both_23 : decode cX10_both 23 = .ok (.iload_n 2, 1) := by decide +kernel
theorem dX10_both_24 : decode cX10_both 24 = .ok (.ifCond .eq 7, 3) := by decide +kernel
theorem dX10_both_27 : decode cX10_both 27 = .ok (.iconst 1, 1) := by decide +kernel
theorem dX10_both_28 : decode cX10_both 28 = .ok (.goto 4, 3) := by decide +kernel
theorem dX10_both_31 : decode cX10_both 31 = .ok (.iconst 0, 1) := by decide +kernel
theorem dX10_both_32 : decode cX10_both 32 = .ok (.istore_n 1, 1) := by decide +kernel
theorem dX10_both_33 : decode cX10_both 33 = .ok (.goto (-28), 3) := by decide +kernel
theorem dX10_both_36 : decode cX10_both 36 = .ok (.iload_n 1, 1) := by decide +kernel
theorem dX10_both_37 : decode cX10_both 37 = .ok (.ireturn, 1) := by decide +kernel
theorem dX10_compared_0 : decode cX10_compared 0 = .ok (.aload_n 0, 1) := by decide +kernel
theorem dX10_compared_1 : decode cX10_compared 1 = .ok (.invokevirtual 185, 3) := by decide +kernel
theorem dX10_compared_4 : decode cX10_compared 4 = .ok (.istore_n 1, 1) := by decide +kernel
theorem dX10_compared_5 : decode cX10_compared 5 = .ok (.aload_n 0, 1) := by decide +kernel
theorem dX10_compared_6 : decode cX10_compared 6 = .ok (.invokevirtual 173, 3) := by decide +kernel
theorem dX10_compared_9 : decode cX10_compared 9 = .ok (.istore_n 2, 1) := by decide +kernel
theorem dX10_compared_10 : decode cX10_compared 10 = .ok (.aload_n 0, 1) := by decide +kernel
theorem dX10_compared_11 : decode cX10_compared 11 = .ok (.getfield 170, 3) := by decide +kernel
theorem dX10_compared_14 : decode cX10_compared 14 = .ok (.ifCond .ge 21, 3) := by decide +kernel
theorem dX10_compared_17 : decode cX10_compared 17 = .ok (.iload_n 2, 1) := by decide +kernel
theorem dX10_compared_18 : decode cX10_compared 18 = .ok (.bipush 60, 2) := by decide +kernel
theorem dX10_compared_20 : decode cX10_compared 20 = .ok (.if_icmp .eq 17, 3) := by decide +kernel
theorem dX10_compared_23 : decode cX10_compared 23 = .ok (.iload_n 2, 1) := by decide +kernel
theorem dX10_compared_24 : decode cX10_compared 24 = .ok (.bipush 61, 2) := by decide +kernel
theorem dX10_compared_26 : decode cX10_compared 26 = .ok (.if_icmp .eq 11, 3) := by decide +kernel
theorem dX10_compared_29 : decode cX10_compared 29 = .ok (.iload_n 2, 1) := by decide +kernel
theorem dX10_compared_30 : decode cX10_compared 30 = .ok (.bipush 62, 2) := by decide +kernel
theorem dX10_compared_32 : decode cX10_compared 32 = .ok (.if_icmp .eq 5, 3) := by decide +kernel
theorem dX10_compared_35 : decode cX10_compared 35 = .ok (.iload_n 1, 1) := by decide +kernel
theorem dX10_compared_36 : decode cX10_compared 36 = .ok (.ireturn, 1) := by decide +kernel
theorem dX10_compared_37 : decode cX10_compared 37 = .ok (.aload_n 0, 1) := by decide +kernel
theorem dX10_compared_38 : decode cX10_compared 38 = .ok (.dup, 1) := by decide +kernel
theorem dX10_compared_39 : decode cX10_compared 39 = .ok (.getfield 161, 3) := by decide +kernel
theorem dX10_compared_42 : decode cX10_compared 42 = .ok (.iconst 1, 1) := by decide +kernel
theorem dX10_compared_43 : decode cX10_compared 43 = .ok (.iadd, 1) := by decide +kernel
theorem dX10_compared_44 : decode cX10_compared 44 = .ok (.putfield 161, 3) := by decide +kernel
theorem dX10_compared_47 : decode cX10_compared 47 = .ok (.aload_n 0, 1) := by decide +kernel
theorem dX10_compared_48 : decode cX10_compared 48 = .ok (.invokevirtual 185, 3) := by decide +kernel
theorem dX10_compared_51 : decode cX10_compared 51 = .ok (.istore_n 3, 1) := by decide +kernel
theorem dX10_compared_52 : decode cX10_compared 52 = .ok (.iload_n 2, 1) := by decide +kernel
theorem dX10_compared_53 : decode cX10_compared 53 = .ok (.bipush 60, 2) := by decide +kernel
theorem dX10_compared_55 : decode cX10_compared 55 = .ok (.if_icmp .ne 11, 3) := by decide +kernel
theorem dX10_compared_58 : decode cX10_compared 58 = .ok (.iload_n 1, 1) := by decide +kernel
theorem dX10_compared_59 : decode cX10_compared 59 = .ok (.iload_n 3, 1) := by decide +kernel
theorem dX10_compared_60 : decode cX10_compared 60 = .ok (.if_icmp .ge 29, 3) := by decide +kernel
theorem dX10_compared_63 : decode cX10_compared 63 = .ok (.goto 22, 3) := by decide +kernel
theorem dX10_compared_66 : decode cX10_compared 66 = .ok (.iload_n 2, 1) := by decide +kernel
theorem dX10_compared_67 : decode cX10_compared 67 = .ok (.bipush 61, 2) := by decide +kernel
theorem dX10_compared_69 : decode cX10_compared 69 = .ok (.if_icmp .ne 11, 3) := by decide +kernel
theorem dX10_compared_72 : decode cX10_compared 72 = .ok (.iload_n 1, 1) := by decide +kernel
theorem dX10_compared_73 : decode cX10_compared 73 = .ok (.iload_n 3, 1) := by decide +kernel
theorem dX10_compared_74 : decode cX10_compared 74 = .ok (.if_icmp .ne 15, 3) := by decide +kernel
theorem dX10_compared_77 : decode cX10_compared 77 = .ok (.goto 8, 3) := by decide +kernel
theorem dX10_compared_80 : decode cX10_compared 80 = .ok (.iload_n 1, 1) := by decide +kernel
theorem dX10_compared_81 : decode cX10_compared 81 = .ok (.iload_n 3, 1) := by decide +kernel
theorem dX10_compared_82 : decode cX10_compared 82 = .ok (.if_icmp .le 7, 3) := by decide +kernel
theorem dX10_compared_85 : decode cX10_compared 85 = .ok (.iconst 1, 1) := by decide +kernel
theorem dX10_compared_86 : decode cX10_compared 86 = .ok (.goto 4, 3) := by decide +kernel
theorem dX10_compared_89 : decode cX10_compared 89 = .ok (.iconst 0, 1) := by decide +kernel
theorem dX10_compared_90 : decode cX10_compared 90 = .ok (.ireturn, 1) := by decide +kernel
theorem dX10_sums_0 : decode cX10_sums 0 = .ok (.aload_n 0, 1) := by decide +kernel
theorem dX10_sums_1 : decode cX10_sums 1 = .ok (.invokevirtual 188, 3) := by decide +kernel
theorem dX10_sums_4 : decode cX10_sums 4 = .ok (.istore_n 1, 1) := by decide +kernel
theorem dX10_sums_5 : decode cX10_sums 5 = .ok (.aload_n 0, 1) := by decide +kernel
theorem dX10_sums_6 : decode cX10_sums 6 = .ok (.getfield 170, 3) := by decide +kernel
theorem dX10_sums_9 : decode cX10_sums 9 = .ok (.ifCond .ge 68, 3) := by decide +kernel
theorem dX10_sums_12 : decode cX10_sums 12 = .ok (.aload_n 0, 1) := by decide +kernel
theorem dX10_sums_13 : decode cX10_sums 13 = .ok (.invokevirtual 173, 3) := by decide +kernel
theorem dX10_sums_16 : decode cX10_sums 16 = .ok (.bipush 43, 2) := by decide +kernel
theorem dX10_sums_18 : decode cX10_sums 18 = .ok (.if_icmp .eq 12, 3) := by decide +kernel
theorem dX10_sums_21 : decode cX10_sums 21 = .ok (.aload_n 0, 1) := by decide +kernel
theorem dX10_sums_22 : decode cX10_sums 22 = .ok (.invokevirtual 173, 3) := by decide +kernel
theorem dX10_sums_25 : decode cX10_sums 25 = .ok (.bipush 45, 2) := by decide +kernel
theorem dX10_sums_27 : decode cX10_sums 27 = .ok (.if_icmp .ne 50, 3) := by decide +kernel
theorem dX10_sums_30 : decode cX10_sums 30 = .ok (.aload_n 0, 1) := by decide +kernel
theorem dX10_sums_31 : decode cX10_sums 31 = .ok (.invokevirtual 173, 3) := by decide +kernel
theorem dX10_sums_34 : decode cX10_sums 34 = .ok (.bipush 43, 2) := by decide +kernel
theorem dX10_sums_36 : decode cX10_sums 36 = .ok (.if_icmp .ne 7, 3) := by decide +kernel
theorem dX10_sums_39 : decode cX10_sums 39 = .ok (.iconst 1, 1) := by decide +kernel
theorem dX10_sums_40 : decode cX10_sums 40 = .ok (.goto 4, 3) := by decide +kernel
theorem dX10_sums_43 : decode cX10_sums 43 = .ok (.iconst 0, 1) := by decide +kernel
theorem dX10_sums_44 : decode cX10_sums 44 = .ok (.istore_n 2, 1) := by decide +kernel
theorem dX10_sums_45 : decode cX10_sums 45 = .ok (.aload_n 0, 1) := by decide +kernel
theorem dX10_sums_46 : decode cX10_sums 46 = .ok (.dup, 1) := by decide +kernel
theorem dX10_sums_47 : decode cX10_sums 47 = .ok (.getfield 161, 3) := by decide +kernel
theorem dX10_sums_50 : decode cX10_sums 50 = .ok (.iconst 1, 1) := by decide +kernel
theorem dX10_sums_51 : decode cX10_sums 51 = .ok (.iadd, 1) := by decide +kernel
theorem dX10_sums_52 : decode cX10_sums 52 = .ok (.putfield 161, 3) := by decide +kernel
theorem dX10_sums_55 : decode cX10_sums 55 = .ok (.aload_n 0, 1) := by decide +kernel
theorem dX10_sums_56 : decode cX10_sums 56 = .ok (.invokevirtual 188, 3) := by decide +kernel
theorem dX10_sums_59 : decode cX10_sums 59 = .ok (.istore_n 3, 1) := by decide +kernel
theorem dX10_sums_60 : decode cX10_sums 60 = .ok (.iload_n 2, 1) := by decide +kernel
theorem dX10_sums_61 : decode cX10_sums 61 = .ok (.ifCond .eq 9, 3) := by decide +kernel
theorem dX10_sums_64 : decode cX10_sums 64 = .ok (.iload_n 1, 1) := by decide +kernel
theorem dX10_sums_65 : decode cX10_sums 65 = .ok (.iload_n 3, 1) := by decide +kernel
theorem dX10_sums_66 : decode cX10_sums 66 = .ok (.iadd, 1) := by decide +kernel
theorem dX10_sums_67 : decode cX10_sums 67 = .ok (.goto 6, 3) := by decide +kernel
theorem dX10_sums_70 : decode cX10_sums 70 = .ok (.iload_n 1, 1) := by decide +kernel
theorem dX10_sums_71 : decode cX10_sums 71 = .ok (.iload_n 3, 1) := by decide +kernel
theorem dX10_sums_72 : decode cX10_sums 72 = .ok (.isub, 1) := by decide +kernel
theorem dX10_sums_73 : decode cX10_sums 73 = .ok (.istore_n 1, 1) := by decide +kernel
theorem dX10_sums_74 : decode cX10_sums 74 = .ok (.goto (-69), 3) := by decide +kernel
theorem dX10_sums_77 : decode cX10_sums 77 = .ok (.iload_n 1, 1) := by decide +kernel
theorem dX10_sums_78 : decode cX10_sums 78 = .ok (.ireturn, 1) := by decide +kernel
theorem dX10_product_0 : decode cX10_product 0 = .ok (.aload_n 0, 1) := by decide +kernel
theorem dX10_product_1 : decode cX10_product 1 = .ok (.invokevirtual 191, 3) := by decide +kernel
theorem dX10_product_4 : decode cX10_product 4 = .ok (.istore_n 1, 1) := by decide +kernel
theorem dX10_product_5 : decode cX10_product 5 = .ok (.aload_n 0, 1) := by decide +kernel
theorem dX10_product_6 : decode cX10_product 6 = .ok (.invokevirtual 173, 3) := by decide +kernel
theorem dX10_product_9 : decode cX10_product 9 = .ok (.istore_n 2, 1) := by decide +kernel
theorem dX10_product_10 : decode cX10_product 10 = .ok (.aload_n 0, 1) := by decide +kernel
theorem dX10_product_11 : decode cX10_product 11 = .ok (.getfield 170, 3) := by decide +kernel
theorem dX10_product_14 : decode cX10_product 14 = .ok (.ifCond .ge 80, 3) := by decide +kernel
theorem dX10_product_17 : decode cX10_product 17 = .ok (.iload_n 2, 1) := by decide +kernel
theorem dX10_product_18 : decode cX10_product 18 = .ok (.bipush 42, 2) := by decide +kernel
theorem dX10_product_20 : decode cX10_product 20 = .ok (.if_icmp .eq 15, 3) := by decide +kernel
theorem dX10_product_23 : decode cX10_product 23 = .ok (.iload_n 2, 1) := by decide +kernel
theorem dX10_product_24 : decode cX10_product 24 = .ok (.bipush 47, 2) := by decide +kernel
theorem dX10_product_26 : decode cX10_product 26 = .ok (.if_icmp .eq 9, 3) := by decide +kernel
theorem dX10_product_29 : decode cX10_product 29 = .ok (.iload_n 2, 1) := by decide +kernel
theorem dX10_product_30 : decode cX10_product 30 = .ok (.bipush 37, 2) := by decide +kernel
theorem dX10_product_32 : decode cX10_product 32 = .ok (.if_icmp .ne 62, 3) := by decide +kernel
theorem dX10_product_35 : decode cX10_product 35 = .ok (.aload_n 0, 1) := by decide +kernel
theorem dX10_product_36 : decode cX10_product 36 = .ok (.dup, 1) := by decide +kernel
theorem dX10_product_37 : decode cX10_product 37 = .ok (.getfield 161, 3) := by decide +kernel
theorem dX10_product_40 : decode cX10_product 40 = .ok (.iconst 1, 1) := by decide +kernel
theorem dX10_product_41 : decode cX10_product 41 = .ok (.iadd, 1) := by decide +kernel
theorem dX10_product_42 : decode cX10_product 42 = .ok (.putfield 161, 3) := by decide +kernel
theorem dX10_product_45 : decode cX10_product 45 = .ok (.aload_n 0, 1) := by decide +kernel
theorem dX10_product_46 : decode cX10_product 46 = .ok (.invokevirtual 191, 3) := by decide +kernel
theorem dX10_product_49 : decode cX10_product 49 = .ok (.istore_n 3, 1) := by decide +kernel
theorem dX10_product_50 : decode cX10_product 50 = .ok (.iload_n 2, 1) := by decide +kernel
theorem dX10_product_51 : decode cX10_product 51 = .ok (.bipush 42, 2) := by decide +kernel
theorem dX10_product_53 : decode cX10_product 53 = .ok (.if_icmp .ne 9, 3) := by decide +kernel
theorem dX10_product_56 : decode cX10_product 56 = .ok (.iload_n 1, 1) := by decide +kernel
theorem dX10_product_57 : decode cX10_product 57 = .ok (.iload_n 3, 1) := by decide +kernel
theorem dX10_product_58 : decode cX10_product 58 = .ok (.imul, 1) := by decide +kernel
theorem dX10_product_59 : decode cX10_product 59 = .ok (.goto 26, 3) := by decide +kernel
theorem dX10_product_62 : decode cX10_product 62 = .ok (.iload_n 3, 1) := by decide +kernel
theorem dX10_product_63 : decode cX10_product 63 = .ok (.ifCond .ne 7, 3) := by decide +kernel
theorem dX10_product_66 : decode cX10_product 66 = .ok (.iconst 0, 1) := by decide +kernel
theorem dX10_product_67 : decode cX10_product 67 = .ok (.goto 18, 3) := by decide +kernel
theorem dX10_product_70 : decode cX10_product 70 = .ok (.iload_n 2, 1) := by decide +kernel
theorem dX10_product_71 : decode cX10_product 71 = .ok (.bipush 47, 2) := by decide +kernel
theorem dX10_product_73 : decode cX10_product 73 = .ok (.if_icmp .ne 9, 3) := by decide +kernel
theorem dX10_product_76 : decode cX10_product 76 = .ok (.iload_n 1, 1) := by decide +kernel
theorem dX10_product_77 : decode cX10_product 77 = .ok (.iload_n 3, 1) := by decide +kernel
theorem dX10_product_78 : decode cX10_product 78 = .ok (.idiv, 1) := by decide +kernel
theorem dX10_product_79 : decode cX10_product 79 = .ok (.goto 6, 3) := by decide +kernel
theorem dX10_product_82 : decode cX10_product 82 = .ok (.iload_n 1, 1) := by decide +kernel
theorem dX10_product_83 : decode cX10_product 83 = .ok (.iload_n 3, 1) := by decide +kernel
theorem dX10_product_84 : decode cX10_product 84 = .ok (.irem, 1) := by decide +kernel
theorem dX10_product_85 : decode cX10_product 85 = .ok (.istore_n 1, 1) := by decide +kernel
theorem dX10_product_86 : decode cX10_product 86 = .ok (.aload_n 0, 1) := by decide +kernel
theorem dX10_product_87 : decode cX10_product 87 = .ok (.invokevirtual 173, 3) := by decide +kernel
theorem dX10_product_90 : decode cX10_product 90 = .ok (.istore_n 2, 1) := by decide +kernel
theorem dX10_product_91 : decode cX10_product 91 = .ok (.goto (-81), 3) := by decide +kernel
theorem dX10_product_94 : decode cX10_product 94 = .ok (.iload_n 1, 1) := by decide +kernel
theorem dX10_product_95 : decode cX10_product 95 = .ok (.ireturn, 1) := by decide +kernel
theorem dX10_nameOf_0 : decode cX10_nameOf 0 = .ok (.iload_n 0, 1) := by decide +kernel
theorem dX10_nameOf_1 : decode cX10_nameOf 1 = .ok (.tableswitch 106 98 116 #[101, 95, 106, 106, 106, 106, 106, 106, 106, 93, 106, 106, 103, 106, 97, 106, 106, 99, 91], 91) := by decide +kernel
theorem dX10_nameOf_92 : decode cX10_nameOf 92 = .ok (.iconst 0, 1) := by decide +kernel
theorem dX10_nameOf_93 : decode cX10_nameOf 93 = .ok (.ireturn, 1) := by decide +kernel
theorem dX10_nameOf_94 : decode cX10_nameOf 94 = .ok (.iconst 1, 1) := by decide +kernel
theorem dX10_nameOf_95 : decode cX10_nameOf 95 = .ok (.ireturn, 1) := by decide +kernel
theorem dX10_nameOf_96 : decode cX10_nameOf 96 = .ok (.iconst 2, 1) := by decide +kernel
theorem dX10_nameOf_97 : decode cX10_nameOf 97 = .ok (.ireturn, 1) := by decide +kernel
theorem dX10_nameOf_98 : decode cX10_nameOf 98 = .ok (.iconst 3, 1) := by decide +kernel
theorem dX10_nameOf_99 : decode cX10_nameOf 99 = .ok (.ireturn, 1) := by decide +kernel
theorem dX10_nameOf_100 : decode cX10_nameOf 100 = .ok (.iconst 4, 1) := by decide +kernel
theorem dX10_nameOf_101 : decode cX10_nameOf 101 = .ok (.ireturn, 1) := by decide +kernel
theorem dX10_nameOf_102 : decode cX10_nameOf 102 = .ok (.iconst 5, 1) := by decide +kernel
theorem dX10_nameOf_103 : decode cX10_nameOf 103 = .ok (.ireturn, 1) := by decide +kernel
theorem dX10_nameOf_104 : decode cX10_nameOf 104 = .ok (.bipush 6, 2) := by decide +kernel
theorem dX10_nameOf_106 : decode cX10_nameOf 106 = .ok (.ireturn, 1) := by decide +kernel
theorem dX10_nameOf_107 : decode cX10_nameOf 107 = .ok (.iconst (-1), 1) := by decide +kernel
theorem dX10_nameOf_108 : decode cX10_nameOf 108 = .ok (.ireturn, 1) := by decide +kernel
theorem dX10_one_0 : decode cX10_one 0 = .ok (.aload_n 0, 1) := by decide +kernel
theorem dX10_one_1 : decode cX10_one 1 = .ok (.getfield 170, 3) := by decide +kernel
theorem dX10_one_4 : decode cX10_one 4 = .ok (.ifCond .lt 5, 3) := by decide +kernel
theorem dX10_one_7 : decode cX10_one 7 = .ok (.iconst 0, 1) := by decide +kernel
theorem dX10_one_8 : decode cX10_one 8 = .ok (.ireturn, 1) := by decide +kernel
theorem dX10_one_9 : decode cX10_one 9 = .ok (.aload_n 0, 1) := by decide +kernel
theorem dX10_one_10 : decode cX10_one 10 = .ok (.invokevirtual 173, 3) := by decide +kernel
theorem dX10_one_13 : decode cX10_one 13 = .ok (.istore_n 1, 1) := by decide +kernel
theorem dX10_one_14 : decode cX10_one 14 = .ok (.iload_n 1, 1) := by decide +kernel
theorem dX10_one_15 : decode cX10_one 15 = .ok (.bipush 33, 2) := by decide +kernel
theorem dX10_one_17 : decode cX10_one 17 = .ok (.if_icmp .eq 15, 3) := by decide +kernel
theorem dX10_one_20 : decode cX10_one 20 = .ok (.iload_n 1, 1) := by decide +kernel
theorem dX10_one_21 : decode cX10_one 21 = .ok (.bipush 45, 2) := by decide +kernel
theorem dX10_one_23 : decode cX10_one 23 = .ok (.if_icmp .eq 9, 3) := by decide +kernel
theorem dX10_one_26 : decode cX10_one 26 = .ok (.iload_n 1, 1) := by decide +kernel
theorem dX10_one_27 : decode cX10_one 27 = .ok (.bipush 40, 2) := by decide +kernel
theorem dX10_one_29 : decode cX10_one 29 = .ok (.if_icmp .ne 116, 3) := by decide +kernel
theorem dX10_one_32 : decode cX10_one 32 = .ok (.aload_n 0, 1) := by decide +kernel
theorem dX10_one_33 : decode cX10_one 33 = .ok (.getfield 194, 3) := by decide +kernel
theorem dX10_one_36 : decode cX10_one 36 = .ok (.bipush 6, 2) := by decide +kernel
theorem dX10_one_38 : decode cX10_one 38 = .ok (.if_icmp .ne 8, 3) := by decide +kernel
theorem dX10_one_41 : decode cX10_one 41 = .ok (.aload_n 0, 1) := by decide +kernel
theorem dX10_one_42 : decode cX10_one 42 = .ok (.invokevirtual 197, 3) := by decide +kernel
theorem dX10_one_45 : decode cX10_one 45 = .ok (.ireturn, 1) := by decide +kernel
theorem dX10_one_46 : decode cX10_one 46 = .ok (.aload_n 0, 1) := by decide +kernel
theorem dX10_one_47 : decode cX10_one 47 = .ok (.dup, 1) := by decide +kernel
theorem dX10_one_48 : decode cX10_one 48 = .ok (.getfield 194, 3) := by decide +kernel
theorem dX10_one_51 : decode cX10_one 51 = .ok (.iconst 1, 1) := by decide +kernel
theorem dX10_one_52 : decode cX10_one 52 = .ok (.iadd, 1) := by decide +kernel
theorem dX10_one_53 : decode cX10_one 53 = .ok (.putfield 194, 3) := by decide +kernel
theorem dX10_one_56 : decode cX10_one 56 = .ok (.aload_n 0, 1) := by decide +kernel
theorem dX10_one_57 : decode cX10_one 57 = .ok (.dup, 1) := by decide +kernel
theorem dX10_one_58 : decode cX10_one 58 = .ok (.getfield 161, 3) := by decide +kernel
theorem dX10_one_61 : decode cX10_one 61 = .ok (.iconst 1, 1) := by decide +kernel
theorem dX10_one_62 : decode cX10_one 62 = .ok (.iadd, 1) := by decide +kernel
theorem dX10_one_63 : decode cX10_one 63 = .ok (.putfield 161, 3) := by decide +kernel
theorem dX10_one_66 : decode cX10_one 66 = .ok (.iload_n 1, 1) := by decide +kernel
theorem dX10_one_67 : decode cX10_one 67 = .ok (.bipush 40, 2) := by decide +kernel
theorem dX10_one_69 : decode cX10_one 69 = .ok (.if_icmp .ne 10, 3) := by decide +kernel
theorem dX10_one_72 : decode cX10_one 72 = .ok (.aload_n 0, 1) := by decide +kernel
theorem dX10_one_73 : decode cX10_one 73 = .ok (.invokevirtual 200, 3) := by decide +kernel
theorem dX10_one_76 : decode cX10_one 76 = .ok (.goto 7, 3) := by decide +kernel
theorem dX10_one_79 : decode cX10_one 79 = .ok (.aload_n 0, 1) := by decide +kernel
theorem dX10_one_80 : decode cX10_one 80 = .ok (.invokevirtual 191, 3) := by decide +kernel
theorem dX10_one_83 : decode cX10_one 83 = .ok (.istore_n 2, 1) := by decide +kernel
theorem dX10_one_84 : decode cX10_one 84 = .ok (.iload_n 1, 1) := by decide +kernel
theorem dX10_one_85 : decode cX10_one 85 = .ok (.bipush 40, 2) := by decide +kernel
theorem dX10_one_87 : decode cX10_one 87 = .ok (.if_icmp .ne 17, 3) := by decide +kernel
theorem dX10_one_90 : decode cX10_one 90 = .ok (.aload_n 0, 1) := by decide +kernel
theorem dX10_one_91 : decode cX10_one 91 = .ok (.bipush 41, 2) := by decide +kernel
theorem dX10_one_93 : decode cX10_one 93 = .ok (.invokevirtual 180, 3) := by decide +kernel
theorem dX10_one_96 : decode cX10_one 96 = .ok (.ifCond .ne 8, 3) := by decide +kernel
theorem dX10_one_99 : decode cX10_one 99 = .ok (.aload_n 0, 1) := by decide +kernel
theorem dX10_one_100 : decode cX10_one 100 = .ok (.invokevirtual 197, 3) := by decide +kernel
theorem dX10_one_103 : decode cX10_one 103 = .ok (.ireturn, 1) := by decide +kernel
theorem dX10_one_104 : decode cX10_one 104 = .ok (.aload_n 0, 1) := by decide +kernel
theorem dX10_one_105 : decode cX10_one 105 = .ok (.dup, 1) := by decide +kernel
theorem dX10_one_106 : decode cX10_one 106 = .ok (.getfield 194, 3) := by decide +kernel
theorem dX10_one_109 : decode cX10_one 109 = .ok (.iconst 1, 1) := by decide +kernel
theorem dX10_one_110 : decode cX10_one 110 = .ok (.isub, 1) := by decide +kernel
theorem dX10_one_111 : decode cX10_one 111 = .ok (.putfield 194, 3) := by decide +kernel
theorem dX10_one_114 : decode cX10_one 114 = .ok (.iload_n 1, 1) := by decide +kernel
theorem dX10_one_115 : decode cX10_one 115 = .ok (.bipush 40, 2) := by decide +kernel
theorem dX10_one_117 : decode cX10_one 117 = .ok (.if_icmp .ne 7, 3) := by decide +kernel
theorem dX10_one_120 : decode cX10_one 120 = .ok (.iload_n 2, 1) := by decide +kernel
theorem dX10_one_121 : decode cX10_one 121 = .ok (.goto 23, 3) := by decide +kernel
theorem dX10_one_124 : decode cX10_one 124 = .ok (.iload_n 1, 1) := by decide +kernel
theorem dX10_one_125 : decode cX10_one 125 = .ok (.bipush 45, 2) := by decide +kernel
theorem dX10_one_127 : decode cX10_one 127 = .ok (.if_icmp .ne 8, 3) := by decide +kernel
theorem dX10_one_130 : decode cX10_one 130 = .ok (.iload_n 2, 1) := by decide +kernel
theorem dX10_one_131 : decode cX10_one 131 = .ok (.ineg, 1) := by decide +kernel
theorem dX10_one_132 : decode cX10_one 132 = .ok (.goto 12, 3) := by decide +kernel
theorem dX10_one_135 : decode cX10_one 135 = .ok (.iload_n 2, 1) := by decide +kernel
theorem dX10_one_136 : decode cX10_one 136 = .ok (.ifCond .ne 7, 3) := by decide +kernel
theorem dX10_one_139 : decode cX10_one 139 = .ok (.iconst 1, 1) := by decide +kernel
theorem dX10_one_140 : decode cX10_one 140 = .ok (.goto 4, 3) := by decide +kernel
theorem dX10_one_143 : decode cX10_one 143 = .ok (.iconst 0, 1) := by decide +kernel
theorem dX10_one_144 : decode cX10_one 144 = .ok (.ireturn, 1) := by decide +kernel
theorem dX10_one_145 : decode cX10_one 145 = .ok (.iload_n 1, 1) := by decide +kernel
theorem dX10_one_146 : decode cX10_one 146 = .ok (.invokestatic 203, 3) := by decide +kernel
theorem dX10_one_149 : decode cX10_one 149 = .ok (.istore_n 2, 1) := by decide +kernel
theorem dX10_one_150 : decode cX10_one 150 = .ok (.iload_n 2, 1) := by decide +kernel
theorem dX10_one_151 : decode cX10_one 151 = .ok (.ifCond .lt 20, 3) := by decide +kernel
theorem dX10_one_154 : decode cX10_one 154 = .ok (.aload_n 0, 1) := by decide +kernel
theorem dX10_one_155 : decode cX10_one 155 = .ok (.dup, 1) := by decide +kernel
theorem dX10_one_156 : decode cX10_one 156 = .ok (.getfield 161, 3) := by decide +kernel
theorem dX10_one_159 : decode cX10_one 159 = .ok (.iconst 1, 1) := by decide +kernel
theorem dX10_one_160 : decode cX10_one 160 = .ok (.iadd, 1) := by decide +kernel
theorem dX10_one_161 : decode cX10_one 161 = .ok (.putfield 161, 3) := by decide +kernel
theorem dX10_one_164 : decode cX10_one 164 = .ok (.aload_n 0, 1) := by decide +kernel
theorem dX10_one_165 : decode cX10_one 165 = .ok (.getfield 46, 3) := by decide +kernel
theorem dX10_one_168 : decode cX10_one 168 = .ok (.iload_n 2, 1) := by decide +kernel
theorem dX10_one_169 : decode cX10_one 169 = .ok (.iaload, 1) := by decide +kernel
theorem dX10_one_170 : decode cX10_one 170 = .ok (.ireturn, 1) := by decide +kernel
theorem dX10_one_171 : decode cX10_one 171 = .ok (.iconst 0, 1) := by decide +kernel
theorem dX10_one_172 : decode cX10_one 172 = .ok (.istore_n 3, 1) := by decide +kernel
theorem dX10_one_173 : decode cX10_one 173 = .ok (.iconst 0, 1) := by decide +kernel
theorem dX10_one_174 : decode cX10_one 174 = .ok (.istore 4, 2) := by decide +kernel
theorem dX10_one_176 : decode cX10_one 176 = .ok (.iload 4, 2) := by decide +kernel
theorem dX10_one_178 : decode cX10_one 178 = .ok (.iconst 4, 1) := by decide +kernel
theorem dX10_one_179 : decode cX10_one 179 = .ok (.if_icmp .ge 50, 3) := by decide +kernel
theorem dX10_one_182 : decode cX10_one 182 = .ok (.aload_n 0, 1) := by decide +kernel
theorem dX10_one_183 : decode cX10_one 183 = .ok (.invokevirtual 173, 3) := by decide +kernel
theorem dX10_one_186 : decode cX10_one 186 = .ok (.bipush 48, 2) := by decide +kernel
theorem dX10_one_188 : decode cX10_one 188 = .ok (.if_icmp .lt 41, 3) := by decide +kernel
theorem dX10_one_191 : decode cX10_one 191 = .ok (.aload_n 0, 1) := by decide +kernel
theorem dX10_one_192 : decode cX10_one 192 = .ok (.invokevirtual 173, 3) := by decide +kernel
theorem dX10_one_195 : decode cX10_one 195 = .ok (.bipush 57, 2) := by decide +kernel
theorem dX10_one_197 : decode cX10_one 197 = .ok (.if_icmp .gt 32, 3) := by decide +kernel
theorem dX10_one_200 : decode cX10_one 200 = .ok (.bipush 10, 2) := by decide +kernel
theorem dX10_one_202 : decode cX10_one 202 = .ok (.iload_n 3, 1) := by decide +kernel
theorem dX10_one_203 : decode cX10_one 203 = .ok (.imul, 1) := by decide +kernel
theorem dX10_one_204 : decode cX10_one 204 = .ok (.aload_n 0, 1) := by decide +kernel
theorem dX10_one_205 : decode cX10_one 205 = .ok (.invokevirtual 173, 3) := by decide +kernel
theorem dX10_one_208 : decode cX10_one 208 = .ok (.iadd, 1) := by decide +kernel
theorem dX10_one_209 : decode cX10_one 209 = .ok (.bipush 48, 2) := by decide +kernel
theorem dX10_one_211 : decode cX10_one 211 = .ok (.isub, 1) := by decide +kernel
theorem dX10_one_212 : decode cX10_one 212 = .ok (.istore_n 3, 1) := by decide +kernel
theorem dX10_one_213 : decode cX10_one 213 = .ok (.iinc 4 1, 3) := by decide +kernel
theorem dX10_one_216 : decode cX10_one 216 = .ok (.aload_n 0, 1) := by decide +kernel
theorem dX10_one_217 : decode cX10_one 217 = .ok (.dup, 1) := by decide +kernel
theorem dX10_one_218 : decode cX10_one 218 = .ok (.getfield 161, 3) := by decide +kernel
theorem dX10_one_221 : decode cX10_one 221 = .ok (.iconst 1, 1) := by decide +kernel
theorem dX10_one_222 : decode cX10_one 222 = .ok (.iadd, 1) := by decide +kernel
theorem dX10_one_223 : decode cX10_one 223 = .ok (.putfield 161, 3) := by decide +kernel
theorem dX10_one_226 : decode cX10_one 226 = .ok (.goto (-50), 3) := by decide +kernel
theorem dX10_one_229 : decode cX10_one 229 = .ok (.iload 4, 2) := by decide +kernel
theorem dX10_one_231 : decode cX10_one 231 = .ok (.ifCond .ne 10, 3) := by decide +kernel
theorem dX10_one_234 : decode cX10_one 234 = .ok (.aload_n 0, 1) := by decide +kernel
theorem dX10_one_235 : decode cX10_one 235 = .ok (.invokevirtual 197, 3) := by decide +kernel
theorem dX10_one_238 : decode cX10_one 238 = .ok (.goto 4, 3) := by decide +kernel
theorem dX10_one_241 : decode cX10_one 241 = .ok (.iload_n 3, 1) := by decide +kernel
theorem dX10_one_242 : decode cX10_one 242 = .ok (.ireturn, 1) := by decide +kernel
theorem dX10_workOut_0 : decode cX10_workOut 0 = .ok (.aload_n 0, 1) := by decide +kernel
theorem dX10_workOut_1 : decode cX10_workOut 1 = .ok (.iload_n 1, 1) := by decide +kernel
theorem dX10_workOut_2 : decode cX10_workOut 2 = .ok (.putfield 167, 3) := by decide +kernel
theorem dX10_workOut_5 : decode cX10_workOut 5 = .ok (.aload_n 0, 1) := by decide +kernel
theorem dX10_workOut_6 : decode cX10_workOut 6 = .ok (.iconst 0, 1) := by decide +kernel
theorem dX10_workOut_7 : decode cX10_workOut 7 = .ok (.putfield 161, 3) := by decide +kernel
theorem dX10_workOut_10 : decode cX10_workOut 10 = .ok (.aload_n 0, 1) := by decide +kernel
theorem dX10_workOut_11 : decode cX10_workOut 11 = .ok (.iload_n 2, 1) := by decide +kernel
theorem dX10_workOut_12 : decode cX10_workOut 12 = .ok (.putfield 164, 3) := by decide +kernel
theorem dX10_workOut_15 : decode cX10_workOut 15 = .ok (.aload_n 0, 1) := by decide +kernel
theorem dX10_workOut_16 : decode cX10_workOut 16 = .ok (.iconst (-1), 1) := by decide +kernel
theorem dX10_workOut_17 : decode cX10_workOut 17 = .ok (.putfield 170, 3) := by decide +kernel
theorem dX10_workOut_20 : decode cX10_workOut 20 = .ok (.aload_n 0, 1) := by decide +kernel
theorem dX10_workOut_21 : decode cX10_workOut 21 = .ok (.iconst 0, 1) := by decide +kernel
theorem dX10_workOut_22 : decode cX10_workOut 22 = .ok (.putfield 194, 3) := by decide +kernel
theorem dX10_workOut_25 : decode cX10_workOut 25 = .ok (.iconst 0, 1) := by decide +kernel
theorem dX10_workOut_26 : decode cX10_workOut 26 = .ok (.istore_n 3, 1) := by decide +kernel
theorem dX10_workOut_27 : decode cX10_workOut 27 = .ok (.iconst 0, 1) := by decide +kernel
theorem dX10_workOut_28 : decode cX10_workOut 28 = .ok (.istore 4, 2) := by decide +kernel
theorem dX10_workOut_30 : decode cX10_workOut 30 = .ok (.iconst 1, 1) := by decide +kernel
theorem dX10_workOut_31 : decode cX10_workOut 31 = .ok (.istore 5, 2) := by decide +kernel
theorem dX10_workOut_33 : decode cX10_workOut 33 = .ok (.iload 5, 2) := by decide +kernel
theorem dX10_workOut_35 : decode cX10_workOut 35 = .ok (.ifCond .eq 72, 3) := by decide +kernel
theorem dX10_workOut_38 : decode cX10_workOut 38 = .ok (.aload_n 0, 1) := by decide +kernel
theorem dX10_workOut_39 : decode cX10_workOut 39 = .ok (.invokevirtual 200, 3) := by decide +kernel
theorem dX10_workOut_42 : decode cX10_workOut 42 = .ok (.istore 6, 2) := by decide +kernel
theorem dX10_workOut_44 : decode cX10_workOut 44 = .ok (.iconst 1, 1) := by decide +kernel
theorem dX10_workOut_45 : decode cX10_workOut 45 = .ok (.istore 7, 2) := by decide +kernel
theorem dX10_workOut_47 : decode cX10_workOut 47 = .ok (.aload_n 0, 1) := by decide +kernel
theorem dX10_workOut_48 : decode cX10_workOut 48 = .ok (.bipush 63, 2) := by decide +kernel
theorem dX10_workOut_50 : decode cX10_workOut 50 = .ok (.invokevirtual 180, 3) := by decide +kernel
theorem dX10_workOut_53 : decode cX10_workOut 53 = .ok (.ifCond .eq 21, 3) := by decide +kernel
theorem dX10_workOut_56 : decode cX10_workOut 56 = .ok (.iload 6, 2) := by decide +kernel
theorem dX10_workOut_58 : decode cX10_workOut 58 = .ok (.ifCond .eq 7, 3) := by decide +kernel
theorem dX10_workOut_61 : decode cX10_workOut 61 = .ok (.iconst 1, 1) := by decide +kernel
theorem dX10_workOut_62 : decode cX10_workOut 62 = .ok (.goto 4, 3) := by decide +kernel
theorem dX10_workOut_65 : decode cX10_workOut 65 = .ok (.iconst 0, 1) := by decide +kernel
theorem dX10_workOut_66 : decode cX10_workOut 66 = .ok (.istore 7, 2) := by decide +kernel
theorem dX10_workOut_68 : decode cX10_workOut 68 = .ok (.aload_n 0, 1) := by decide +kernel
theorem dX10_workOut_69 : decode cX10_workOut 69 = .ok (.invokevirtual 200, 3) := by decide +kernel
theorem dX10_workOut_72 : decode cX10_workOut 72 = .ok (.istore 6, 2) := by decide +kernel
theorem dX10_workOut_74 : decode cX10_workOut 74 = .ok (.aload_n 0, 1) := by decide +kernel
theorem dX10_workOut_75 : decode cX10_workOut 75 = .ok (.getfield 170, 3) := by decide +kernel
theorem dX10_workOut_78 : decode cX10_workOut 78 = .ok (.ifCond .ge 18, 3) := by decide +kernel
theorem dX10_workOut_81 : decode cX10_workOut 81 = .ok (.iload 7, 2) := by decide +kernel
theorem dX10_workOut_83 : decode cX10_workOut 83 = .ok (.ifCond .eq 13, 3) := by decide +kernel
theorem dX10_workOut_86 : decode cX10_workOut 86 = .ok (.iload_n 3, 1) := by decide +kernel
theorem dX10_workOut_87 : decode cX10_workOut 87 = .ok (.ifCond .ne 9, 3) := by decide +kernel
theorem dX10_workOut_90 : decode cX10_workOut 90 = .ok (.iconst 1, 1) := by decide +kernel
theorem dX10_workOut_91 : decode cX10_workOut 91 = .ok (.istore_n 3, 1) := by decide +kernel
theorem dX10_workOut_92 : decode cX10_workOut 92 = .ok (.iload 6, 2) := by decide +kernel
theorem dX10_workOut_94 : decode cX10_workOut 94 = .ok (.istore 4, 2) := by decide +kernel
theorem dX10_workOut_96 : decode cX10_workOut 96 = .ok (.aload_n 0, 1) := by decide +kernel
theorem dX10_workOut_97 : decode cX10_workOut 97 = .ok (.bipush 59, 2) := by decide +kernel
theorem dX10_workOut_99 : decode cX10_workOut 99 = .ok (.invokevirtual 180, 3) := by decide +kernel
theorem dX10_workOut_102 : decode cX10_workOut 102 = .ok (.istore 5, 2) := by decide +kernel
theorem dX10_workOut_104 : decode cX10_workOut 104 = .ok (.goto (-71), 3) := by decide +kernel
theorem dX10_workOut_107 : decode cX10_workOut 107 = .ok (.aload_n 0, 1) := by decide +kernel
theorem dX10_workOut_108 : decode cX10_workOut 108 = .ok (.getfield 170, 3) := by decide +kernel
theorem dX10_workOut_111 : decode cX10_workOut 111 = .ok (.ifCond .ge 19, 3) := by decide +kernel
theorem dX10_workOut_114 : decode cX10_workOut 114 = .ok (.aload_n 0, 1) := by decide +kernel
theorem dX10_workOut_115 : decode cX10_workOut 115 = .ok (.getfield 161, 3) := by decide +kernel
theorem dX10_workOut_118 : decode cX10_workOut 118 = .ok (.aload_n 0, 1) := by decide +kernel
theorem dX10_workOut_119 : decode cX10_workOut 119 = .ok (.getfield 164, 3) := by decide +kernel
theorem dX10_workOut_122 : decode cX10_workOut 122 = .ok (.if_icmp .ge 8, 3) := by decide +kernel
theorem dX10_workOut_125 : decode cX10_workOut 125 = .ok (.aload_n 0, 1) := by decide +kernel
theorem dX10_workOut_126 : decode cX10_workOut 126 = .ok (.invokevirtual 197, 3) := by decide +kernel
theorem dX10_workOut_129 : decode cX10_workOut 129 = .ok (.ireturn, 1) := by decide +kernel
theorem dX10_workOut_130 : decode cX10_workOut 130 = .ok (.iload 4, 2) := by decide +kernel
theorem dX10_workOut_132 : decode cX10_workOut 132 = .ok (.ireturn, 1) := by decide +kernel
theorem dX10_want_0 : decode cX10_want 0 = .ok (.aload_n 0, 1) := by decide +kernel
theorem dX10_want_1 : decode cX10_want 1 = .ok (.getfield 141, 3) := by decide +kernel
theorem dX10_want_4 : decode cX10_want 4 = .ok (.iconst 4, 1) := by decide +kernel
theorem dX10_want_5 : decode cX10_want 5 = .ok (.if_icmp .ne 6, 3) := by decide +kernel
theorem dX10_want_8 : decode cX10_want 8 = .ok (.bipush (-3), 2) := by decide +kernel
theorem dX10_want_10 : decode cX10_want 10 = .ok (.ireturn, 1) := by decide +kernel
theorem dX10_want_11 : decode cX10_want 11 = .ok (.aload_n 0, 1) := by decide +kernel
theorem dX10_want_12 : decode cX10_want 12 = .ok (.iconst (-1), 1) := by decide +kernel
theorem dX10_want_13 : decode cX10_want 13 = .ok (.aload_n 0, 1) := by decide +kernel
theorem dX10_want_14 : decode cX10_want 14 = .ok (.getfield 158, 3) := by decide +kernel
theorem dX10_want_17 : decode cX10_want 17 = .ok (.invokevirtual 206, 3) := by decide +kernel
theorem dX10_want_20 : decode cX10_want 20 = .ok (.istore_n 1, 1) := by decide +kernel
theorem dX10_want_21 : decode cX10_want 21 = .ok (.aload_n 0, 1) := by decide +kernel
theorem dX10_want_22 : decode cX10_want 22 = .ok (.getfield 158, 3) := by decide +kernel
theorem dX10_want_25 : decode cX10_want 25 = .ok (.istore_n 2, 1) := by decide +kernel
theorem dX10_want_26 : decode cX10_want 26 = .ok (.aload_n 0, 1) := by decide +kernel
theorem dX10_want_27 : decode cX10_want 27 = .ok (.iconst 0, 1) := by decide +kernel
theorem dX10_want_28 : decode cX10_want 28 = .ok (.putfield 158, 3) := by decide +kernel
theorem dX10_want_31 : decode cX10_want 31 = .ok (.aload_n 0, 1) := by decide +kernel
theorem dX10_want_32 : decode cX10_want 32 = .ok (.getfield 170, 3) := by decide +kernel
theorem dX10_want_35 : decode cX10_want 35 = .ok (.ifCond .lt 11, 3) := by decide +kernel
theorem dX10_want_38 : decode cX10_want 38 = .ok (.bipush (-100), 2) := by decide +kernel
theorem dX10_want_40 : decode cX10_want 40 = .ok (.aload_n 0, 1) := by decide +kernel
theorem dX10_want_41 : decode cX10_want 41 = .ok (.getfield 170, 3) := by decide +kernel
theorem dX10_want_44 : decode cX10_want 44 = .ok (.isub, 1) := by decide +kernel
theorem dX10_want_45 : decode cX10_want 45 = .ok (.ireturn, 1) := by decide +kernel
theorem dX10_want_46 : decode cX10_want 46 = .ok (.iconst 0, 1) := by decide +kernel
theorem dX10_want_47 : decode cX10_want 47 = .ok (.istore_n 3, 1) := by decide +kernel
theorem dX10_want_48 : decode cX10_want 48 = .ok (.iload_n 3, 1) := by decide +kernel
theorem dX10_want_49 : decode cX10_want 49 = .ok (.iload_n 2, 1) := by decide +kernel
theorem dX10_want_50 : decode cX10_want 50 = .ok (.if_icmp .ge 29, 3) := by decide +kernel
theorem dX10_want_53 : decode cX10_want 53 = .ok (.aload_n 0, 1) := by decide +kernel
theorem dX10_want_54 : decode cX10_want 54 = .ok (.getfield 40, 3) := by decide +kernel
theorem dX10_want_57 : decode cX10_want 57 = .ok (.bipush 120, 2) := by decide +kernel
theorem dX10_want_59 : decode cX10_want 59 = .ok (.aload_n 0, 1) := by decide +kernel
theorem dX10_want_60 : decode cX10_want 60 = .ok (.getfield 141, 3) := by decide +kernel
theorem dX10_want_63 : decode cX10_want 63 = .ok (.imul, 1) := by decide +kernel
theorem dX10_want_64 : decode cX10_want 64 = .ok (.iload_n 3, 1) := by decide +kernel
theorem dX10_want_65 : decode cX10_want 65 = .ok (.iadd, 1) := by decide +kernel
theorem dX10_want_66 : decode cX10_want 66 = .ok (.aload_n 0, 1) := by decide +kernel
theorem dX10_want_67 : decode cX10_want 67 = .ok (.getfield 37, 3) := by decide +kernel
theorem dX10_want_70 : decode cX10_want 70 = .ok (.iload_n 3, 1) := by decide +kernel
theorem dX10_want_71 : decode cX10_want 71 = .ok (.iaload, 1) := by decide +kernel
theorem dX10_want_72 : decode cX10_want 72 = .ok (.iastore, 1) := by decide +kernel
theorem dX10_want_73 : decode cX10_want 73 = .ok (.iinc 3 1, 3) := by decide +kernel
theorem dX10_want_76 : decode cX10_want 76 = .ok (.goto (-28), 3) := by decide +kernel
theorem dX10_want_79 : decode cX10_want 79 = .ok (.aload_n 0, 1) := by decide +kernel
theorem dX10_want_80 : decode cX10_want 80 = .ok (.getfield 43, 3) := by decide +kernel
theorem dX10_want_83 : decode cX10_want 83 = .ok (.aload_n 0, 1) := by decide +kernel
theorem dX10_want_84 : decode cX10_want 84 = .ok (.getfield 141, 3) := by decide +kernel
theorem dX10_want_87 : decode cX10_want 87 = .ok (.iload_n 2, 1) := by decide +kernel
theorem dX10_want_88 : decode cX10_want 88 = .ok (.iastore, 1) := by decide +kernel
theorem dX10_want_89 : decode cX10_want 89 = .ok (.aload_n 0, 1) := by decide +kernel
theorem dX10_want_90 : decode cX10_want 90 = .ok (.dup, 1) := by decide +kernel
theorem dX10_want_91 : decode cX10_want 91 = .ok (.getfield 141, 3) := by decide +kernel
theorem dX10_want_94 : decode cX10_want 94 = .ok (.iconst 1, 1) := by decide +kernel
theorem dX10_want_95 : decode cX10_want 95 = .ok (.iadd, 1) := by decide +kernel
theorem dX10_want_96 : decode cX10_want 96 = .ok (.putfield 141, 3) := by decide +kernel
theorem dX10_want_99 : decode cX10_want 99 = .ok (.aload_n 0, 1) := by decide +kernel
theorem dX10_want_100 : decode cX10_want 100 = .ok (.getfield 141, 3) := by decide +kernel
theorem dX10_want_103 : decode cX10_want 103 = .ok (.iconst 1, 1) := by decide +kernel
theorem dX10_want_104 : decode cX10_want 104 = .ok (.isub, 1) := by decide +kernel
theorem dX10_want_105 : decode cX10_want 105 = .ok (.ireturn, 1) := by decide +kernel
theorem dX10_worthOf_0 : decode cX10_worthOf 0 = .ok (.aload_n 0, 1) := by decide +kernel
theorem dX10_worthOf_1 : decode cX10_worthOf 1 = .ok (.getfield 46, 3) := by decide +kernel
theorem dX10_worthOf_4 : decode cX10_worthOf 4 = .ok (.iconst 0, 1) := by decide +kernel
theorem dX10_worthOf_5 : decode cX10_worthOf 5 = .ok (.iload_n 2, 1) := by decide +kernel
theorem dX10_worthOf_6 : decode cX10_worthOf 6 = .ok (.iastore, 1) := by decide +kernel
theorem dX10_worthOf_7 : decode cX10_worthOf 7 = .ok (.aload_n 0, 1) := by decide +kernel
theorem dX10_worthOf_8 : decode cX10_worthOf 8 = .ok (.getfield 46, 3) := by decide +kernel
theorem dX10_worthOf_11 : decode cX10_worthOf 11 = .ok (.iconst 1, 1) := by decide +kernel
theorem dX10_worthOf_12 : decode cX10_worthOf 12 = .ok (.iload_n 3, 1) := by decide +kernel
theorem dX10_worthOf_13 : decode cX10_worthOf 13 = .ok (.iastore, 1) := by decide +kernel
theorem dX10_worthOf_14 : decode cX10_worthOf 14 = .ok (.aload_n 0, 1) := by decide +kernel
theorem dX10_worthOf_15 : decode cX10_worthOf 15 = .ok (.getfield 46, 3) := by decide +kernel
theorem dX10_worthOf_18 : decode cX10_worthOf 18 = .ok (.iconst 2, 1) := by decide +kernel
theorem dX10_worthOf_19 : decode cX10_worthOf 19 = .ok (.aload_n 0, 1) := by decide +kernel
theorem dX10_worthOf_20 : decode cX10_worthOf 20 = .ok (.getfield 9, 3) := by decide +kernel
theorem dX10_worthOf_23 : decode cX10_worthOf 23 = .ok (.bipush 6, 2) := by decide +kernel
theorem dX10_worthOf_25 : decode cX10_worthOf 25 = .ok (.iload_n 2, 1) := by decide +kernel
theorem dX10_worthOf_26 : decode cX10_worthOf 26 = .ok (.iadd, 1) := by decide +kernel
theorem dX10_worthOf_27 : decode cX10_worthOf 27 = .ok (.iaload, 1) := by decide +kernel
theorem dX10_worthOf_28 : decode cX10_worthOf 28 = .ok (.iastore, 1) := by decide +kernel
theorem dX10_worthOf_29 : decode cX10_worthOf 29 = .ok (.aload_n 0, 1) := by decide +kernel
theorem dX10_worthOf_30 : decode cX10_worthOf 30 = .ok (.getfield 46, 3) := by decide +kernel
theorem dX10_worthOf_33 : decode cX10_worthOf 33 = .ok (.iconst 3, 1) := by decide +kernel
theorem dX10_worthOf_34 : decode cX10_worthOf 34 = .ok (.aload_n 0, 1) := by decide +kernel
theorem dX10_worthOf_35 : decode cX10_worthOf 35 = .ok (.getfield 9, 3) := by decide +kernel
theorem dX10_worthOf_38 : decode cX10_worthOf 38 = .ok (.bipush 12, 2) := by decide +kernel
theorem dX10_worthOf_40 : decode cX10_worthOf 40 = .ok (.iload_n 2, 1) := by decide +kernel
theorem dX10_worthOf_41 : decode cX10_worthOf 41 = .ok (.iadd, 1) := by decide +kernel
theorem dX10_worthOf_42 : decode cX10_worthOf 42 = .ok (.iaload, 1) := by decide +kernel
theorem dX10_worthOf_43 : decode cX10_worthOf 43 = .ok (.iastore, 1) := by decide +kernel
theorem dX10_worthOf_44 : decode cX10_worthOf 44 = .ok (.aload_n 0, 1) := by decide +kernel
theorem dX10_worthOf_45 : decode cX10_worthOf 45 = .ok (.getfield 46, 3) := by decide +kernel
theorem dX10_worthOf_48 : decode cX10_worthOf 48 = .ok (.iconst 4, 1) := by decide +kernel
theorem dX10_worthOf_49 : decode cX10_worthOf 49 = .ok (.iload_n 1, 1) := by decide +kernel
theorem dX10_worthOf_50 : decode cX10_worthOf 50 = .ok (.iastore, 1) := by decide +kernel
theorem dX10_worthOf_51 : decode cX10_worthOf 51 = .ok (.aload_n 0, 1) := by decide +kernel
theorem dX10_worthOf_52 : decode cX10_worthOf 52 = .ok (.getfield 46, 3) := by decide +kernel
theorem dX10_worthOf_55 : decode cX10_worthOf 55 = .ok (.iconst 5, 1) := by decide +kernel
theorem dX10_worthOf_56 : decode cX10_worthOf 56 = .ok (.aload_n 0, 1) := by decide +kernel
theorem dX10_worthOf_57 : decode cX10_worthOf 57 = .ok (.getfield 28, 3) := by decide +kernel
theorem dX10_worthOf_60 : decode cX10_worthOf 60 = .ok (.iload_n 1, 1) := by decide +kernel
theorem dX10_worthOf_61 : decode cX10_worthOf 61 = .ok (.iaload, 1) := by decide +kernel
theorem dX10_worthOf_62 : decode cX10_worthOf 62 = .ok (.iastore, 1) := by decide +kernel
theorem dX10_worthOf_63 : decode cX10_worthOf 63 = .ok (.aload_n 0, 1) := by decide +kernel
theorem dX10_worthOf_64 : decode cX10_worthOf 64 = .ok (.getfield 46, 3) := by decide +kernel
theorem dX10_worthOf_67 : decode cX10_worthOf 67 = .ok (.bipush 6, 2) := by decide +kernel
theorem dX10_worthOf_69 : decode cX10_worthOf 69 = .ok (.aload_n 0, 1) := by decide +kernel
theorem dX10_worthOf_70 : decode cX10_worthOf 70 = .ok (.getfield 102, 3) := by decide +kernel
theorem dX10_worthOf_73 : decode cX10_worthOf 73 = .ok (.iastore, 1) := by decide +kernel
theorem dX10_worthOf_74 : decode cX10_worthOf 74 = .ok (.aload_n 0, 1) := by decide +kernel
theorem dX10_worthOf_75 : decode cX10_worthOf 75 = .ok (.bipush 120, 2) := by decide +kernel
theorem dX10_worthOf_77 : decode cX10_worthOf 77 = .ok (.aload_n 0, 1) := by decide +kernel
theorem dX10_worthOf_78 : decode cX10_worthOf 78 = .ok (.getfield 31, 3) := by decide +kernel
theorem dX10_worthOf_81 : decode cX10_worthOf 81 = .ok (.iload_n 1, 1) := by decide +kernel
theorem dX10_worthOf_82 : decode cX10_worthOf 82 = .ok (.iaload, 1) := by decide +kernel
theorem dX10_worthOf_83 : decode cX10_worthOf 83 = .ok (.imul, 1) := by decide +kernel
theorem dX10_worthOf_84 : decode cX10_worthOf 84 = .ok (.aload_n 0, 1) := by decide +kernel
theorem dX10_worthOf_85 : decode cX10_worthOf 85 = .ok (.getfield 43, 3) := by decide +kernel
theorem dX10_worthOf_88 : decode cX10_worthOf 88 = .ok (.aload_n 0, 1) := by decide +kernel
theorem dX10_worthOf_89 : decode cX10_worthOf 89 = .ok (.getfield 31, 3) := by decide +kernel
theorem dX10_worthOf_92 : decode cX10_worthOf 92 = .ok (.iload_n 1, 1) := by decide +kernel
theorem dX10_worthOf_93 : decode cX10_worthOf 93 = .ok (.iaload, 1) := by decide +kernel
theorem dX10_worthOf_94 : decode cX10_worthOf 94 = .ok (.iaload, 1) := by decide +kernel
theorem dX10_worthOf_95 : decode cX10_worthOf 95 = .ok (.invokevirtual 206, 3) := by decide +kernel
theorem dX10_worthOf_98 : decode cX10_worthOf 98 = .ok (.istore 4, 2) := by decide +kernel
theorem dX10_worthOf_100 : decode cX10_worthOf 100 = .ok (.iload 4, 2) := by decide +kernel
theorem dX10_worthOf_102 : decode cX10_worthOf 102 = .ok (.ifCond .ge 7, 3) := by decide +kernel
theorem dX10_worthOf_105 : decode cX10_worthOf 105 = .ok (.iconst 0, 1) := by decide +kernel
theorem dX10_worthOf_106 : decode cX10_worthOf 106 = .ok (.goto 19, 3) := by decide +kernel
theorem dX10_worthOf_109 : decode cX10_worthOf 109 = .ok (.iload 4, 2) := by decide +kernel
theorem dX10_worthOf_111 : decode cX10_worthOf 111 = .ok (.sipush 999, 3) := by decide +kernel
theorem dX10_worthOf_114 : decode cX10_worthOf 114 = .ok (.if_icmp .le 9, 3) := by decide +kernel
theorem dX10_worthOf_117 : decode cX10_worthOf 117 = .ok (.sipush 999, 3) := by decide +kernel
theorem dX10_worthOf_120 : decode cX10_worthOf 120 = .ok (.goto 5, 3) := by decide +kernel
theorem dX10_worthOf_123 : decode cX10_worthOf 123 = .ok (.iload 4, 2) := by decide +kernel
theorem dX10_worthOf_125 : decode cX10_worthOf 125 = .ok (.ireturn, 1) := by decide +kernel
theorem dX10_worth_0 : decode cX10_worth 0 = .ok (.aload_n 0, 1) := by decide +kernel
theorem dX10_worth_1 : decode cX10_worth 1 = .ok (.iload_n 1, 1) := by decide +kernel
theorem dX10_worth_2 : decode cX10_worth 2 = .ok (.invokevirtual 144, 3) := by decide +kernel
theorem dX10_worth_5 : decode cX10_worth 5 = .ok (.ifCond .eq 49, 3) := by decide +kernel
theorem dX10_worth_8 : decode cX10_worth 8 = .ok (.iload_n 2, 1) := by decide +kernel
theorem dX10_worth_9 : decode cX10_worth 9 = .ok (.ifCond .lt 45, 3) := by decide +kernel
theorem dX10_worth_12 : decode cX10_worth 12 = .ok (.aload_n 0, 1) := by decide +kernel
theorem dX10_worth_13 : decode cX10_worth 13 = .ok (.iload_n 2, 1) := by decide +kernel
theorem dX10_worth_14 : decode cX10_worth 14 = .ok (.bipush 10, 2) := by decide +kernel
theorem dX10_worth_16 : decode cX10_worth 16 = .ok (.idiv, 1) := by decide +kernel
theorem dX10_worth_17 : decode cX10_worth 17 = .ok (.invokevirtual 132, 3) := by decide +kernel
theorem dX10_worth_20 : decode cX10_worth 20 = .ok (.ifCond .eq 34, 3) := by decide +kernel
theorem dX10_worth_23 : decode cX10_worth 23 = .ok (.iload_n 2, 1) := by decide +kernel
theorem dX10_worth_24 : decode cX10_worth 24 = .ok (.bipush 10, 2) := by decide +kernel
theorem dX10_worth_26 : decode cX10_worth 26 = .ok (.irem, 1) := by decide +kernel
theorem dX10_worth_27 : decode cX10_worth 27 = .ok (.i2l, 1) := by decide +kernel
theorem dX10_worth_28 : decode cX10_worth 28 = .ok (.lconst 1, 1) := by decide +kernel
theorem dX10_worth_29 : decode cX10_worth 29 = .ok (.ldc2_w 147, 3) := by decide +kernel
theorem dX10_worth_32 : decode cX10_worth 32 = .ok (.invokestatic 105, 3) := by decide +kernel
theorem dX10_worth_35 : decode cX10_worth 35 = .ok (.ifCond .eq 19, 3) := by decide +kernel
theorem dX10_worth_38 : decode cX10_worth 38 = .ok (.aload_n 0, 1) := by decide +kernel
theorem dX10_worth_39 : decode cX10_worth 39 = .ok (.iload_n 1, 1) := by decide +kernel
theorem dX10_worth_40 : decode cX10_worth 40 = .ok (.iload_n 2, 1) := by decide +kernel
theorem dX10_worth_41 : decode cX10_worth 41 = .ok (.bipush 10, 2) := by decide +kernel
theorem dX10_worth_43 : decode cX10_worth 43 = .ok (.idiv, 1) := by decide +kernel
theorem dX10_worth_44 : decode cX10_worth 44 = .ok (.iload_n 2, 1) := by decide +kernel
theorem dX10_worth_45 : decode cX10_worth 45 = .ok (.bipush 10, 2) := by decide +kernel
theorem dX10_worth_47 : decode cX10_worth 47 = .ok (.irem, 1) := by decide +kernel
theorem dX10_worth_48 : decode cX10_worth 48 = .ok (.invokevirtual 209, 3) := by decide +kernel
theorem dX10_worth_51 : decode cX10_worth 51 = .ok (.goto 4, 3) := by decide +kernel
theorem dX10_worth_54 : decode cX10_worth 54 = .ok (.iconst (-1), 1) := by decide +kernel
theorem dX10_worth_55 : decode cX10_worth 55 = .ok (.ireturn, 1) := by decide +kernel
theorem dX10_layWorths_0 : decode cX10_layWorths 0 = .ok (.iconst 0, 1) := by decide +kernel
theorem dX10_layWorths_1 : decode cX10_layWorths 1 = .ok (.istore_n 2, 1) := by decide +kernel
theorem dX10_layWorths_2 : decode cX10_layWorths 2 = .ok (.iload_n 2, 1) := by decide +kernel
theorem dX10_layWorths_3 : decode cX10_layWorths 3 = .ok (.aload_n 0, 1) := by decide +kernel
theorem dX10_layWorths_4 : decode cX10_layWorths 4 = .ok (.getfield 102, 3) := by decide +kernel
theorem dX10_layWorths_7 : decode cX10_layWorths 7 = .ok (.if_icmp .ge 61, 3) := by decide +kernel
theorem dX10_layWorths_10 : decode cX10_layWorths 10 = .ok (.aload_n 0, 1) := by decide +kernel
theorem dX10_layWorths_11 : decode cX10_layWorths 11 = .ok (.getfield 49, 3) := by decide +kernel
theorem dX10_layWorths_14 : decode cX10_layWorths 14 = .ok (.iconst 4, 1) := by decide +kernel
theorem dX10_layWorths_15 : decode cX10_layWorths 15 = .ok (.iload_n 2, 1) := by decide +kernel
theorem dX10_layWorths_16 : decode cX10_layWorths 16 = .ok (.imul, 1) := by decide +kernel
theorem dX10_layWorths_17 : decode cX10_layWorths 17 = .ok (.iconst 0, 1) := by decide +kernel
theorem dX10_layWorths_18 : decode cX10_layWorths 18 = .ok (.iastore, 1) := by decide +kernel
theorem dX10_layWorths_19 : decode cX10_layWorths 19 = .ok (.iconst 1, 1) := by decide +kernel
theorem dX10_layWorths_20 : decode cX10_layWorths 20 = .ok (.istore_n 3, 1) := by decide +kernel
theorem dX10_layWorths_21 : decode cX10_layWorths 21 = .ok (.iload_n 3, 1) := by decide +kernel
theorem dX10_layWorths_22 : decode cX10_layWorths 22 = .ok (.iconst 3, 1) := by decide +kernel
theorem dX10_layWorths_23 : decode cX10_layWorths 23 = .ok (.if_icmp .gt 39, 3) := by decide +kernel
theorem dX10_layWorths_26 : decode cX10_layWorths 26 = .ok (.aload_n 0, 1) := by decide +kernel
theorem dX10_layWorths_27 : decode cX10_layWorths 27 = .ok (.getfield 49, 3) := by decide +kernel
theorem dX10_layWorths_30 : decode cX10_layWorths 30 = .ok (.iconst 4, 1) := by decide +kernel
theorem dX10_layWorths_31 : decode cX10_layWorths 31 = .ok (.iload_n 2, 1) := by decide +kernel
theorem dX10_layWorths_32 : decode cX10_layWorths 32 = .ok (.imul, 1) := by decide +kernel
theorem dX10_layWorths_33 : decode cX10_layWorths 33 = .ok (.iload_n 3, 1) := by decide +kernel
theorem dX10_layWorths_34 : decode cX10_layWorths 34 = .ok (.iadd, 1) := by decide +kernel
theorem dX10_layWorths_35 : decode cX10_layWorths 35 = .ok (.aload_n 0, 1) := by decide +kernel
theorem dX10_layWorths_36 : decode cX10_layWorths 36 = .ok (.getfield 49, 3) := by decide +kernel
theorem dX10_layWorths_39 : decode cX10_layWorths 39 = .ok (.iconst 4, 1) := by decide +kernel
theorem dX10_layWorths_40 : decode cX10_layWorths 40 = .ok (.iload_n 2, 1) := by decide +kernel
theorem dX10_layWorths_41 : decode cX10_layWorths 41 = .ok (.imul, 1) := by decide +kernel
theorem dX10_layWorths_42 : decode cX10_layWorths 42 = .ok (.iload_n 3, 1) := by decide +kernel
theorem dX10_layWorths_43 : decode cX10_layWorths 43 = .ok (.iadd, 1) := by decide +kernel
theorem dX10_layWorths_44 : decode cX10_layWorths 44 = .ok (.iconst 1, 1) := by decide +kernel
theorem dX10_layWorths_45 : decode cX10_layWorths 45 = .ok (.isub, 1) := by decide +kernel
theorem dX10_layWorths_46 : decode cX10_layWorths 46 = .ok (.iaload, 1) := by decide +kernel
theorem dX10_layWorths_47 : decode cX10_layWorths 47 = .ok (.aload_n 0, 1) := by decide +kernel
theorem dX10_layWorths_48 : decode cX10_layWorths 48 = .ok (.iload_n 1, 1) := by decide +kernel
theorem dX10_layWorths_49 : decode cX10_layWorths 49 = .ok (.iload_n 2, 1) := by decide +kernel
theorem dX10_layWorths_50 : decode cX10_layWorths 50 = .ok (.iload_n 3, 1) := by decide +kernel
theorem dX10_layWorths_51 : decode cX10_layWorths 51 = .ok (.invokevirtual 209, 3) := by decide +kernel
theorem dX10_layWorths_54 : decode cX10_layWorths 54 = .ok (.iadd, 1) := by decide +kernel
theorem dX10_layWorths_55 : decode cX10_layWorths 55 = .ok (.iastore, 1) := by decide +kernel
theorem dX10_layWorths_56 : decode cX10_layWorths 56 = .ok (.iinc 3 1, 3) := by decide +kernel
theorem dX10_layWorths_59 : decode cX10_layWorths 59 = .ok (.goto (-38), 3) := by decide +kernel
theorem dX10_layWorths_62 : decode cX10_layWorths 62 = .ok (.iinc 2 1, 3) := by decide +kernel
theorem dX10_layWorths_65 : decode cX10_layWorths 65 = .ok (.goto (-63), 3) := by decide +kernel
theorem dX10_layWorths_68 : decode cX10_layWorths 68 = .ok (.return_, 1) := by decide +kernel
theorem dX10_baskets_0 : decode cX10_baskets 0 = .ok (.iconst 1, 1) := by decide +kernel
theorem dX10_baskets_1 : decode cX10_baskets 1 = .ok (.iconst 2, 1) := by decide +kernel
theorem dX10_baskets_2 : decode cX10_baskets 2 = .ok (.aload_n 0, 1) := by decide +kernel
theorem dX10_baskets_3 : decode cX10_baskets 3 = .ok (.getfield 102, 3) := by decide +kernel
theorem dX10_baskets_6 : decode cX10_baskets 6 = .ok (.imul, 1) := by decide +kernel
theorem dX10_baskets_7 : decode cX10_baskets 7 = .ok (.ishl, 1) := by decide +kernel
theorem dX10_baskets_8 : decode cX10_baskets 8 = .ok (.ireturn, 1) := by decide +kernel
theorem dX10_unpack_0 : decode cX10_unpack 0 = .ok (.aload_n 0, 1) := by decide +kernel
theorem dX10_unpack_1 : decode cX10_unpack 1 = .ok (.iconst 0, 1) := by decide +kernel
theorem dX10_unpack_2 : decode cX10_unpack 2 = .ok (.putfield 213, 3) := by decide +kernel
theorem dX10_unpack_5 : decode cX10_unpack 5 = .ok (.aload_n 0, 1) := by decide +kernel
theorem dX10_unpack_6 : decode cX10_unpack 6 = .ok (.iconst 0, 1) := by decide +kernel
theorem dX10_unpack_7 : decode cX10_unpack 7 = .ok (.putfield 216, 3) := by decide +kernel
theorem dX10_unpack_10 : decode cX10_unpack 10 = .ok (.aload_n 0, 1) := by decide +kernel
theorem dX10_unpack_11 : decode cX10_unpack 11 = .ok (.iconst 0, 1) := by decide +kernel
theorem dX10_unpack_12 : decode cX10_unpack 12 = .ok (.putfield 219, 3) := by decide +kernel
theorem dX10_unpack_15 : decode cX10_unpack 15 = .ok (.iconst 0, 1) := by decide +kernel
theorem dX10_unpack_16 : decode cX10_unpack 16 = .ok (.istore_n 2, 1) := by decide +kernel
theorem dX10_unpack_17 : decode cX10_unpack 17 = .ok (.iload_n 2, 1) := by decide +kernel
theorem dX10_unpack_18 : decode cX10_unpack 18 = .ok (.aload_n 0, 1) := by decide +kernel
theorem dX10_unpack_19 : decode cX10_unpack 19 = .ok (.getfield 102, 3) := by decide +kernel
theorem dX10_unpack_22 : decode cX10_unpack 22 = .ok (.if_icmp .ge 98, 3) := by decide +kernel
theorem dX10_unpack_25 : decode cX10_unpack 25 = .ok (.iload_n 1, 1) := by decide +kernel
theorem dX10_unpack_26 : decode cX10_unpack 26 = .ok (.iconst 2, 1) := by decide +kernel
theorem dX10_unpack_27 : decode cX10_unpack 27 = .ok (.aload_n 0, 1) := by decide +kernel
theorem dX10_unpack_28 : decode cX10_unpack 28 = .ok (.getfield 102, 3) := by decide +kernel
theorem dX10_unpack_31 : decode cX10_unpack 31 = .ok (.iconst 1, 1) := by decide +kernel
theorem dX10_unpack_32 : decode cX10_unpack 32 = .ok (.isub, 1) := by decide +kernel
theorem dX10_unpack_33 : decode cX10_unpack 33 = .ok (.iload_n 2, 1) := by decide +kernel
theorem dX10_unpack_34 : decode cX10_unpack 34 = .ok (.isub, 1) := by decide +kernel
theorem dX10_unpack_35 : decode cX10_unpack 35 = .ok (.imul, 1) := by decide +kernel
theorem dX10_unpack_36 : decode cX10_unpack 36 = .ok (.ishr, 1) := by decide +kernel
theorem dX10_unpack_37 : decode cX10_unpack 37 = .ok (.iconst 3, 1) := by decide +kernel
theorem dX10_unpack_38 : decode cX10_unpack 38 = .ok (.iand, 1) := by decide +kernel
theorem dX10_unpack_39 : decode cX10_unpack 39 = .ok (.istore_n 3, 1) := by decide +kernel
theorem dX10_unpack_40 : decode cX10_unpack 40 = .ok (.aload_n 0, 1) := by decide +kernel
theorem dX10_unpack_41 : decode cX10_unpack 41 = .ok (.getfield 52, 3) := by decide +kernel
theorem dX10_unpack_44 : decode cX10_unpack 44 = .ok (.iload_n 2, 1) := by decide +kernel
theorem dX10_unpack_45 : decode cX10_unpack 45 = .ok (.iload_n 3, 1) := by decide +kernel
theorem dX10_unpack_46 : decode cX10_unpack 46 = .ok (.iastore, 1) := by decide +kernel
theorem dX10_unpack_47 : decode cX10_unpack 47 = .ok (.aload_n 0, 1) := by decide +kernel
theorem dX10_unpack_48 : decode cX10_unpack 48 = .ok (.dup, 1) := by decide +kernel
theorem dX10_unpack_49 : decode cX10_unpack 49 = .ok (.getfield 213, 3) := by decide +kernel
theorem dX10_unpack_52 : decode cX10_unpack 52 = .ok (.aload_n 0, 1) := by decide +kernel
theorem dX10_unpack_53 : decode cX10_unpack 53 = .ok (.getfield 49, 3) := by decide +kernel
theorem dX10_unpack_56 : decode cX10_unpack 56 = .ok (.iconst 4, 1) := by decide +kernel
theorem dX10_unpack_57 : decode cX10_unpack 57 = .ok (.iload_n 2, 1) := by decide +kernel
theorem dX10_unpack_58 : decode cX10_unpack 58 = .ok (.imul, 1) := by decide +kernel
theorem dX10_unpack_59 : decode cX10_unpack 59 = .ok (.iload_n 3, 1) := by decide +kernel
theorem dX10_unpack_60 : decode cX10_unpack 60 = .ok (.iadd, 1) := by decide +kernel
theorem dX10_unpack_61 : decode cX10_unpack 61 = .ok (.iaload, 1) := by decide +kernel
theorem dX10_unpack_62 : decode cX10_unpack 62 = .ok (.iadd, 1) := by decide +kernel
theorem dX10_unpack_63 : decode cX10_unpack 63 = .ok (.putfield 213, 3) := by decide +kernel
theorem dX10_unpack_66 : decode cX10_unpack 66 = .ok (.aload_n 0, 1) := by decide +kernel
theorem dX10_unpack_67 : decode cX10_unpack 67 = .ok (.dup, 1) := by decide +kernel
theorem dX10_unpack_68 : decode cX10_unpack 68 = .ok (.getfield 216, 3) := by decide +kernel
theorem dX10_unpack_71 : decode cX10_unpack 71 = .ok (.iload_n 3, 1) := by decide +kernel
theorem dX10_unpack_72 : decode cX10_unpack 72 = .ok (.aload_n 0, 1) := by decide +kernel
theorem dX10_unpack_73 : decode cX10_unpack 73 = .ok (.getfield 9, 3) := by decide +kernel
theorem dX10_unpack_76 : decode cX10_unpack 76 = .ok (.bipush 6, 2) := by decide +kernel
theorem dX10_unpack_78 : decode cX10_unpack 78 = .ok (.iload_n 2, 1) := by decide +kernel
theorem dX10_unpack_79 : decode cX10_unpack 79 = .ok (.iadd, 1) := by decide +kernel
theorem dX10_unpack_80 : decode cX10_unpack 80 = .ok (.iaload, 1) := by decide +kernel
theorem dX10_unpack_81 : decode cX10_unpack 81 = .ok (.aload_n 0, 1) := by decide +kernel
theorem dX10_unpack_82 : decode cX10_unpack 82 = .ok (.getfield 55, 3) := by decide +kernel
theorem dX10_unpack_85 : decode cX10_unpack 85 = .ok (.imul, 1) := by decide +kernel
theorem dX10_unpack_86 : decode cX10_unpack 86 = .ok (.bipush 100, 2) := by decide +kernel
theorem dX10_unpack_88 : decode cX10_unpack 88 = .ok (.idiv, 1) := by decide +kernel
theorem dX10_unpack_89 : decode cX10_unpack 89 = .ok (.imul, 1) := by decide +kernel
theorem dX10_unpack_90 : decode cX10_unpack 90 = .ok (.iadd, 1) := by decide +kernel
theorem dX10_unpack_91 : decode cX10_unpack 91 = .ok (.putfield 216, 3) := by decide +kernel
theorem dX10_unpack_94 : decode cX10_unpack 94 = .ok (.aload_n 0, 1) := by decide +kernel
theorem dX10_unpack_95 : decode cX10_unpack 95 = .ok (.dup, 1) := by decide +kernel
theorem dX10_unpack_96 : decode cX10_unpack 96 = .ok (.getfield 219, 3) := by decide +kernel
theorem dX10_unpack_99 : decode cX10_unpack 99 = .ok (.iload_n 3, 1) := by decide +kernel
theorem dX10_unpack_100 : decode cX10_unpack 100 = .ok (.aload_n 0, 1) := by decide +kernel
theorem dX10_unpack_101 : decode cX10_unpack 101 = .ok (.getfield 9, 3) := by decide +kernel
theorem dX10_unpack_104 : decode cX10_unpack 104 = .ok (.bipush 12, 2) := by decide +kernel
theorem dX10_unpack_106 : decode cX10_unpack 106 = .ok (.iload_n 2, 1) := by decide +kernel
theorem dX10_unpack_107 : decode cX10_unpack 107 = .ok (.iadd, 1) := by decide +kernel
theorem dX10_unpack_108 : decode cX10_unpack 108 = .ok (.iaload, 1) := by decide +kernel
theorem dX10_unpack_109 : decode cX10_unpack 109 = .ok (.imul, 1) := by decide +kernel
theorem dX10_unpack_110 : decode cX10_unpack 110 = .ok (.iadd, 1) := by decide +kernel
theorem dX10_unpack_111 : decode cX10_unpack 111 = .ok (.putfield 219, 3) := by decide +kernel
theorem dX10_unpack_114 : decode cX10_unpack 114 = .ok (.iinc 2 1, 3) := by decide +kernel
theorem dX10_unpack_117 : decode cX10_unpack 117 = .ok (.goto (-100), 3) := by decide +kernel
theorem dX10_unpack_120 : decode cX10_unpack 120 = .ok (.return_, 1) := by decide +kernel
theorem dX10_findBest_0 : decode cX10_findBest 0 = .ok (.aload_n 0, 1) := by decide +kernel
theorem dX10_findBest_1 : decode cX10_findBest 1 = .ok (.iload_n 1, 1) := by decide +kernel
theorem dX10_findBest_2 : decode cX10_findBest 2 = .ok (.invokevirtual 222, 3) := by decide +kernel
theorem dX10_findBest_5 : decode cX10_findBest 5 = .ok (.iconst (-1), 1) := by decide +kernel
theorem dX10_findBest_6 : decode cX10_findBest 6 = .ok (.istore 4, 2) := by decide +kernel
theorem dX10_findBest_8 : decode cX10_findBest 8 = .ok (.iconst 0, 1) := by decide +kernel
theorem dX10_findBest_9 : decode cX10_findBest 9 = .ok (.istore 5, 2) := by decide +kernel
theorem dX10_findBest_11 : decode cX10_findBest 11 = .ok (.iload 5, 2) := by decide +kernel
theorem dX10_findBest_13 : decode cX10_findBest 13 = .ok (.aload_n 0, 1) := by decide +kernel
theorem dX10_findBest_14 : decode cX10_findBest 14 = .ok (.invokevirtual 226, 3) := by decide +kernel
theorem dX10_findBest_17 : decode cX10_findBest 17 = .ok (.if_icmp .ge 134, 3) := by decide +kernel
theorem dX10_findBest_20 : decode cX10_findBest 20 = .ok (.aload_n 0, 1) := by decide +kernel
theorem dX10_findBest_21 : decode cX10_findBest 21 = .ok (.iload 5, 2) := by decide +kernel
theorem dX10_findBest_23 : decode cX10_findBest 23 = .ok (.invokevirtual 229, 3) := by decide +kernel
theorem dX10_findBest_26 : decode cX10_findBest 26 = .ok (.aload_n 0, 1) := by decide +kernel
theorem dX10_findBest_27 : decode cX10_findBest 27 = .ok (.getfield 216, 3) := by decide +kernel
theorem dX10_findBest_30 : decode cX10_findBest 30 = .ok (.iload_n 2, 1) := by decide +kernel
theorem dX10_findBest_31 : decode cX10_findBest 31 = .ok (.if_icmp .gt 114, 3) := by decide +kernel
theorem dX10_findBest_34 : decode cX10_findBest 34 = .ok (.aload_n 0, 1) := by decide +kernel
theorem dX10_findBest_35 : decode cX10_findBest 35 = .ok (.getfield 219, 3) := by decide +kernel
theorem dX10_findBest_38 : decode cX10_findBest 38 = .ok (.iload_n 3, 1) := by decide +kernel
theorem dX10_findBest_39 : decode cX10_findBest 39 = .ok (.if_icmp .le 6, 3) := by decide +kernel
theorem dX10_findBest_42 : decode cX10_findBest 42 = .ok (.goto 103, 3) := by decide +kernel
theorem dX10_findBest_45 : decode cX10_findBest 45 = .ok (.iload 4, 2) := by decide +kernel
theorem dX10_findBest_47 : decode cX10_findBest 47 = .ok (.ifCond .lt 58, 3) := by decide +kernel
theorem dX10_findBest_50 : decode cX10_findBest 50 = .ok (.aload_n 0, 1) := by decide +kernel
theorem dX10_findBest_51 : decode cX10_findBest 51 = .ok (.getfield 213, 3) := by decide +kernel
theorem dX10_findBest_54 : decode cX10_findBest 54 = .ok (.aload_n 0, 1) := by decide +kernel
theorem dX10_findBest_55 : decode cX10_findBest 55 = .ok (.getfield 232, 3) := by decide +kernel
theorem dX10_findBest_58 : decode cX10_findBest 58 = .ok (.if_icmp .gt 47, 3) := by decide +kernel
theorem dX10_findBest_61 : decode cX10_findBest 61 = .ok (.aload_n 0, 1) := by decide +kernel
theorem dX10_findBest_62 : decode cX10_findBest 62 = .ok (.getfield 213, 3) := by decide +kernel
theorem dX10_findBest_65 : decode cX10_findBest 65 = .ok (.aload_n 0, 1) := by decide +kernel
theorem dX10_findBest_66 : decode cX10_findBest 66 = .ok (.getfield 232, 3) := by decide +kernel
theorem dX10_findBest_69 : decode cX10_findBest 69 = .ok (.if_icmp .ne 40, 3) := by decide +kernel
theorem dX10_findBest_72 : decode cX10_findBest 72 = .ok (.aload_n 0, 1) := by decide +kernel
theorem dX10_findBest_73 : decode cX10_findBest 73 = .ok (.getfield 216, 3) := by decide +kernel
theorem dX10_findBest_76 : decode cX10_findBest 76 = .ok (.aload_n 0, 1) := by decide +kernel
theorem dX10_findBest_77 : decode cX10_findBest 77 = .ok (.getfield 235, 3) := by decide +kernel
theorem dX10_findBest_80 : decode cX10_findBest 80 = .ok (.if_icmp .lt 25, 3) := by decide +kernel
theorem dX10_findBest_83 : decode cX10_findBest 83 = .ok (.aload_n 0, 1) := by decide +kernel
theorem dX10_findBest_84 : decode cX10_findBest 84 = .ok (.getfield 216, 3) := by decide +kernel
theorem dX10_findBest_87 : decode cX10_findBest 87 = .ok (.aload_n 0, 1) := by decide +kernel
theorem dX10_findBest_88 : decode cX10_findBest 88 = .ok (.getfield 235, 3) := by decide +kernel
theorem dX10_findBest_91 : decode cX10_findBest 91 = .ok (.if_icmp .ne 18, 3) := by decide +kernel
theorem dX10_findBest_94 : decode cX10_findBest 94 = .ok (.aload_n 0, 1) := by decide +kernel
theorem dX10_findBest_95 : decode cX10_findBest 95 = .ok (.getfield 219, 3) := by decide +kernel
theorem dX10_findBest_98 : decode cX10_findBest 98 = .ok (.aload_n 0, 1) := by decide +kernel
theorem dX10_findBest_99 : decode cX10_findBest 99 = .ok (.getfield 238, 3) := by decide +kernel
theorem dX10_findBest_102 : decode cX10_findBest 102 = .ok (.if_icmp .ge 7, 3) := by decide +kernel
theorem dX10_findBest_105 : decode cX10_findBest 105 = .ok (.iconst 1, 1) := by decide +kernel
theorem dX10_findBest_106 : decode cX10_findBest 106 = .ok (.goto 4, 3) := by decide +kernel
theorem dX10_findBest_109 : decode cX10_findBest 109 = .ok (.iconst 0, 1) := by decide +kernel
theorem dX10_findBest_110 : decode cX10_findBest 110 = .ok (.istore 6, 2) := by decide +kernel
theorem dX10_findBest_112 : decode cX10_findBest 112 = .ok (.iload 6, 2) := by decide +kernel
theorem dX10_findBest_114 : decode cX10_findBest 114 = .ok (.ifCond .eq 31, 3) := by decide +kernel
theorem dX10_findBest_117 : decode cX10_findBest 117 = .ok (.iload 5, 2) := by decide +kernel
theorem dX10_findBest_119 : decode cX10_findBest 119 = .ok (.istore 4, 2) := by decide +kernel
theorem dX10_findBest_121 : decode cX10_findBest 121 = .ok (.aload_n 0, 1) := by decide +kernel
theorem dX10_findBest_122 : decode cX10_findBest 122 = .ok (.aload_n 0, 1) := by decide +kernel
theorem dX10_findBest_123 : decode cX10_findBest 123 = .ok (.getfield 213, 3) := by decide +kernel
theorem dX10_findBest_126 : decode cX10_findBest 126 = .ok (.putfield 232, 3) := by decide +kernel
theorem dX10_findBest_129 : decode cX10_findBest 129 = .ok (.aload_n 0, 1) := by decide +kernel
theorem dX10_findBest_130 : decode cX10_findBest 130 = .ok (.aload_n 0, 1) := by decide +kernel
theorem dX10_findBest_131 : decode cX10_findBest 131 = .ok (.getfield 216, 3) := by decide +kernel
theorem dX10_findBest_134 : decode cX10_findBest 134 = .ok (.putfield 235, 3) := by decide +kernel
theorem dX10_findBest_137 : decode cX10_findBest 137 = .ok (.aload_n 0, 1) := by decide +kernel
theorem dX10_findBest_138 : decode cX10_findBest 138 = .ok (.aload_n 0, 1) := by decide +kernel
theorem dX10_findBest_139 : decode cX10_findBest 139 = .ok (.getfield 219, 3) := by decide +kernel
theorem dX10_findBest_142 : decode cX10_findBest 142 = .ok (.putfield 238, 3) := by decide +kernel
theorem dX10_findBest_145 : decode cX10_findBest 145 = .ok (.iinc 5 1, 3) := by decide +kernel
theorem dX10_findBest_148 : decode cX10_findBest 148 = .ok (.goto (-137), 3) := by decide +kernel
theorem dX10_findBest_151 : decode cX10_findBest 151 = .ok (.aload_n 0, 1) := by decide +kernel
theorem dX10_findBest_152 : decode cX10_findBest 152 = .ok (.iload 4, 2) := by decide +kernel
theorem dX10_findBest_154 : decode cX10_findBest 154 = .ok (.invokevirtual 229, 3) := by decide +kernel
theorem dX10_findBest_157 : decode cX10_findBest 157 = .ok (.iload 4, 2) := by decide +kernel
theorem dX10_findBest_159 : decode cX10_findBest 159 = .ok (.ireturn, 1) := by decide +kernel
theorem dX10_bestOf_0 : decode cX10_bestOf 0 = .ok (.aload_n 0, 1) := by decide +kernel
theorem dX10_bestOf_1 : decode cX10_bestOf 1 = .ok (.iload_n 1, 1) := by decide +kernel
theorem dX10_bestOf_2 : decode cX10_bestOf 2 = .ok (.aload_n 0, 1) := by decide +kernel
theorem dX10_bestOf_3 : decode cX10_bestOf 3 = .ok (.iload_n 1, 1) := by decide +kernel
theorem dX10_bestOf_4 : decode cX10_bestOf 4 = .ok (.invokevirtual 149, 3) := by decide +kernel
theorem dX10_bestOf_7 : decode cX10_bestOf 7 = .ok (.aload_n 0, 1) := by decide +kernel
theorem dX10_bestOf_8 : decode cX10_bestOf 8 = .ok (.iload_n 1, 1) := by decide +kernel
theorem dX10_bestOf_9 : decode cX10_bestOf 9 = .ok (.invokevirtual 153, 3) := by decide +kernel
theorem dX10_bestOf_12 : decode cX10_bestOf 12 = .ok (.invokevirtual 241, 3) := by decide +kernel
theorem dX10_bestOf_15 : decode cX10_bestOf 15 = .ok (.ireturn, 1) := by decide +kernel
theorem dX10_digitsNow_0 : decode cX10_digitsNow 0 = .ok (.iconst 0, 1) := by decide +kernel
theorem dX10_digitsNow_1 : decode cX10_digitsNow 1 = .ok (.istore_n 1, 1) := by decide +kernel
theorem dX10_digitsNow_2 : decode cX10_digitsNow 2 = .ok (.iconst 0, 1) := by decide +kernel
theorem dX10_digitsNow_3 : decode cX10_digitsNow 3 = .ok (.istore_n 2, 1) := by decide +kernel
theorem dX10_digitsNow_4 : decode cX10_digitsNow 4 = .ok (.iload_n 2, 1) := by decide +kernel
theorem dX10_digitsNow_5 : decode cX10_digitsNow 5 = .ok (.aload_n 0, 1) := by decide +kernel
theorem dX10_digitsNow_6 : decode cX10_digitsNow 6 = .ok (.getfield 102, 3) := by decide +kernel
theorem dX10_digitsNow_9 : decode cX10_digitsNow 9 = .ok (.if_icmp .ge 21, 3) := by decide +kernel
theorem dX10_digitsNow_12 : decode cX10_digitsNow 12 = .ok (.bipush 10, 2) := by decide +kernel
theorem dX10_digitsNow_14 : decode cX10_digitsNow 14 = .ok (.iload_n 1, 1) := by decide +kernel
theorem dX10_digitsNow_15 : decode cX10_digitsNow 15 = .ok (.imul, 1) := by decide +kernel
theorem dX10_digitsNow_16 : decode cX10_digitsNow 16 = .ok (.aload_n 0, 1) := by decide +kernel
theorem dX10_digitsNow_17 : decode cX10_digitsNow 17 = .ok (.getfield 52, 3) := by decide +kernel
theorem dX10_digitsNow_20 : decode cX10_digitsNow 20 = .ok (.iload_n 2, 1) := by decide +kernel
theorem dX10_digitsNow_21 : decode cX10_digitsNow 21 = .ok (.iaload, 1) := by decide +kernel
theorem dX10_digitsNow_22 : decode cX10_digitsNow 22 = .ok (.iadd, 1) := by decide +kernel
theorem dX10_digitsNow_23 : decode cX10_digitsNow 23 = .ok (.istore_n 1, 1) := by decide +kernel
theorem dX10_digitsNow_24 : decode cX10_digitsNow 24 = .ok (.iinc 2 1, 3) := by decide +kernel
theorem dX10_digitsNow_27 : decode cX10_digitsNow 27 = .ok (.goto (-23), 3) := by decide +kernel
theorem dX10_digitsNow_30 : decode cX10_digitsNow 30 = .ok (.iload_n 1, 1) := by decide +kernel
theorem dX10_digitsNow_31 : decode cX10_digitsNow 31 = .ok (.ireturn, 1) := by decide +kernel
theorem dX10_basket_0 : decode cX10_basket 0 = .ok (.aload_n 0, 1) := by decide +kernel
theorem dX10_basket_1 : decode cX10_basket 1 = .ok (.iload_n 1, 1) := by decide +kernel
theorem dX10_basket_2 : decode cX10_basket 2 = .ok (.invokevirtual 144, 3) := by decide +kernel
theorem dX10_basket_5 : decode cX10_basket 5 = .ok (.ifCond .eq 15, 3) := by decide +kernel
theorem dX10_basket_8 : decode cX10_basket 8 = .ok (.iload_n 2, 1) := by decide +kernel
theorem dX10_basket_9 : decode cX10_basket 9 = .ok (.i2l, 1) := by decide +kernel
theorem dX10_basket_10 : decode cX10_basket 10 = .ok (.lconst 0, 1) := by decide +kernel
theorem dX10_basket_11 : decode cX10_basket 11 = .ok (.ldc2_w 147, 3) := by decide +kernel
theorem dX10_basket_14 : decode cX10_basket 14 = .ok (.invokestatic 105, 3) := by decide +kernel
theorem dX10_basket_17 : decode cX10_basket 17 = .ok (.ifCond .ne 5, 3) := by decide +kernel
theorem dX10_basket_20 : decode cX10_basket 20 = .ok (.iconst (-1), 1) := by decide +kernel
theorem dX10_basket_21 : decode cX10_basket 21 = .ok (.ireturn, 1) := by decide +kernel
theorem dX10_basket_22 : decode cX10_basket 22 = .ok (.aload_n 0, 1) := by decide +kernel
theorem dX10_basket_23 : decode cX10_basket 23 = .ok (.iload_n 1, 1) := by decide +kernel
theorem dX10_basket_24 : decode cX10_basket 24 = .ok (.invokevirtual 244, 3) := by decide +kernel
theorem dX10_basket_27 : decode cX10_basket 27 = .ok (.istore_n 3, 1) := by decide +kernel
theorem dX10_basket_28 : decode cX10_basket 28 = .ok (.iload_n 2, 1) := by decide +kernel
theorem dX10_basket_29 : decode cX10_basket 29 = .ok (.ifCond .ne 10, 3) := by decide +kernel
theorem dX10_basket_32 : decode cX10_basket 32 = .ok (.aload_n 0, 1) := by decide +kernel
theorem dX10_basket_33 : decode cX10_basket 33 = .ok (.invokevirtual 247, 3) := by decide +kernel
theorem dX10_basket_36 : decode cX10_basket 36 = .ok (.goto 31, 3) := by decide +kernel
theorem dX10_basket_39 : decode cX10_basket 39 = .ok (.iload_n 2, 1) := by decide +kernel
theorem dX10_basket_40 : decode cX10_basket 40 = .ok (.iconst 1, 1) := by decide +kernel
theorem dX10_basket_41 : decode cX10_basket 41 = .ok (.if_icmp .ne 10, 3) := by decide +kernel
theorem dX10_basket_44 : decode cX10_basket 44 = .ok (.aload_n 0, 1) := by decide +kernel
theorem dX10_basket_45 : decode cX10_basket 45 = .ok (.getfield 232, 3) := by decide +kernel
theorem dX10_basket_48 : decode cX10_basket 48 = .ok (.goto 19, 3) := by decide +kernel
theorem dX10_basket_51 : decode cX10_basket 51 = .ok (.iload_n 2, 1) := by decide +kernel
theorem dX10_basket_52 : decode cX10_basket 52 = .ok (.iconst 2, 1) := by decide +kernel
theorem dX10_basket_53 : decode cX10_basket 53 = .ok (.if_icmp .ne 10, 3) := by decide +kernel
theorem dX10_basket_56 : decode cX10_basket 56 = .ok (.aload_n 0, 1) := by decide +kernel
theorem dX10_basket_57 : decode cX10_basket 57 = .ok (.getfield 235, 3) := by decide +kernel
theorem dX10_basket_60 : decode cX10_basket 60 = .ok (.goto 7, 3) := by decide +kernel
theorem dX10_basket_63 : decode cX10_basket 63 = .ok (.aload_n 0, 1) := by decide +kernel
theorem dX10_basket_64 : decode cX10_basket 64 = .ok (.getfield 238, 3) := by decide +kernel
theorem dX10_basket_67 : decode cX10_basket 67 = .ok (.ireturn, 1) := by decide +kernel
theorem dX10_findWanted_0 : decode cX10_findWanted 0 = .ok (.iconst 0, 1) := by decide +kernel
theorem dX10_findWanted_1 : decode cX10_findWanted 1 = .ok (.istore_n 1, 1) := by decide +kernel
theorem dX10_findWanted_2 : decode cX10_findWanted 2 = .ok (.iload_n 1, 1) := by decide +kernel
theorem dX10_findWanted_3 : decode cX10_findWanted 3 = .ok (.aload_n 0, 1) := by decide +kernel
theorem dX10_findWanted_4 : decode cX10_findWanted 4 = .ok (.getfield 102, 3) := by decide +kernel
theorem dX10_findWanted_7 : decode cX10_findWanted 7 = .ok (.if_icmp .ge 16, 3) := by decide +kernel
theorem dX10_findWanted_10 : decode cX10_findWanted 10 = .ok (.aload_n 0, 1) := by decide +kernel
theorem dX10_findWanted_11 : decode cX10_findWanted 11 = .ok (.getfield 59, 3) := by decide +kernel
theorem dX10_findWanted_14 : decode cX10_findWanted 14 = .ok (.iload_n 1, 1) := by decide +kernel
theorem dX10_findWanted_15 : decode cX10_findWanted 15 = .ok (.iconst 0, 1) := by decide +kernel
theorem dX10_findWanted_16 : decode cX10_findWanted 16 = .ok (.iastore, 1) := by decide +kernel
theorem dX10_findWanted_17 : decode cX10_findWanted 17 = .ok (.iinc 1 1, 3) := by decide +kernel
theorem dX10_findWanted_20 : decode cX10_findWanted 20 = .ok (.goto (-18), 3) := by decide +kernel
theorem dX10_findWanted_23 : decode cX10_findWanted 23 = .ok (.iconst 0, 1) := by decide +kernel
theorem dX10_findWanted_24 : decode cX10_findWanted 24 = .ok (.istore_n 1, 1) := by decide +kernel
theorem dX10_findWanted_25 : decode cX10_findWanted 25 = .ok (.iload_n 1, 1) := by decide +kernel
theorem dX10_findWanted_26 : decode cX10_findWanted 26 = .ok (.aload_n 0, 1) := by decide +kernel
theorem dX10_findWanted_27 : decode cX10_findWanted 27 = .ok (.getfield 109, 3) := by decide +kernel
theorem dX10_findWanted_30 : decode cX10_findWanted 30 = .ok (.if_icmp .ge 77, 3) := by decide +kernel
theorem dX10_findWanted_33 : decode cX10_findWanted 33 = .ok (.aload_n 0, 1) := by decide +kernel
theorem dX10_findWanted_34 : decode cX10_findWanted 34 = .ok (.iload_n 1, 1) := by decide +kernel
theorem dX10_findWanted_35 : decode cX10_findWanted 35 = .ok (.invokevirtual 244, 3) := by decide +kernel
theorem dX10_findWanted_38 : decode cX10_findWanted 38 = .ok (.istore_n 2, 1) := by decide +kernel
theorem dX10_findWanted_39 : decode cX10_findWanted 39 = .ok (.iconst 0, 1) := by decide +kernel
theorem dX10_findWanted_40 : decode cX10_findWanted 40 = .ok (.istore_n 3, 1) := by decide +kernel
theorem dX10_findWanted_41 : decode cX10_findWanted 41 = .ok (.iload_n 3, 1) := by decide +kernel
theorem dX10_findWanted_42 : decode cX10_findWanted 42 = .ok (.aload_n 0, 1) := by decide +kernel
theorem dX10_findWanted_43 : decode cX10_findWanted 43 = .ok (.getfield 102, 3) := by decide +kernel
theorem dX10_findWanted_46 : decode cX10_findWanted 46 = .ok (.if_icmp .ge 55, 3) := by decide +kernel
theorem dX10_findWanted_49 : decode cX10_findWanted 49 = .ok (.aload_n 0, 1) := by decide +kernel
theorem dX10_findWanted_50 : decode cX10_findWanted 50 = .ok (.getfield 62, 3) := by decide +kernel
theorem dX10_findWanted_53 : decode cX10_findWanted 53 = .ok (.bipush 6, 2) := by decide +kernel
theorem dX10_findWanted_55 : decode cX10_findWanted 55 = .ok (.iload_n 1, 1) := by decide +kernel
theorem dX10_findWanted_56 : decode cX10_findWanted 56 = .ok (.imul, 1) := by decide +kernel
theorem dX10_findWanted_57 : decode cX10_findWanted 57 = .ok (.iload_n 3, 1) := by decide +kernel
theorem dX10_findWanted_58 : decode cX10_findWanted 58 = .ok (.iadd, 1) := by decide +kernel
theorem dX10_findWanted_59 : decode cX10_findWanted 59 = .ok (.aload_n 0, 1) := by decide +kernel
theorem dX10_findWanted_60 : decode cX10_findWanted 60 = .ok (.getfield 25, 3) := by decide +kernel
theorem dX10_findWanted_63 : decode cX10_findWanted 63 = .ok (.iload_n 1, 1) := by decide +kernel
theorem dX10_findWanted_64 : decode cX10_findWanted 64 = .ok (.iaload, 1) := by decide +kernel
theorem dX10_findWanted_65 : decode cX10_findWanted 65 = .ok (.aload_n 0, 1) := by decide +kernel
theorem dX10_findWanted_66 : decode cX10_findWanted 66 = .ok (.getfield 52, 3) := by decide +kernel
theorem dX10_findWanted_69 : decode cX10_findWanted 69 = .ok (.iload_n 3, 1) := by decide +kernel
theorem dX10_findWanted_70 : decode cX10_findWanted 70 = .ok (.iaload, 1) := by decide +kernel
theorem dX10_findWanted_71 : decode cX10_findWanted 71 = .ok (.imul, 1) := by decide +kernel
theorem dX10_findWanted_72 : decode cX10_findWanted 72 = .ok (.iastore, 1) := by decide +kernel
theorem dX10_findWanted_73 : decode cX10_findWanted 73 = .ok (.aload_n 0, 1) := by decide +kernel
theorem dX10_findWanted_74 : decode cX10_findWanted 74 = .ok (.getfield 59, 3) := by decide +kernel
theorem dX10_findWanted_77 : decode cX10_findWanted 77 = .ok (.iload_n 3, 1) := by decide +kernel
theorem dX10_findWanted_78 : decode cX10_findWanted 78 = .ok (.dup2, 1) := by decide +kernel
theorem dX10_findWanted_79 : decode cX10_findWanted 79 = .ok (.iaload, 1) := by decide +kernel
theorem dX10_findWanted_80 : decode cX10_findWanted 80 = .ok (.aload_n 0, 1) := by decide +kernel
theorem dX10_findWanted_81 : decode cX10_findWanted 81 = .ok (.getfield 25, 3) := by decide +kernel
theorem dX10_findWanted_84 : decode cX10_findWanted 84 = .ok (.iload_n 1, 1) := by decide +kernel
theorem dX10_findWanted_85 : decode cX10_findWanted 85 = .ok (.iaload, 1) := by decide +kernel
theorem dX10_findWanted_86 : decode cX10_findWanted 86 = .ok (.aload_n 0, 1) := by decide +kernel
theorem dX10_findWanted_87 : decode cX10_findWanted 87 = .ok (.getfield 52, 3) := by decide +kernel
theorem dX10_findWanted_90 : decode cX10_findWanted 90 = .ok (.iload_n 3, 1) := by decide +kernel
theorem dX10_findWanted_91 : decode cX10_findWanted 91 = .ok (.iaload, 1) := by decide +kernel
theorem dX10_findWanted_92 : decode cX10_findWanted 92 = .ok (.imul, 1) := by decide +kernel
theorem dX10_findWanted_93 : decode cX10_findWanted 93 = .ok (.iadd, 1) := by decide +kernel
theorem dX10_findWanted_94 : decode cX10_findWanted 94 = .ok (.iastore, 1) := by decide +kernel
theorem dX10_findWanted_95 : decode cX10_findWanted 95 = .ok (.iinc 3 1, 3) := by decide +kernel
theorem dX10_findWanted_98 : decode cX10_findWanted 98 = .ok (.goto (-57), 3) := by decide +kernel
theorem dX10_findWanted_101 : decode cX10_findWanted 101 = .ok (.iinc 1 1, 3) := by decide +kernel
theorem dX10_findWanted_104 : decode cX10_findWanted 104 = .ok (.goto (-79), 3) := by decide +kernel
theorem dX10_findWanted_107 : decode cX10_findWanted 107 = .ok (.return_, 1) := by decide +kernel
theorem dX10_over_0 : decode cX10_over 0 = .ok (.aload_n 0, 1) := by decide +kernel
theorem dX10_over_1 : decode cX10_over 1 = .ok (.getfield 9, 3) := by decide +kernel
theorem dX10_over_4 : decode cX10_over 4 = .ok (.iload_n 1, 1) := by decide +kernel
theorem dX10_over_5 : decode cX10_over 5 = .ok (.iaload, 1) := by decide +kernel
theorem dX10_over_6 : decode cX10_over 6 = .ok (.aload_n 0, 1) := by decide +kernel
theorem dX10_over_7 : decode cX10_over 7 = .ok (.getfield 59, 3) := by decide +kernel
theorem dX10_over_10 : decode cX10_over 10 = .ok (.iload_n 1, 1) := by decide +kernel
theorem dX10_over_11 : decode cX10_over 11 = .ok (.iaload, 1) := by decide +kernel
theorem dX10_over_12 : decode cX10_over 12 = .ok (.isub, 1) := by decide +kernel
theorem dX10_over_13 : decode cX10_over 13 = .ok (.ireturn, 1) := by decide +kernel
theorem dX10_bothOver_0 : decode cX10_bothOver 0 = .ok (.iconst 0, 1) := by decide +kernel
theorem dX10_bothOver_1 : decode cX10_bothOver 1 = .ok (.istore_n 1, 1) := by decide +kernel
theorem dX10_bothOver_2 : decode cX10_bothOver 2 = .ok (.iconst 0, 1) := by decide +kernel
theorem dX10_bothOver_3 : decode cX10_bothOver 3 = .ok (.istore_n 2, 1) := by decide +kernel
theorem dX10_bothOver_4 : decode cX10_bothOver 4 = .ok (.iload_n 2, 1) := by decide +kernel
theorem dX10_bothOver_5 : decode cX10_bothOver 5 = .ok (.aload_n 0, 1) := by decide +kernel
theorem dX10_bothOver_6 : decode cX10_bothOver 6 = .ok (.getfield 102, 3) := by decide +kernel
theorem dX10_bothOver_9 : decode cX10_bothOver 9 = .ok (.if_icmp .ge 20, 3) := by decide +kernel
theorem dX10_bothOver_12 : decode cX10_bothOver 12 = .ok (.iload_n 1, 1) := by decide +kernel
theorem dX10_bothOver_13 : decode cX10_bothOver 13 = .ok (.aload_n 0, 1) := by decide +kernel
theorem dX10_bothOver_14 : decode cX10_bothOver 14 = .ok (.iload_n 2, 1) := by decide +kernel
theorem dX10_bothOver_15 : decode cX10_bothOver 15 = .ok (.invokevirtual 250, 3) := by decide +kernel
theorem dX10_bothOver_18 : decode cX10_bothOver 18 = .ok (.invokestatic 253, 3) := by decide +kernel
theorem dX10_bothOver_21 : decode cX10_bothOver 21 = .ok (.iadd, 1) := by decide +kernel
theorem dX10_bothOver_22 : decode cX10_bothOver 22 = .ok (.istore_n 1, 1) := by decide +kernel
theorem dX10_bothOver_23 : decode cX10_bothOver 23 = .ok (.iinc 2 1, 3) := by decide +kernel
theorem dX10_bothOver_26 : decode cX10_bothOver 26 = .ok (.goto (-22), 3) := by decide +kernel
theorem dX10_bothOver_29 : decode cX10_bothOver 29 = .ok (.iload_n 1, 1) := by decide +kernel
theorem dX10_bothOver_30 : decode cX10_bothOver 30 = .ok (.ireturn, 1) := by decide +kernel
theorem dX10_wanted_0 : decode cX10_wanted 0 = .ok (.iload_n 1, 1) := by decide +kernel
theorem dX10_wanted_1 : decode cX10_wanted 1 = .ok (.iconst (-1), 1) := by decide +kernel
theorem dX10_wanted_2 : decode cX10_wanted 2 = .ok (.if_icmp .ne 12, 3) := by decide +kernel
theorem dX10_wanted_5 : decode cX10_wanted 5 = .ok (.iload_n 2, 1) := by decide +kernel
theorem dX10_wanted_6 : decode cX10_wanted 6 = .ok (.iconst 1, 1) := by decide +kernel
theorem dX10_wanted_7 : decode cX10_wanted 7 = .ok (.if_icmp .ne 7, 3) := by decide +kernel
theorem dX10_wanted_10 : decode cX10_wanted 10 = .ok (.iconst 1, 1) := by decide +kernel
theorem dX10_wanted_11 : decode cX10_wanted 11 = .ok (.goto 4, 3) := by decide +kernel
theorem dX10_wanted_14 : decode cX10_wanted 14 = .ok (.iconst 0, 1) := by decide +kernel
theorem dX10_wanted_15 : decode cX10_wanted 15 = .ok (.istore_n 3, 1) := by decide +kernel
theorem dX10_wanted_16 : decode cX10_wanted 16 = .ok (.iload_n 3, 1) := by decide +kernel
theorem dX10_wanted_17 : decode cX10_wanted 17 = .ok (.ifCond .ne 25, 3) := by decide +kernel
theorem dX10_wanted_20 : decode cX10_wanted 20 = .ok (.aload_n 0, 1) := by decide +kernel
theorem dX10_wanted_21 : decode cX10_wanted 21 = .ok (.iload_n 1, 1) := by decide +kernel
theorem dX10_wanted_22 : decode cX10_wanted 22 = .ok (.invokevirtual 132, 3) := by decide +kernel
theorem dX10_wanted_25 : decode cX10_wanted 25 = .ok (.ifCond .eq 13, 3) := by decide +kernel
theorem dX10_wanted_28 : decode cX10_wanted 28 = .ok (.iload_n 2, 1) := by decide +kernel
theorem dX10_wanted_29 : decode cX10_wanted 29 = .ok (.i2l, 1) := by decide +kernel
theorem dX10_wanted_30 : decode cX10_wanted 30 = .ok (.lconst 0, 1) := by decide +kernel
theorem dX10_wanted_31 : decode cX10_wanted 31 = .ok (.lconst 1, 1) := by decide +kernel
theorem dX10_wanted_32 : decode cX10_wanted 32 = .ok (.invokestatic 105, 3) := by decide +kernel
theorem dX10_wanted_35 : decode cX10_wanted 35 = .ok (.ifCond .ne 7, 3) := by decide +kernel
theorem dX10_wanted_38 : decode cX10_wanted 38 = .ok (.ldc_w 256, 3) := by decide +kernel
theorem dX10_wanted_41 : decode cX10_wanted 41 = .ok (.ireturn, 1) := by decide +kernel
theorem dX10_wanted_42 : decode cX10_wanted 42 = .ok (.aload_n 0, 1) := by decide +kernel
theorem dX10_wanted_43 : decode cX10_wanted 43 = .ok (.invokevirtual 257, 3) := by decide +kernel
theorem dX10_wanted_46 : decode cX10_wanted 46 = .ok (.iload_n 3, 1) := by decide +kernel
theorem dX10_wanted_47 : decode cX10_wanted 47 = .ok (.ifCond .eq 10, 3) := by decide +kernel
theorem dX10_wanted_50 : decode cX10_wanted 50 = .ok (.aload_n 0, 1) := by decide +kernel
theorem dX10_wanted_51 : decode cX10_wanted 51 = .ok (.invokevirtual 260, 3) := by decide +kernel
theorem dX10_wanted_54 : decode cX10_wanted 54 = .ok (.goto 21, 3) := by decide +kernel
theorem dX10_wanted_57 : decode cX10_wanted 57 = .ok (.iload_n 2, 1) := by decide +kernel
theorem dX10_wanted_58 : decode cX10_wanted 58 = .ok (.ifCond .ne 12, 3) := by decide +kernel
theorem dX10_wanted_61 : decode cX10_wanted 61 = .ok (.aload_n 0, 1) := by decide +kernel
theorem dX10_wanted_62 : decode cX10_wanted 62 = .ok (.getfield 59, 3) := by decide +kernel
theorem dX10_wanted_65 : decode cX10_wanted 65 = .ok (.iload_n 1, 1) := by decide +kernel
theorem dX10_wanted_66 : decode cX10_wanted 66 = .ok (.iaload, 1) := by decide +kernel
theorem dX10_wanted_67 : decode cX10_wanted 67 = .ok (.goto 8, 3) := by decide +kernel
theorem dX10_wanted_70 : decode cX10_wanted 70 = .ok (.aload_n 0, 1) := by decide +kernel
theorem dX10_wanted_71 : decode cX10_wanted 71 = .ok (.iload_n 1, 1) := by decide +kernel
theorem dX10_wanted_72 : decode cX10_wanted 72 = .ok (.invokevirtual 250, 3) := by decide +kernel
theorem dX10_wanted_75 : decode cX10_wanted 75 = .ok (.ireturn, 1) := by decide +kernel
theorem dX10_led_0 : decode cX10_led 0 = .ok (.aload_n 0, 1) := by decide +kernel
theorem dX10_led_1 : decode cX10_led 1 = .ok (.iload_n 1, 1) := by decide +kernel
theorem dX10_led_2 : decode cX10_led 2 = .ok (.invokevirtual 132, 3) := by decide +kernel
theorem dX10_led_5 : decode cX10_led 5 = .ok (.ifCond .eq 11, 3) := by decide +kernel
theorem dX10_led_8 : decode cX10_led 8 = .ok (.aload_n 0, 1) := by decide +kernel
theorem dX10_led_9 : decode cX10_led 9 = .ok (.iload_n 2, 1) := by decide +kernel
theorem dX10_led_10 : decode cX10_led 10 = .ok (.invokevirtual 144, 3) := by decide +kernel
theorem dX10_led_13 : decode cX10_led 13 = .ok (.ifCond .ne 5, 3) := by decide +kernel
theorem dX10_led_16 : decode cX10_led 16 = .ok (.iconst (-1), 1) := by decide +kernel
theorem dX10_led_17 : decode cX10_led 17 = .ok (.ireturn, 1) := by decide +kernel
theorem dX10_led_18 : decode cX10_led 18 = .ok (.aload_n 0, 1) := by decide +kernel
theorem dX10_led_19 : decode cX10_led 19 = .ok (.invokevirtual 257, 3) := by decide +kernel
theorem dX10_led_22 : decode cX10_led 22 = .ok (.aload_n 0, 1) := by decide +kernel
theorem dX10_led_23 : decode cX10_led 23 = .ok (.getfield 62, 3) := by decide +kernel
theorem dX10_led_26 : decode cX10_led 26 = .ok (.bipush 6, 2) := by decide +kernel
theorem dX10_led_28 : decode cX10_led 28 = .ok (.iload_n 2, 1) := by decide +kernel
theorem dX10_led_29 : decode cX10_led 29 = .ok (.imul, 1) := by decide +kernel
theorem dX10_led_30 : decode cX10_led 30 = .ok (.iload_n 1, 1) := by decide +kernel
theorem dX10_led_31 : decode cX10_led 31 = .ok (.iadd, 1) := by decide +kernel
theorem dX10_led_32 : decode cX10_led 32 = .ok (.iaload, 1) := by decide +kernel
theorem dX10_led_33 : decode cX10_led 33 = .ok (.ireturn, 1) := by decide +kernel
theorem dX10_goRounds_0 : decode cX10_goRounds 0 = .ok (.iconst 0, 1) := by decide +kernel
theorem dX10_goRounds_1 : decode cX10_goRounds 1 = .ok (.istore_n 2, 1) := by decide +kernel
theorem dX10_goRounds_2 : decode cX10_goRounds 2 = .ok (.iload_n 2, 1) := by decide +kernel
theorem dX10_goRounds_3 : decode cX10_goRounds 3 = .ok (.aload_n 0, 1) := by decide +kernel
theorem dX10_goRounds_4 : decode cX10_goRounds 4 = .ok (.getfield 102, 3) := by decide +kernel
theorem dX10_goRounds_7 : decode cX10_goRounds 7 = .ok (.if_icmp .ge 39, 3) := by decide +kernel
theorem dX10_goRounds_10 : decode cX10_goRounds 10 = .ok (.aload_n 0, 1) := by decide +kernel
theorem dX10_goRounds_11 : decode cX10_goRounds 11 = .ok (.getfield 71, 3) := by decide +kernel
theorem dX10_goRounds_14 : decode cX10_goRounds 14 = .ok (.iload_n 2, 1) := by decide +kernel
theorem dX10_goRounds_15 : decode cX10_goRounds 15 = .ok (.aload_n 0, 1) := by decide +kernel
theorem dX10_goRounds_16 : decode cX10_goRounds 16 = .ok (.getfield 9, 3) := by decide +kernel
theorem dX10_goRounds_19 : decode cX10_goRounds 19 = .ok (.bipush 12, 2) := by decide +kernel
theorem dX10_goRounds_21 : decode cX10_goRounds 21 = .ok (.iload_n 2, 1) := by decide +kernel
theorem dX10_goRounds_22 : decode cX10_goRounds 22 = .ok (.iadd, 1) := by decide +kernel
theorem dX10_goRounds_23 : decode cX10_goRounds 23 = .ok (.iaload, 1) := by decide +kernel
theorem dX10_goRounds_24 : decode cX10_goRounds 24 = .ok (.iastore, 1) := by decide +kernel
theorem dX10_goRounds_25 : decode cX10_goRounds 25 = .ok (.aload_n 0, 1) := by decide +kernel
theorem dX10_goRounds_26 : decode cX10_goRounds 26 = .ok (.getfield 68, 3) := by decide +kernel
theorem dX10_goRounds_29 : decode cX10_goRounds 29 = .ok (.iload_n 2, 1) := by decide +kernel
theorem dX10_goRounds_30 : decode cX10_goRounds 30 = .ok (.aload_n 0, 1) := by decide +kernel
theorem dX10_goRounds_31 : decode cX10_goRounds 31 = .ok (.getfield 9, 3) := by decide +kernel
theorem dX10_goRounds_34 : decode cX10_goRounds 34 = .ok (.bipush 12, 2) := by decide +kernel
theorem dX10_goRounds_36 : decode cX10_goRounds 36 = .ok (.iload_n 2, 1) := by decide +kernel
theorem dX10_goRounds_37 : decode cX10_goRounds 37 = .ok (.iadd, 1) := by decide +kernel
theorem dX10_goRounds_38 : decode cX10_goRounds 38 = .ok (.iaload, 1) := by decide +kernel
theorem dX10_goRounds_39 : decode cX10_goRounds 39 = .ok (.iastore, 1) := by decide +kernel
theorem dX10_goRounds_40 : decode cX10_goRounds 40 = .ok (.iinc 2 1, 3) := by decide +kernel
theorem dX10_goRounds_43 : decode cX10_goRounds 43 = .ok (.goto (-41), 3) := by decide +kernel
theorem dX10_goRounds_46 : decode cX10_goRounds 46 = .ok (.aload_n 0, 1) := by decide +kernel
theorem dX10_goRounds_47 : decode cX10_goRounds 47 = .ok (.invokevirtual 257, 3) := by decide +kernel
theorem dX10_goRounds_50 : decode cX10_goRounds 50 = .ok (.aload_n 0, 1) := by decide +kernel
theorem dX10_goRounds_51 : decode cX10_goRounds 51 = .ok (.iconst 0, 1) := by decide +kernel
theorem dX10_goRounds_52 : decode cX10_goRounds 52 = .ok (.putfield 263, 3) := by decide +kernel
theorem dX10_goRounds_55 : decode cX10_goRounds 55 = .ok (.aload_n 0, 1) := by decide +kernel
theorem dX10_goRounds_56 : decode cX10_goRounds 56 = .ok (.aload_n 0, 1) := by decide +kernel
theorem dX10_goRounds_57 : decode cX10_goRounds 57 = .ok (.invokevirtual 260, 3) := by decide +kernel
theorem dX10_goRounds_60 : decode cX10_goRounds 60 = .ok (.putfield 266, 3) := by decide +kernel
theorem dX10_goRounds_63 : decode cX10_goRounds 63 = .ok (.aload_n 0, 1) := by decide +kernel
theorem dX10_goRounds_64 : decode cX10_goRounds 64 = .ok (.aload_n 0, 1) := by decide +kernel
theorem dX10_goRounds_65 : decode cX10_goRounds 65 = .ok (.getfield 266, 3) := by decide +kernel
theorem dX10_goRounds_68 : decode cX10_goRounds 68 = .ok (.putfield 269, 3) := by decide +kernel
theorem dX10_goRounds_71 : decode cX10_goRounds 71 = .ok (.aload_n 0, 1) := by decide +kernel
theorem dX10_goRounds_72 : decode cX10_goRounds 72 = .ok (.iconst 0, 1) := by decide +kernel
theorem dX10_goRounds_73 : decode cX10_goRounds 73 = .ok (.putfield 272, 3) := by decide +kernel
theorem dX10_goRounds_76 : decode cX10_goRounds 76 = .ok (.iconst 1, 1) := by decide +kernel
theorem dX10_goRounds_77 : decode cX10_goRounds 77 = .ok (.istore_n 2, 1) := by decide +kernel
theorem dX10_goRounds_78 : decode cX10_goRounds 78 = .ok (.iconst 1, 1) := by decide +kernel
theorem dX10_goRounds_79 : decode cX10_goRounds 79 = .ok (.istore_n 3, 1) := by decide +kernel
theorem dX10_goRounds_80 : decode cX10_goRounds 80 = .ok (.iload_n 3, 1) := by decide +kernel
theorem dX10_goRounds_81 : decode cX10_goRounds 81 = .ok (.iload_n 1, 1) := by decide +kernel
theorem dX10_goRounds_82 : decode cX10_goRounds 82 = .ok (.if_icmp .gt 142, 3) := by decide +kernel
theorem dX10_goRounds_85 : decode cX10_goRounds 85 = .ok (.iload_n 2, 1) := by decide +kernel
theorem dX10_goRounds_86 : decode cX10_goRounds 86 = .ok (.ifCond .eq 138, 3) := by decide +kernel
theorem dX10_goRounds_89 : decode cX10_goRounds 89 = .ok (.iconst 0, 1) := by decide +kernel
theorem dX10_goRounds_90 : decode cX10_goRounds 90 = .ok (.istore_n 2, 1) := by decide +kernel
theorem dX10_goRounds_91 : decode cX10_goRounds 91 = .ok (.iconst 0, 1) := by decide +kernel
theorem dX10_goRounds_92 : decode cX10_goRounds 92 = .ok (.istore 4, 2) := by decide +kernel
theorem dX10_goRounds_94 : decode cX10_goRounds 94 = .ok (.iload 4, 2) := by decide +kernel
theorem dX10_goRounds_96 : decode cX10_goRounds 96 = .ok (.aload_n 0, 1) := by decide +kernel
theorem dX10_goRounds_97 : decode cX10_goRounds 97 = .ok (.getfield 102, 3) := by decide +kernel
theorem dX10_goRounds_100 : decode cX10_goRounds 100 = .ok (.if_icmp .ge 92, 3) := by decide +kernel
theorem dX10_goRounds_103 : decode cX10_goRounds 103 = .ok (.aload_n 0, 1) := by decide +kernel
theorem dX10_goRounds_104 : decode cX10_goRounds 104 = .ok (.getfield 9, 3) := by decide +kernel
theorem dX10_goRounds_107 : decode cX10_goRounds 107 = .ok (.bipush 12, 2) := by decide +kernel
theorem dX10_goRounds_109 : decode cX10_goRounds 109 = .ok (.iload 4, 2) := by decide +kernel
theorem dX10_goRounds_111 : decode cX10_goRounds 111 = .ok (.iadd, 1) := by decide +kernel
theorem dX10_goRounds_112 : decode cX10_goRounds 112 = .ok (.iaload, 1) := by decide +kernel
theorem dX10_goRounds_113 : decode cX10_goRounds 113 = .ok (.istore 5, 2) := by decide +kernel
theorem dX10_goRounds_115 : decode cX10_goRounds 115 = .ok (.aload_n 0, 1) := by decide +kernel
theorem dX10_goRounds_116 : decode cX10_goRounds 116 = .ok (.iload 4, 2) := by decide +kernel
theorem dX10_goRounds_118 : decode cX10_goRounds 118 = .ok (.invokevirtual 250, 3) := by decide +kernel
theorem dX10_goRounds_121 : decode cX10_goRounds 121 = .ok (.ifCond .ge 14, 3) := by decide +kernel
theorem dX10_goRounds_124 : decode cX10_goRounds 124 = .ok (.iload 5, 2) := by decide +kernel
theorem dX10_goRounds_126 : decode cX10_goRounds 126 = .ok (.bipush 99, 2) := by decide +kernel
theorem dX10_goRounds_128 : decode cX10_goRounds 128 = .ok (.if_icmp .ge 7, 3) := by decide +kernel
theorem dX10_goRounds_131 : decode cX10_goRounds 131 = .ok (.iconst 1, 1) := by decide +kernel
theorem dX10_goRounds_132 : decode cX10_goRounds 132 = .ok (.goto 22, 3) := by decide +kernel
theorem dX10_goRounds_135 : decode cX10_goRounds 135 = .ok (.aload_n 0, 1) := by decide +kernel
theorem dX10_goRounds_136 : decode cX10_goRounds 136 = .ok (.iload 4, 2) := by decide +kernel
theorem dX10_goRounds_138 : decode cX10_goRounds 138 = .ok (.invokevirtual 250, 3) := by decide +kernel
theorem dX10_goRounds_141 : decode cX10_goRounds 141 = .ok (.ifCond .le 12, 3) := by decide +kernel
theorem dX10_goRounds_144 : decode cX10_goRounds 144 = .ok (.iload 5, 2) := by decide +kernel
theorem dX10_goRounds_146 : decode cX10_goRounds 146 = .ok (.ifCond .le 7, 3) := by decide +kernel
