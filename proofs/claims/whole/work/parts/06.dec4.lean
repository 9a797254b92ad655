theorem dX10_goRounds_149 : decode cX10_goRounds 149 = .ok (.iconst (-1), 1) := by decide +kernel
theorem dX10_goRounds_150 : decode cX10_goRounds 150 = .ok (.goto 4, 3) := by decide +kernel
theorem dX10_goRounds_153 : decode cX10_goRounds 153 = .ok (.iconst 0, 1) := by decide +kernel
theorem dX10_goRounds_154 : decode cX10_goRounds 154 = .ok (.istore 6, 2) := by decide +kernel
theorem dX10_goRounds_156 : decode cX10_goRounds 156 = .ok (.aload_n 0, 1) := by decide +kernel
theorem dX10_goRounds_157 : decode cX10_goRounds 157 = .ok (.getfield 9, 3) := by decide +kernel
theorem dX10_goRounds_160 : decode cX10_goRounds 160 = .ok (.bipush 12, 2) := by decide +kernel
theorem dX10_goRounds_162 : decode cX10_goRounds 162 = .ok (.iload 4, 2) := by decide +kernel
theorem dX10_goRounds_164 : decode cX10_goRounds 164 = .ok (.iadd, 1) := by decide +kernel
theorem dX10_goRounds_165 : decode cX10_goRounds 165 = .ok (.iload 5, 2) := by decide +kernel
theorem dX10_goRounds_167 : decode cX10_goRounds 167 = .ok (.iload 6, 2) := by decide +kernel
theorem dX10_goRounds_169 : decode cX10_goRounds 169 = .ok (.iadd, 1) := by decide +kernel
theorem dX10_goRounds_170 : decode cX10_goRounds 170 = .ok (.iastore, 1) := by decide +kernel
theorem dX10_goRounds_171 : decode cX10_goRounds 171 = .ok (.iload_n 2, 1) := by decide +kernel
theorem dX10_goRounds_172 : decode cX10_goRounds 172 = .ok (.ifCond .ne 8, 3) := by decide +kernel
theorem dX10_goRounds_175 : decode cX10_goRounds 175 = .ok (.iload 6, 2) := by decide +kernel
theorem dX10_goRounds_177 : decode cX10_goRounds 177 = .ok (.ifCond .eq 7, 3) := by decide +kernel
theorem dX10_goRounds_180 : decode cX10_goRounds 180 = .ok (.iconst 1, 1) := by decide +kernel
theorem dX10_goRounds_181 : decode cX10_goRounds 181 = .ok (.goto 4, 3) := by decide +kernel
theorem dX10_goRounds_184 : decode cX10_goRounds 184 = .ok (.iconst 0, 1) := by decide +kernel
theorem dX10_goRounds_185 : decode cX10_goRounds 185 = .ok (.istore_n 2, 1) := by decide +kernel
theorem dX10_goRounds_186 : decode cX10_goRounds 186 = .ok (.iinc 4 1, 3) := by decide +kernel
theorem dX10_goRounds_189 : decode cX10_goRounds 189 = .ok (.goto (-95), 3) := by decide +kernel
theorem dX10_goRounds_192 : decode cX10_goRounds 192 = .ok (.iload_n 2, 1) := by decide +kernel
theorem dX10_goRounds_193 : decode cX10_goRounds 193 = .ok (.ifCond .eq 25, 3) := by decide +kernel
theorem dX10_goRounds_196 : decode cX10_goRounds 196 = .ok (.aload_n 0, 1) := by decide +kernel
theorem dX10_goRounds_197 : decode cX10_goRounds 197 = .ok (.invokevirtual 257, 3) := by decide +kernel
theorem dX10_goRounds_200 : decode cX10_goRounds 200 = .ok (.aload_n 0, 1) := by decide +kernel
theorem dX10_goRounds_201 : decode cX10_goRounds 201 = .ok (.iload_n 3, 1) := by decide +kernel
theorem dX10_goRounds_202 : decode cX10_goRounds 202 = .ok (.putfield 263, 3) := by decide +kernel
theorem dX10_goRounds_205 : decode cX10_goRounds 205 = .ok (.aload_n 0, 1) := by decide +kernel
theorem dX10_goRounds_206 : decode cX10_goRounds 206 = .ok (.aload_n 0, 1) := by decide +kernel
theorem dX10_goRounds_207 : decode cX10_goRounds 207 = .ok (.invokevirtual 260, 3) := by decide +kernel
theorem dX10_goRounds_210 : decode cX10_goRounds 210 = .ok (.putfield 266, 3) := by decide +kernel
theorem dX10_goRounds_213 : decode cX10_goRounds 213 = .ok (.aload_n 0, 1) := by decide +kernel
theorem dX10_goRounds_214 : decode cX10_goRounds 214 = .ok (.iload_n 3, 1) := by decide +kernel
theorem dX10_goRounds_215 : decode cX10_goRounds 215 = .ok (.invokevirtual 275, 3) := by decide +kernel
theorem dX10_goRounds_218 : decode cX10_goRounds 218 = .ok (.iinc 3 1, 3) := by decide +kernel
theorem dX10_goRounds_221 : decode cX10_goRounds 221 = .ok (.goto (-141), 3) := by decide +kernel
theorem dX10_goRounds_224 : decode cX10_goRounds 224 = .ok (.iconst 0, 1) := by decide +kernel
theorem dX10_goRounds_225 : decode cX10_goRounds 225 = .ok (.istore_n 3, 1) := by decide +kernel
theorem dX10_goRounds_226 : decode cX10_goRounds 226 = .ok (.iload_n 3, 1) := by decide +kernel
theorem dX10_goRounds_227 : decode cX10_goRounds 227 = .ok (.aload_n 0, 1) := by decide +kernel
theorem dX10_goRounds_228 : decode cX10_goRounds 228 = .ok (.getfield 102, 3) := by decide +kernel
theorem dX10_goRounds_231 : decode cX10_goRounds 231 = .ok (.if_icmp .ge 39, 3) := by decide +kernel
theorem dX10_goRounds_234 : decode cX10_goRounds 234 = .ok (.aload_n 0, 1) := by decide +kernel
theorem dX10_goRounds_235 : decode cX10_goRounds 235 = .ok (.getfield 65, 3) := by decide +kernel
theorem dX10_goRounds_238 : decode cX10_goRounds 238 = .ok (.iload_n 3, 1) := by decide +kernel
theorem dX10_goRounds_239 : decode cX10_goRounds 239 = .ok (.aload_n 0, 1) := by decide +kernel
theorem dX10_goRounds_240 : decode cX10_goRounds 240 = .ok (.getfield 9, 3) := by decide +kernel
theorem dX10_goRounds_243 : decode cX10_goRounds 243 = .ok (.bipush 12, 2) := by decide +kernel
theorem dX10_goRounds_245 : decode cX10_goRounds 245 = .ok (.iload_n 3, 1) := by decide +kernel
theorem dX10_goRounds_246 : decode cX10_goRounds 246 = .ok (.iadd, 1) := by decide +kernel
theorem dX10_goRounds_247 : decode cX10_goRounds 247 = .ok (.iaload, 1) := by decide +kernel
theorem dX10_goRounds_248 : decode cX10_goRounds 248 = .ok (.iastore, 1) := by decide +kernel
theorem dX10_goRounds_249 : decode cX10_goRounds 249 = .ok (.aload_n 0, 1) := by decide +kernel
theorem dX10_goRounds_250 : decode cX10_goRounds 250 = .ok (.getfield 9, 3) := by decide +kernel
theorem dX10_goRounds_253 : decode cX10_goRounds 253 = .ok (.bipush 12, 2) := by decide +kernel
theorem dX10_goRounds_255 : decode cX10_goRounds 255 = .ok (.iload_n 3, 1) := by decide +kernel
theorem dX10_goRounds_256 : decode cX10_goRounds 256 = .ok (.iadd, 1) := by decide +kernel
theorem dX10_goRounds_257 : decode cX10_goRounds 257 = .ok (.aload_n 0, 1) := by decide +kernel
theorem dX10_goRounds_258 : decode cX10_goRounds 258 = .ok (.getfield 71, 3) := by decide +kernel
theorem dX10_goRounds_261 : decode cX10_goRounds 261 = .ok (.iload_n 3, 1) := by decide +kernel
theorem dX10_goRounds_262 : decode cX10_goRounds 262 = .ok (.iaload, 1) := by decide +kernel
theorem dX10_goRounds_263 : decode cX10_goRounds 263 = .ok (.iastore, 1) := by decide +kernel
theorem dX10_goRounds_264 : decode cX10_goRounds 264 = .ok (.iinc 3 1, 3) := by decide +kernel
theorem dX10_goRounds_267 : decode cX10_goRounds 267 = .ok (.goto (-41), 3) := by decide +kernel
theorem dX10_goRounds_270 : decode cX10_goRounds 270 = .ok (.return_, 1) := by decide +kernel
theorem dX10_keepsLeast_0 : decode cX10_keepsLeast 0 = .ok (.aload_n 0, 1) := by decide +kernel
theorem dX10_keepsLeast_1 : decode cX10_keepsLeast 1 = .ok (.getfield 266, 3) := by decide +kernel
theorem dX10_keepsLeast_4 : decode cX10_keepsLeast 4 = .ok (.aload_n 0, 1) := by decide +kernel
theorem dX10_keepsLeast_5 : decode cX10_keepsLeast 5 = .ok (.getfield 269, 3) := by decide +kernel
theorem dX10_keepsLeast_8 : decode cX10_keepsLeast 8 = .ok (.if_icmp .lt 4, 3) := by decide +kernel
theorem dX10_keepsLeast_11 : decode cX10_keepsLeast 11 = .ok (.return_, 1) := by decide +kernel
theorem dX10_keepsLeast_12 : decode cX10_keepsLeast 12 = .ok (.aload_n 0, 1) := by decide +kernel
theorem dX10_keepsLeast_13 : decode cX10_keepsLeast 13 = .ok (.aload_n 0, 1) := by decide +kernel
theorem dX10_keepsLeast_14 : decode cX10_keepsLeast 14 = .ok (.getfield 266, 3) := by decide +kernel
theorem dX10_keepsLeast_17 : decode cX10_keepsLeast 17 = .ok (.putfield 269, 3) := by decide +kernel
theorem dX10_keepsLeast_20 : decode cX10_keepsLeast 20 = .ok (.aload_n 0, 1) := by decide +kernel
theorem dX10_keepsLeast_21 : decode cX10_keepsLeast 21 = .ok (.iload_n 1, 1) := by decide +kernel
theorem dX10_keepsLeast_22 : decode cX10_keepsLeast 22 = .ok (.putfield 272, 3) := by decide +kernel
theorem dX10_keepsLeast_25 : decode cX10_keepsLeast 25 = .ok (.iconst 0, 1) := by decide +kernel
theorem dX10_keepsLeast_26 : decode cX10_keepsLeast 26 = .ok (.istore_n 2, 1) := by decide +kernel
theorem dX10_keepsLeast_27 : decode cX10_keepsLeast 27 = .ok (.iload_n 2, 1) := by decide +kernel
theorem dX10_keepsLeast_28 : decode cX10_keepsLeast 28 = .ok (.aload_n 0, 1) := by decide +kernel
theorem dX10_keepsLeast_29 : decode cX10_keepsLeast 29 = .ok (.getfield 102, 3) := by decide +kernel
theorem dX10_keepsLeast_32 : decode cX10_keepsLeast 32 = .ok (.if_icmp .ge 24, 3) := by decide +kernel
theorem dX10_keepsLeast_35 : decode cX10_keepsLeast 35 = .ok (.aload_n 0, 1) := by decide +kernel
theorem dX10_keepsLeast_36 : decode cX10_keepsLeast 36 = .ok (.getfield 68, 3) := by decide +kernel
theorem dX10_keepsLeast_39 : decode cX10_keepsLeast 39 = .ok (.iload_n 2, 1) := by decide +kernel
theorem dX10_keepsLeast_40 : decode cX10_keepsLeast 40 = .ok (.aload_n 0, 1) := by decide +kernel
theorem dX10_keepsLeast_41 : decode cX10_keepsLeast 41 = .ok (.getfield 9, 3) := by decide +kernel
theorem dX10_keepsLeast_44 : decode cX10_keepsLeast 44 = .ok (.bipush 12, 2) := by decide +kernel
theorem dX10_keepsLeast_46 : decode cX10_keepsLeast 46 = .ok (.iload_n 2, 1) := by decide +kernel
theorem dX10_keepsLeast_47 : decode cX10_keepsLeast 47 = .ok (.iadd, 1) := by decide +kernel
theorem dX10_keepsLeast_48 : decode cX10_keepsLeast 48 = .ok (.iaload, 1) := by decide +kernel
theorem dX10_keepsLeast_49 : decode cX10_keepsLeast 49 = .ok (.iastore, 1) := by decide +kernel
theorem dX10_keepsLeast_50 : decode cX10_keepsLeast 50 = .ok (.iinc 2 1, 3) := by decide +kernel
theorem dX10_keepsLeast_53 : decode cX10_keepsLeast 53 = .ok (.goto (-26), 3) := by decide +kernel
theorem dX10_keepsLeast_56 : decode cX10_keepsLeast 56 = .ok (.return_, 1) := by decide +kernel
theorem dX10_areRounds_0 : decode cX10_areRounds 0 = .ok (.iload_n 0, 1) := by decide +kernel
theorem dX10_areRounds_1 : decode cX10_areRounds 1 = .ok (.i2l, 1) := by decide +kernel
theorem dX10_areRounds_2 : decode cX10_areRounds 2 = .ok (.lconst 1, 1) := by decide +kernel
theorem dX10_areRounds_3 : decode cX10_areRounds 3 = .ok (.ldc2_w 278, 3) := by decide +kernel
theorem dX10_areRounds_6 : decode cX10_areRounds 6 = .ok (.invokestatic 105, 3) := by decide +kernel
theorem dX10_areRounds_9 : decode cX10_areRounds 9 = .ok (.ireturn, 1) := by decide +kernel
theorem dX10_found_0 : decode cX10_found 0 = .ok (.iload_n 1, 1) := by decide +kernel
theorem dX10_found_1 : decode cX10_found 1 = .ok (.invokestatic 280, 3) := by decide +kernel
theorem dX10_found_4 : decode cX10_found 4 = .ok (.ifCond .eq 21, 3) := by decide +kernel
theorem dX10_found_7 : decode cX10_found 7 = .ok (.iload_n 2, 1) := by decide +kernel
theorem dX10_found_8 : decode cX10_found 8 = .ok (.i2l, 1) := by decide +kernel
theorem dX10_found_9 : decode cX10_found 9 = .ok (.ldc2_w 283, 3) := by decide +kernel
theorem dX10_found_12 : decode cX10_found 12 = .ok (.aload_n 0, 1) := by decide +kernel
theorem dX10_found_13 : decode cX10_found 13 = .ok (.getfield 102, 3) := by decide +kernel
theorem dX10_found_16 : decode cX10_found 16 = .ok (.iconst 1, 1) := by decide +kernel
theorem dX10_found_17 : decode cX10_found 17 = .ok (.isub, 1) := by decide +kernel
theorem dX10_found_18 : decode cX10_found 18 = .ok (.i2l, 1) := by decide +kernel
theorem dX10_found_19 : decode cX10_found 19 = .ok (.invokestatic 105, 3) := by decide +kernel
theorem dX10_found_22 : decode cX10_found 22 = .ok (.ifCond .ne 5, 3) := by decide +kernel
theorem dX10_found_25 : decode cX10_found 25 = .ok (.iconst (-1), 1) := by decide +kernel
theorem dX10_found_26 : decode cX10_found 26 = .ok (.ireturn, 1) := by decide +kernel
theorem dX10_found_27 : decode cX10_found 27 = .ok (.aload_n 0, 1) := by decide +kernel
theorem dX10_found_28 : decode cX10_found 28 = .ok (.iload_n 1, 1) := by decide +kernel
theorem dX10_found_29 : decode cX10_found 29 = .ok (.invokevirtual 285, 3) := by decide +kernel
theorem dX10_found_32 : decode cX10_found 32 = .ok (.iload_n 2, 1) := by decide +kernel
theorem dX10_found_33 : decode cX10_found 33 = .ok (.tableswitch 51 (-4) (-1) #[46, 41, 36, 31], 31) := by decide +kernel
theorem dX10_found_64 : decode cX10_found 64 = .ok (.aload_n 0, 1) := by decide +kernel
theorem dX10_found_65 : decode cX10_found 65 = .ok (.getfield 263, 3) := by decide +kernel
theorem dX10_found_68 : decode cX10_found 68 = .ok (.ireturn, 1) := by decide +kernel
theorem dX10_found_69 : decode cX10_found 69 = .ok (.aload_n 0, 1) := by decide +kernel
theorem dX10_found_70 : decode cX10_found 70 = .ok (.getfield 266, 3) := by decide +kernel
theorem dX10_found_73 : decode cX10_found 73 = .ok (.ireturn, 1) := by decide +kernel
theorem dX10_found_74 : decode cX10_found 74 = .ok (.aload_n 0, 1) := by decide +kernel
theorem dX10_found_75 : decode cX10_found 75 = .ok (.getfield 269, 3) := by decide +kernel
theorem dX10_found_78 : decode cX10_found 78 = .ok (.ireturn, 1) := by decide +kernel
theorem dX10_found_79 : decode cX10_found 79 = .ok (.aload_n 0, 1) := by decide +kernel
theorem dX10_found_80 : decode cX10_found 80 = .ok (.getfield 272, 3) := by decide +kernel
theorem dX10_found_83 : decode cX10_found 83 = .ok (.ireturn, 1) := by decide +kernel
theorem dX10_found_84 : decode cX10_found 84 = .ok (.aload_n 0, 1) := by decide +kernel
theorem dX10_found_85 : decode cX10_found 85 = .ok (.getfield 65, 3) := by decide +kernel
theorem dX10_found_88 : decode cX10_found 88 = .ok (.iload_n 2, 1) := by decide +kernel
theorem dX10_found_89 : decode cX10_found 89 = .ok (.iaload, 1) := by decide +kernel
theorem dX10_found_90 : decode cX10_found 90 = .ok (.ireturn, 1) := by decide +kernel
theorem dX10_set_0 : decode cX10_set 0 = .ok (.iload_n 1, 1) := by decide +kernel
theorem dX10_set_1 : decode cX10_set 1 = .ok (.invokestatic 280, 3) := by decide +kernel
theorem dX10_set_4 : decode cX10_set 4 = .ok (.ifCond .ne 5, 3) := by decide +kernel
theorem dX10_set_7 : decode cX10_set 7 = .ok (.iconst (-1), 1) := by decide +kernel
theorem dX10_set_8 : decode cX10_set 8 = .ok (.ireturn, 1) := by decide +kernel
theorem dX10_set_9 : decode cX10_set 9 = .ok (.aload_n 0, 1) := by decide +kernel
theorem dX10_set_10 : decode cX10_set 10 = .ok (.iload_n 1, 1) := by decide +kernel
theorem dX10_set_11 : decode cX10_set 11 = .ok (.invokevirtual 285, 3) := by decide +kernel
theorem dX10_set_14 : decode cX10_set 14 = .ok (.aload_n 0, 1) := by decide +kernel
theorem dX10_set_15 : decode cX10_set 15 = .ok (.getfield 269, 3) := by decide +kernel
theorem dX10_set_18 : decode cX10_set 18 = .ok (.istore_n 2, 1) := by decide +kernel
theorem dX10_set_19 : decode cX10_set 19 = .ok (.iconst 0, 1) := by decide +kernel
theorem dX10_set_20 : decode cX10_set 20 = .ok (.istore_n 3, 1) := by decide +kernel
theorem dX10_set_21 : decode cX10_set 21 = .ok (.iload_n 3, 1) := by decide +kernel
theorem dX10_set_22 : decode cX10_set 22 = .ok (.aload_n 0, 1) := by decide +kernel
theorem dX10_set_23 : decode cX10_set 23 = .ok (.getfield 102, 3) := by decide +kernel
theorem dX10_set_26 : decode cX10_set 26 = .ok (.if_icmp .ge 25, 3) := by decide +kernel
theorem dX10_set_29 : decode cX10_set 29 = .ok (.aload_n 0, 1) := by decide +kernel
theorem dX10_set_30 : decode cX10_set 30 = .ok (.bipush 12, 2) := by decide +kernel
theorem dX10_set_32 : decode cX10_set 32 = .ok (.iload_n 3, 1) := by decide +kernel
theorem dX10_set_33 : decode cX10_set 33 = .ok (.iadd, 1) := by decide +kernel
theorem dX10_set_34 : decode cX10_set 34 = .ok (.aload_n 0, 1) := by decide +kernel
theorem dX10_set_35 : decode cX10_set 35 = .ok (.getfield 68, 3) := by decide +kernel
theorem dX10_set_38 : decode cX10_set 38 = .ok (.iload_n 3, 1) := by decide +kernel
theorem dX10_set_39 : decode cX10_set 39 = .ok (.iaload, 1) := by decide +kernel
theorem dX10_set_40 : decode cX10_set 40 = .ok (.invokevirtual 137, 3) := by decide +kernel
theorem dX10_set_43 : decode cX10_set 43 = .ok (.istore 4, 2) := by decide +kernel
theorem dX10_set_45 : decode cX10_set 45 = .ok (.iinc 3 1, 3) := by decide +kernel
theorem dX10_set_48 : decode cX10_set 48 = .ok (.goto (-27), 3) := by decide +kernel
theorem dX10_set_51 : decode cX10_set 51 = .ok (.iload_n 2, 1) := by decide +kernel
theorem dX10_set_52 : decode cX10_set 52 = .ok (.ireturn, 1) := by decide +kernel
theorem dX10_areDigits_0 : decode cX10_areDigits 0 = .ok (.iload_n 1, 1) := by decide +kernel
theorem dX10_areDigits_1 : decode cX10_areDigits 1 = .ok (.ifCond .ge 5, 3) := by decide +kernel
theorem dX10_areDigits_4 : decode cX10_areDigits 4 = .ok (.iconst 0, 1) := by decide +kernel
theorem dX10_areDigits_5 : decode cX10_areDigits 5 = .ok (.ireturn, 1) := by decide +kernel
theorem dX10_areDigits_6 : decode cX10_areDigits 6 = .ok (.iconst 0, 1) := by decide +kernel
theorem dX10_areDigits_7 : decode cX10_areDigits 7 = .ok (.istore_n 2, 1) := by decide +kernel
theorem dX10_areDigits_8 : decode cX10_areDigits 8 = .ok (.iload_n 1, 1) := by decide +kernel
theorem dX10_areDigits_9 : decode cX10_areDigits 9 = .ok (.istore_n 3, 1) := by decide +kernel
theorem dX10_areDigits_10 : decode cX10_areDigits 10 = .ok (.iload_n 3, 1) := by decide +kernel
theorem dX10_areDigits_11 : decode cX10_areDigits 11 = .ok (.ifCond .le 24, 3) := by decide +kernel
theorem dX10_areDigits_14 : decode cX10_areDigits 14 = .ok (.iload_n 3, 1) := by decide +kernel
theorem dX10_areDigits_15 : decode cX10_areDigits 15 = .ok (.bipush 10, 2) := by decide +kernel
theorem dX10_areDigits_17 : decode cX10_areDigits 17 = .ok (.irem, 1) := by decide +kernel
theorem dX10_areDigits_18 : decode cX10_areDigits 18 = .ok (.iconst 3, 1) := by decide +kernel
theorem dX10_areDigits_19 : decode cX10_areDigits 19 = .ok (.if_icmp .le 5, 3) := by decide +kernel
theorem dX10_areDigits_22 : decode cX10_areDigits 22 = .ok (.iconst 0, 1) := by decide +kernel
theorem dX10_areDigits_23 : decode cX10_areDigits 23 = .ok (.ireturn, 1) := by decide +kernel
theorem dX10_areDigits_24 : decode cX10_areDigits 24 = .ok (.iinc 2 1, 3) := by decide +kernel
theorem dX10_areDigits_27 : decode cX10_areDigits 27 = .ok (.iload_n 3, 1) := by decide +kernel
theorem dX10_areDigits_28 : decode cX10_areDigits 28 = .ok (.bipush 10, 2) := by decide +kernel
theorem dX10_areDigits_30 : decode cX10_areDigits 30 = .ok (.idiv, 1) := by decide +kernel
theorem dX10_areDigits_31 : decode cX10_areDigits 31 = .ok (.istore_n 3, 1) := by decide +kernel
theorem dX10_areDigits_32 : decode cX10_areDigits 32 = .ok (.goto (-22), 3) := by decide +kernel
theorem dX10_areDigits_35 : decode cX10_areDigits 35 = .ok (.iload_n 2, 1) := by decide +kernel
theorem dX10_areDigits_36 : decode cX10_areDigits 36 = .ok (.aload_n 0, 1) := by decide +kernel
theorem dX10_areDigits_37 : decode cX10_areDigits 37 = .ok (.getfield 102, 3) := by decide +kernel
theorem dX10_areDigits_40 : decode cX10_areDigits 40 = .ok (.if_icmp .gt 7, 3) := by decide +kernel
theorem dX10_areDigits_43 : decode cX10_areDigits 43 = .ok (.iconst 1, 1) := by decide +kernel
theorem dX10_areDigits_44 : decode cX10_areDigits 44 = .ok (.goto 4, 3) := by decide +kernel
theorem dX10_areDigits_47 : decode cX10_areDigits 47 = .ok (.iconst 0, 1) := by decide +kernel
theorem dX10_areDigits_48 : decode cX10_areDigits 48 = .ok (.ireturn, 1) := by decide +kernel
theorem dX10_tell_0 : decode cX10_tell 0 = .ok (.aload_n 0, 1) := by decide +kernel
theorem dX10_tell_1 : decode cX10_tell 1 = .ok (.iload_n 1, 1) := by decide +kernel
theorem dX10_tell_2 : decode cX10_tell 2 = .ok (.invokevirtual 144, 3) := by decide +kernel
theorem dX10_tell_5 : decode cX10_tell 5 = .ok (.ifCond .eq 11, 3) := by decide +kernel
theorem dX10_tell_8 : decode cX10_tell 8 = .ok (.aload_n 0, 1) := by decide +kernel
theorem dX10_tell_9 : decode cX10_tell 9 = .ok (.iload_n 2, 1) := by decide +kernel
theorem dX10_tell_10 : decode cX10_tell 10 = .ok (.invokevirtual 288, 3) := by decide +kernel
theorem dX10_tell_13 : decode cX10_tell 13 = .ok (.ifCond .ne 5, 3) := by decide +kernel
theorem dX10_tell_16 : decode cX10_tell 16 = .ok (.iconst (-1), 1) := by decide +kernel
theorem dX10_tell_17 : decode cX10_tell 17 = .ok (.ireturn, 1) := by decide +kernel
theorem dX10_tell_18 : decode cX10_tell 18 = .ok (.aload_n 0, 1) := by decide +kernel
theorem dX10_tell_19 : decode cX10_tell 19 = .ok (.getfield 34, 3) := by decide +kernel
theorem dX10_tell_22 : decode cX10_tell 22 = .ok (.iload_n 1, 1) := by decide +kernel
theorem dX10_tell_23 : decode cX10_tell 23 = .ok (.iaload, 1) := by decide +kernel
theorem dX10_tell_24 : decode cX10_tell 24 = .ok (.istore_n 3, 1) := by decide +kernel
theorem dX10_tell_25 : decode cX10_tell 25 = .ok (.aload_n 0, 1) := by decide +kernel
theorem dX10_tell_26 : decode cX10_tell 26 = .ok (.getfield 34, 3) := by decide +kernel
theorem dX10_tell_29 : decode cX10_tell 29 = .ok (.iload_n 1, 1) := by decide +kernel
theorem dX10_tell_30 : decode cX10_tell 30 = .ok (.iload_n 2, 1) := by decide +kernel
theorem dX10_tell_31 : decode cX10_tell 31 = .ok (.iastore, 1) := by decide +kernel
theorem dX10_tell_32 : decode cX10_tell 32 = .ok (.iload_n 3, 1) := by decide +kernel
theorem dX10_tell_33 : decode cX10_tell 33 = .ok (.ireturn, 1) := by decide +kernel
theorem dX10_packed_0 : decode cX10_packed 0 = .ok (.iconst 0, 1) := by decide +kernel
theorem dX10_packed_1 : decode cX10_packed 1 = .ok (.istore_n 2, 1) := by decide +kernel
theorem dX10_packed_2 : decode cX10_packed 2 = .ok (.iload_n 1, 1) := by decide +kernel
theorem dX10_packed_3 : decode cX10_packed 3 = .ok (.istore_n 3, 1) := by decide +kernel
theorem dX10_packed_4 : decode cX10_packed 4 = .ok (.iconst 0, 1) := by decide +kernel
theorem dX10_packed_5 : decode cX10_packed 5 = .ok (.istore 4, 2) := by decide +kernel
theorem dX10_packed_7 : decode cX10_packed 7 = .ok (.iload 4, 2) := by decide +kernel
theorem dX10_packed_9 : decode cX10_packed 9 = .ok (.aload_n 0, 1) := by decide +kernel
theorem dX10_packed_10 : decode cX10_packed 10 = .ok (.getfield 102, 3) := by decide +kernel
theorem dX10_packed_13 : decode cX10_packed 13 = .ok (.if_icmp .ge 26, 3) := by decide +kernel
theorem dX10_packed_16 : decode cX10_packed 16 = .ok (.iload_n 2, 1) := by decide +kernel
theorem dX10_packed_17 : decode cX10_packed 17 = .ok (.iload_n 3, 1) := by decide +kernel
theorem dX10_packed_18 : decode cX10_packed 18 = .ok (.bipush 10, 2) := by decide +kernel
theorem dX10_packed_20 : decode cX10_packed 20 = .ok (.irem, 1) := by decide +kernel
theorem dX10_packed_21 : decode cX10_packed 21 = .ok (.iconst 2, 1) := by decide +kernel
theorem dX10_packed_22 : decode cX10_packed 22 = .ok (.iload 4, 2) := by decide +kernel
theorem dX10_packed_24 : decode cX10_packed 24 = .ok (.imul, 1) := by decide +kernel
theorem dX10_packed_25 : decode cX10_packed 25 = .ok (.ishl, 1) := by decide +kernel
theorem dX10_packed_26 : decode cX10_packed 26 = .ok (.ior, 1) := by decide +kernel
theorem dX10_packed_27 : decode cX10_packed 27 = .ok (.istore_n 2, 1) := by decide +kernel
theorem dX10_packed_28 : decode cX10_packed 28 = .ok (.iload_n 3, 1) := by decide +kernel
theorem dX10_packed_29 : decode cX10_packed 29 = .ok (.bipush 10, 2) := by decide +kernel
theorem dX10_packed_31 : decode cX10_packed 31 = .ok (.idiv, 1) := by decide +kernel
theorem dX10_packed_32 : decode cX10_packed 32 = .ok (.istore_n 3, 1) := by decide +kernel
theorem dX10_packed_33 : decode cX10_packed 33 = .ok (.iinc 4 1, 3) := by decide +kernel
theorem dX10_packed_36 : decode cX10_packed 36 = .ok (.goto (-29), 3) := by decide +kernel
theorem dX10_packed_39 : decode cX10_packed 39 = .ok (.iload_n 2, 1) := by decide +kernel
theorem dX10_packed_40 : decode cX10_packed 40 = .ok (.ireturn, 1) := by decide +kernel
theorem dX10_judge_0 : decode cX10_judge 0 = .ok (.iconst 0, 1) := by decide +kernel
theorem dX10_judge_1 : decode cX10_judge 1 = .ok (.istore_n 1, 1) := by decide +kernel
theorem dX10_judge_2 : decode cX10_judge 2 = .ok (.iload_n 1, 1) := by decide +kernel
theorem dX10_judge_3 : decode cX10_judge 3 = .ok (.aload_n 0, 1) := by decide +kernel
theorem dX10_judge_4 : decode cX10_judge 4 = .ok (.getfield 109, 3) := by decide +kernel
theorem dX10_judge_7 : decode cX10_judge 7 = .ok (.if_icmp .ge 74, 3) := by decide +kernel
theorem dX10_judge_10 : decode cX10_judge 10 = .ok (.aload_n 0, 1) := by decide +kernel
theorem dX10_judge_11 : decode cX10_judge 11 = .ok (.iload_n 1, 1) := by decide +kernel
theorem dX10_judge_12 : decode cX10_judge 12 = .ok (.invokevirtual 244, 3) := by decide +kernel
theorem dX10_judge_15 : decode cX10_judge 15 = .ok (.istore_n 2, 1) := by decide +kernel
theorem dX10_judge_16 : decode cX10_judge 16 = .ok (.aload_n 0, 1) := by decide +kernel
theorem dX10_judge_17 : decode cX10_judge 17 = .ok (.aload_n 0, 1) := by decide +kernel
theorem dX10_judge_18 : decode cX10_judge 18 = .ok (.aload_n 0, 1) := by decide +kernel
theorem dX10_judge_19 : decode cX10_judge 19 = .ok (.getfield 34, 3) := by decide +kernel
theorem dX10_judge_22 : decode cX10_judge 22 = .ok (.iload_n 1, 1) := by decide +kernel
theorem dX10_judge_23 : decode cX10_judge 23 = .ok (.iaload, 1) := by decide +kernel
theorem dX10_judge_24 : decode cX10_judge 24 = .ok (.invokevirtual 291, 3) := by decide +kernel
theorem dX10_judge_27 : decode cX10_judge 27 = .ok (.invokevirtual 229, 3) := by decide +kernel
theorem dX10_judge_30 : decode cX10_judge 30 = .ok (.aload_n 0, 1) := by decide +kernel
theorem dX10_judge_31 : decode cX10_judge 31 = .ok (.getfield 216, 3) := by decide +kernel
theorem dX10_judge_34 : decode cX10_judge 34 = .ok (.aload_n 0, 1) := by decide +kernel
theorem dX10_judge_35 : decode cX10_judge 35 = .ok (.iload_n 1, 1) := by decide +kernel
theorem dX10_judge_36 : decode cX10_judge 36 = .ok (.invokevirtual 149, 3) := by decide +kernel
theorem dX10_judge_39 : decode cX10_judge 39 = .ok (.if_icmp .gt 15, 3) := by decide +kernel
theorem dX10_judge_42 : decode cX10_judge 42 = .ok (.aload_n 0, 1) := by decide +kernel
theorem dX10_judge_43 : decode cX10_judge 43 = .ok (.getfield 219, 3) := by decide +kernel
theorem dX10_judge_46 : decode cX10_judge 46 = .ok (.aload_n 0, 1) := by decide +kernel
theorem dX10_judge_47 : decode cX10_judge 47 = .ok (.iload_n 1, 1) := by decide +kernel
theorem dX10_judge_48 : decode cX10_judge 48 = .ok (.invokevirtual 153, 3) := by decide +kernel
theorem dX10_judge_51 : decode cX10_judge 51 = .ok (.if_icmp .le 8, 3) := by decide +kernel
theorem dX10_judge_54 : decode cX10_judge 54 = .ok (.bipush 10, 2) := by decide +kernel
theorem dX10_judge_56 : decode cX10_judge 56 = .ok (.iload_n 1, 1) := by decide +kernel
theorem dX10_judge_57 : decode cX10_judge 57 = .ok (.iadd, 1) := by decide +kernel
theorem dX10_judge_58 : decode cX10_judge 58 = .ok (.ireturn, 1) := by decide +kernel
theorem dX10_judge_59 : decode cX10_judge 59 = .ok (.aload_n 0, 1) := by decide +kernel
theorem dX10_judge_60 : decode cX10_judge 60 = .ok (.getfield 213, 3) := by decide +kernel
theorem dX10_judge_63 : decode cX10_judge 63 = .ok (.aload_n 0, 1) := by decide +kernel
theorem dX10_judge_64 : decode cX10_judge 64 = .ok (.getfield 232, 3) := by decide +kernel
theorem dX10_judge_67 : decode cX10_judge 67 = .ok (.if_icmp .ge 8, 3) := by decide +kernel
theorem dX10_judge_70 : decode cX10_judge 70 = .ok (.bipush 20, 2) := by decide +kernel
theorem dX10_judge_72 : decode cX10_judge 72 = .ok (.iload_n 1, 1) := by decide +kernel
theorem dX10_judge_73 : decode cX10_judge 73 = .ok (.iadd, 1) := by decide +kernel
theorem dX10_judge_74 : decode cX10_judge 74 = .ok (.ireturn, 1) := by decide +kernel
theorem dX10_judge_75 : decode cX10_judge 75 = .ok (.iinc 1 1, 3) := by decide +kernel
theorem dX10_judge_78 : decode cX10_judge 78 = .ok (.goto (-76), 3) := by decide +kernel
theorem dX10_judge_81 : decode cX10_judge 81 = .ok (.iconst 0, 1) := by decide +kernel
theorem dX10_judge_82 : decode cX10_judge 82 = .ok (.istore_n 1, 1) := by decide +kernel
theorem dX10_judge_83 : decode cX10_judge 83 = .ok (.iload_n 1, 1) := by decide +kernel
theorem dX10_judge_84 : decode cX10_judge 84 = .ok (.aload_n 0, 1) := by decide +kernel
theorem dX10_judge_85 : decode cX10_judge 85 = .ok (.getfield 102, 3) := by decide +kernel
theorem dX10_judge_88 : decode cX10_judge 88 = .ok (.if_icmp .ge 75, 3) := by decide +kernel
theorem dX10_judge_91 : decode cX10_judge 91 = .ok (.iconst 0, 1) := by decide +kernel
theorem dX10_judge_92 : decode cX10_judge 92 = .ok (.istore_n 2, 1) := by decide +kernel
theorem dX10_judge_93 : decode cX10_judge 93 = .ok (.iconst 0, 1) := by decide +kernel
theorem dX10_judge_94 : decode cX10_judge 94 = .ok (.istore_n 3, 1) := by decide +kernel
theorem dX10_judge_95 : decode cX10_judge 95 = .ok (.iload_n 3, 1) := by decide +kernel
theorem dX10_judge_96 : decode cX10_judge 96 = .ok (.aload_n 0, 1) := by decide +kernel
theorem dX10_judge_97 : decode cX10_judge 97 = .ok (.getfield 109, 3) := by decide +kernel
theorem dX10_judge_100 : decode cX10_judge 100 = .ok (.if_icmp .ge 42, 3) := by decide +kernel
theorem dX10_judge_103 : decode cX10_judge 103 = .ok (.iload_n 2, 1) := by decide +kernel
theorem dX10_judge_104 : decode cX10_judge 104 = .ok (.aload_n 0, 1) := by decide +kernel
theorem dX10_judge_105 : decode cX10_judge 105 = .ok (.getfield 25, 3) := by decide +kernel
theorem dX10_judge_108 : decode cX10_judge 108 = .ok (.iload_n 3, 1) := by decide +kernel
theorem dX10_judge_109 : decode cX10_judge 109 = .ok (.iaload, 1) := by decide +kernel
theorem dX10_judge_110 : decode cX10_judge 110 = .ok (.aload_n 0, 1) := by decide +kernel
theorem dX10_judge_111 : decode cX10_judge 111 = .ok (.aload_n 0, 1) := by decide +kernel
theorem dX10_judge_112 : decode cX10_judge 112 = .ok (.getfield 34, 3) := by decide +kernel
theorem dX10_judge_115 : decode cX10_judge 115 = .ok (.iload_n 3, 1) := by decide +kernel
theorem dX10_judge_116 : decode cX10_judge 116 = .ok (.iaload, 1) := by decide +kernel
theorem dX10_judge_117 : decode cX10_judge 117 = .ok (.invokevirtual 291, 3) := by decide +kernel
theorem dX10_judge_120 : decode cX10_judge 120 = .ok (.iconst 2, 1) := by decide +kernel
theorem dX10_judge_121 : decode cX10_judge 121 = .ok (.aload_n 0, 1) := by decide +kernel
theorem dX10_judge_122 : decode cX10_judge 122 = .ok (.getfield 102, 3) := by decide +kernel
theorem dX10_judge_125 : decode cX10_judge 125 = .ok (.iconst 1, 1) := by decide +kernel
theorem dX10_judge_126 : decode cX10_judge 126 = .ok (.isub, 1) := by decide +kernel
theorem dX10_judge_127 : decode cX10_judge 127 = .ok (.iload_n 1, 1) := by decide +kernel
theorem dX10_judge_128 : decode cX10_judge 128 = .ok (.isub, 1) := by decide +kernel
theorem dX10_judge_129 : decode cX10_judge 129 = .ok (.imul, 1) := by decide +kernel
theorem dX10_judge_130 : decode cX10_judge 130 = .ok (.ishr, 1) := by decide +kernel
theorem dX10_judge_131 : decode cX10_judge 131 = .ok (.iconst 3, 1) := by decide +kernel
theorem dX10_judge_132 : decode cX10_judge 132 = .ok (.iand, 1) := by decide +kernel
theorem dX10_judge_133 : decode cX10_judge 133 = .ok (.imul, 1) := by decide +kernel
theorem dX10_judge_134 : decode cX10_judge 134 = .ok (.iadd, 1) := by decide +kernel
theorem dX10_judge_135 : decode cX10_judge 135 = .ok (.istore_n 2, 1) := by decide +kernel
theorem dX10_judge_136 : decode cX10_judge 136 = .ok (.iinc 3 1, 3) := by decide +kernel
theorem dX10_judge_139 : decode cX10_judge 139 = .ok (.goto (-44), 3) := by decide +kernel
theorem dX10_judge_142 : decode cX10_judge 142 = .ok (.iload_n 2, 1) := by decide +kernel
theorem dX10_judge_143 : decode cX10_judge 143 = .ok (.aload_n 0, 1) := by decide +kernel
theorem dX10_judge_144 : decode cX10_judge 144 = .ok (.getfield 9, 3) := by decide +kernel
theorem dX10_judge_147 : decode cX10_judge 147 = .ok (.iload_n 1, 1) := by decide +kernel
theorem dX10_judge_148 : decode cX10_judge 148 = .ok (.iaload, 1) := by decide +kernel
theorem dX10_judge_149 : decode cX10_judge 149 = .ok (.if_icmp .le 8, 3) := by decide +kernel
theorem dX10_judge_152 : decode cX10_judge 152 = .ok (.bipush 30, 2) := by decide +kernel
theorem dX10_judge_154 : decode cX10_judge 154 = .ok (.iload_n 1, 1) := by decide +kernel
theorem dX10_judge_155 : decode cX10_judge 155 = .ok (.iadd, 1) := by decide +kernel
theorem dX10_judge_156 : decode cX10_judge 156 = .ok (.ireturn, 1) := by decide +kernel
theorem dX10_judge_157 : decode cX10_judge 157 = .ok (.iinc 1 1, 3) := by decide +kernel
theorem dX10_judge_160 : decode cX10_judge 160 = .ok (.goto (-77), 3) := by decide +kernel
theorem dX10_judge_163 : decode cX10_judge 163 = .ok (.bipush (-2), 2) := by decide +kernel
theorem dX10_judge_165 : decode cX10_judge 165 = .ok (.ireturn, 1) := by decide +kernel
theorem dX10_findChanged_0 : decode cX10_findChanged 0 = .ok (.aload_n 0, 1) := by decide +kernel
theorem dX10_findChanged_1 : decode cX10_findChanged 1 = .ok (.iload_n 1, 1) := by decide +kernel
theorem dX10_findChanged_2 : decode cX10_findChanged 2 = .ok (.invokevirtual 222, 3) := by decide +kernel
theorem dX10_findChanged_5 : decode cX10_findChanged 5 = .ok (.iconst (-1), 1) := by decide +kernel
theorem dX10_findChanged_6 : decode cX10_findChanged 6 = .ok (.istore_n 3, 1) := by decide +kernel
theorem dX10_findChanged_7 : decode cX10_findChanged 7 = .ok (.iconst 0, 1) := by decide +kernel
theorem dX10_findChanged_8 : decode cX10_findChanged 8 = .ok (.istore 4, 2) := by decide +kernel
theorem dX10_findChanged_10 : decode cX10_findChanged 10 = .ok (.iconst 0, 1) := by decide +kernel
theorem dX10_findChanged_11 : decode cX10_findChanged 11 = .ok (.istore 5, 2) := by decide +kernel
theorem dX10_findChanged_13 : decode cX10_findChanged 13 = .ok (.iload 5, 2) := by decide +kernel
theorem dX10_findChanged_15 : decode cX10_findChanged 15 = .ok (.aload_n 0, 1) := by decide +kernel
theorem dX10_findChanged_16 : decode cX10_findChanged 16 = .ok (.invokevirtual 226, 3) := by decide +kernel
theorem dX10_findChanged_19 : decode cX10_findChanged 19 = .ok (.if_icmp .ge 135, 3) := by decide +kernel
theorem dX10_findChanged_22 : decode cX10_findChanged 22 = .ok (.aload_n 0, 1) := by decide +kernel
theorem dX10_findChanged_23 : decode cX10_findChanged 23 = .ok (.iload 5, 2) := by decide +kernel
theorem dX10_findChanged_25 : decode cX10_findChanged 25 = .ok (.invokevirtual 229, 3) := by decide +kernel
theorem dX10_findChanged_28 : decode cX10_findChanged 28 = .ok (.aload_n 0, 1) := by decide +kernel
theorem dX10_findChanged_29 : decode cX10_findChanged 29 = .ok (.getfield 216, 3) := by decide +kernel
theorem dX10_findChanged_32 : decode cX10_findChanged 32 = .ok (.iload_n 2, 1) := by decide +kernel
theorem dX10_findChanged_33 : decode cX10_findChanged 33 = .ok (.aload_n 0, 1) := by decide +kernel
theorem dX10_findChanged_34 : decode cX10_findChanged 34 = .ok (.getfield 219, 3) := by decide +kernel
theorem dX10_findChanged_37 : decode cX10_findChanged 37 = .ok (.imul, 1) := by decide +kernel
theorem dX10_findChanged_38 : decode cX10_findChanged 38 = .ok (.iadd, 1) := by decide +kernel
theorem dX10_findChanged_39 : decode cX10_findChanged 39 = .ok (.istore 6, 2) := by decide +kernel
theorem dX10_findChanged_41 : decode cX10_findChanged 41 = .ok (.iload 6, 2) := by decide +kernel
theorem dX10_findChanged_43 : decode cX10_findChanged 43 = .ok (.iload_n 2, 1) := by decide +kernel
theorem dX10_findChanged_44 : decode cX10_findChanged 44 = .ok (.aload_n 0, 1) := by decide +kernel
theorem dX10_findChanged_45 : decode cX10_findChanged 45 = .ok (.iload_n 1, 1) := by decide +kernel
theorem dX10_findChanged_46 : decode cX10_findChanged 46 = .ok (.invokevirtual 153, 3) := by decide +kernel
theorem dX10_findChanged_49 : decode cX10_findChanged 49 = .ok (.imul, 1) := by decide +kernel
theorem dX10_findChanged_50 : decode cX10_findChanged 50 = .ok (.isub, 1) := by decide +kernel
theorem dX10_findChanged_51 : decode cX10_findChanged 51 = .ok (.aload_n 0, 1) := by decide +kernel
theorem dX10_findChanged_52 : decode cX10_findChanged 52 = .ok (.iload_n 1, 1) := by decide +kernel
theorem dX10_findChanged_53 : decode cX10_findChanged 53 = .ok (.invokevirtual 149, 3) := by decide +kernel
theorem dX10_findChanged_56 : decode cX10_findChanged 56 = .ok (.if_icmp .le 6, 3) := by decide +kernel
theorem dX10_findChanged_59 : decode cX10_findChanged 59 = .ok (.goto 89, 3) := by decide +kernel
theorem dX10_findChanged_62 : decode cX10_findChanged 62 = .ok (.iload_n 3, 1) := by decide +kernel
theorem dX10_findChanged_63 : decode cX10_findChanged 63 = .ok (.ifCond .lt 50, 3) := by decide +kernel
theorem dX10_findChanged_66 : decode cX10_findChanged 66 = .ok (.aload_n 0, 1) := by decide +kernel
theorem dX10_findChanged_67 : decode cX10_findChanged 67 = .ok (.getfield 213, 3) := by decide +kernel
theorem dX10_findChanged_70 : decode cX10_findChanged 70 = .ok (.aload_n 0, 1) := by decide +kernel
theorem dX10_findChanged_71 : decode cX10_findChanged 71 = .ok (.getfield 294, 3) := by decide +kernel
theorem dX10_findChanged_74 : decode cX10_findChanged 74 = .ok (.if_icmp .gt 39, 3) := by decide +kernel
theorem dX10_findChanged_77 : decode cX10_findChanged 77 = .ok (.aload_n 0, 1) := by decide +kernel
theorem dX10_findChanged_78 : decode cX10_findChanged 78 = .ok (.getfield 213, 3) := by decide +kernel
theorem dX10_findChanged_81 : decode cX10_findChanged 81 = .ok (.aload_n 0, 1) := by decide +kernel
theorem dX10_findChanged_82 : decode cX10_findChanged 82 = .ok (.getfield 294, 3) := by decide +kernel
theorem dX10_findChanged_85 : decode cX10_findChanged 85 = .ok (.if_icmp .ne 32, 3) := by decide +kernel
theorem dX10_findChanged_88 : decode cX10_findChanged 88 = .ok (.iload 6, 2) := by decide +kernel
theorem dX10_findChanged_90 : decode cX10_findChanged 90 = .ok (.iload 4, 2) := by decide +kernel
theorem dX10_findChanged_92 : decode cX10_findChanged 92 = .ok (.if_icmp .lt 21, 3) := by decide +kernel
theorem dX10_findChanged_95 : decode cX10_findChanged 95 = .ok (.iload 6, 2) := by decide +kernel
theorem dX10_findChanged_97 : decode cX10_findChanged 97 = .ok (.iload 4, 2) := by decide +kernel
theorem dX10_findChanged_99 : decode cX10_findChanged 99 = .ok (.if_icmp .ne 18, 3) := by decide +kernel
theorem dX10_findChanged_102 : decode cX10_findChanged 102 = .ok (.aload_n 0, 1) := by decide +kernel
theorem dX10_findChanged_103 : decode cX10_findChanged 103 = .ok (.getfield 219, 3) := by decide +kernel
theorem dX10_findChanged_106 : decode cX10_findChanged 106 = .ok (.aload_n 0, 1) := by decide +kernel
theorem dX10_findChanged_107 : decode cX10_findChanged 107 = .ok (.getfield 297, 3) := by decide +kernel
theorem dX10_findChanged_110 : decode cX10_findChanged 110 = .ok (.if_icmp .ge 7, 3) := by decide +kernel
theorem dX10_findChanged_113 : decode cX10_findChanged 113 = .ok (.iconst 1, 1) := by decide +kernel
theorem dX10_findChanged_114 : decode cX10_findChanged 114 = .ok (.goto 4, 3) := by decide +kernel
theorem dX10_findChanged_117 : decode cX10_findChanged 117 = .ok (.iconst 0, 1) := by decide +kernel
theorem dX10_findChanged_118 : decode cX10_findChanged 118 = .ok (.istore 7, 2) := by decide +kernel
theorem dX10_findChanged_120 : decode cX10_findChanged 120 = .ok (.iload 7, 2) := by decide +kernel
theorem dX10_findChanged_122 : decode cX10_findChanged 122 = .ok (.ifCond .eq 26, 3) := by decide +kernel
theorem dX10_findChanged_125 : decode cX10_findChanged 125 = .ok (.iload 5, 2) := by decide +kernel
theorem dX10_findChanged_127 : decode cX10_findChanged 127 = .ok (.istore_n 3, 1) := by decide +kernel
theorem dX10_findChanged_128 : decode cX10_findChanged 128 = .ok (.iload 6, 2) := by decide +kernel
theorem dX10_findChanged_130 : decode cX10_findChanged 130 = .ok (.istore 4, 2) := by decide +kernel
theorem dX10_findChanged_132 : decode cX10_findChanged 132 = .ok (.aload_n 0, 1) := by decide +kernel
theorem dX10_findChanged_133 : decode cX10_findChanged 133 = .ok (.aload_n 0, 1) := by decide +kernel
theorem dX10_findChanged_134 : decode cX10_findChanged 134 = .ok (.getfield 213, 3) := by decide +kernel
theorem dX10_findChanged_137 : decode cX10_findChanged 137 = .ok (.putfield 294, 3) := by decide +kernel
theorem dX10_findChanged_140 : decode cX10_findChanged 140 = .ok (.aload_n 0, 1) := by decide +kernel
theorem dX10_findChanged_141 : decode cX10_findChanged 141 = .ok (.aload_n 0, 1) := by decide +kernel
theorem dX10_findChanged_142 : decode cX10_findChanged 142 = .ok (.getfield 219, 3) := by decide +kernel
theorem dX10_findChanged_145 : decode cX10_findChanged 145 = .ok (.putfield 297, 3) := by decide +kernel
theorem dX10_findChanged_148 : decode cX10_findChanged 148 = .ok (.iinc 5 1, 3) := by decide +kernel
theorem dX10_findChanged_151 : decode cX10_findChanged 151 = .ok (.goto (-138), 3) := by decide +kernel
theorem dX10_findChanged_154 : decode cX10_findChanged 154 = .ok (.return_, 1) := by decide +kernel
theorem dX10_isRate_0 : decode cX10_isRate 0 = .ok (.iload_n 0, 1) := by decide +kernel
theorem dX10_isRate_1 : decode cX10_isRate 1 = .ok (.i2l, 1) := by decide +kernel
theorem dX10_isRate_2 : decode cX10_isRate 2 = .ok (.lconst 1, 1) := by decide +kernel
theorem dX10_isRate_3 : decode cX10_isRate 3 = .ok (.ldc2_w 112, 3) := by decide +kernel
theorem dX10_isRate_6 : decode cX10_isRate 6 = .ok (.invokestatic 105, 3) := by decide +kernel
theorem dX10_isRate_9 : decode cX10_isRate 9 = .ok (.ireturn, 1) := by decide +kernel
theorem dX10_changed_0 : decode cX10_changed 0 = .ok (.aload_n 0, 1) := by decide +kernel
theorem dX10_changed_1 : decode cX10_changed 1 = .ok (.iload_n 1, 1) := by decide +kernel
theorem dX10_changed_2 : decode cX10_changed 2 = .ok (.invokevirtual 144, 3) := by decide +kernel
theorem dX10_changed_5 : decode cX10_changed 5 = .ok (.ifCond .eq 20, 3) := by decide +kernel
theorem dX10_changed_8 : decode cX10_changed 8 = .ok (.iload_n 2, 1) := by decide +kernel
theorem dX10_changed_9 : decode cX10_changed 9 = .ok (.invokestatic 300, 3) := by decide +kernel
theorem dX10_changed_12 : decode cX10_changed 12 = .ok (.ifCond .eq 13, 3) := by decide +kernel
theorem dX10_changed_15 : decode cX10_changed 15 = .ok (.iload_n 3, 1) := by decide +kernel
theorem dX10_changed_16 : decode cX10_changed 16 = .ok (.i2l, 1) := by decide +kernel
theorem dX10_changed_17 : decode cX10_changed 17 = .ok (.lconst 0, 1) := by decide +kernel
theorem dX10_changed_18 : decode cX10_changed 18 = .ok (.lconst 1, 1) := by decide +kernel
theorem dX10_changed_19 : decode cX10_changed 19 = .ok (.invokestatic 105, 3) := by decide +kernel
theorem dX10_changed_22 : decode cX10_changed 22 = .ok (.ifCond .ne 5, 3) := by decide +kernel
theorem dX10_changed_25 : decode cX10_changed 25 = .ok (.iconst (-1), 1) := by decide +kernel
theorem dX10_changed_26 : decode cX10_changed 26 = .ok (.ireturn, 1) := by decide +kernel
theorem dX10_changed_27 : decode cX10_changed 27 = .ok (.aload_n 0, 1) := by decide +kernel
theorem dX10_changed_28 : decode cX10_changed 28 = .ok (.iload_n 1, 1) := by decide +kernel
theorem dX10_changed_29 : decode cX10_changed 29 = .ok (.invokevirtual 244, 3) := by decide +kernel
theorem dX10_changed_32 : decode cX10_changed 32 = .ok (.istore 4, 2) := by decide +kernel
theorem dX10_changed_34 : decode cX10_changed 34 = .ok (.aload_n 0, 1) := by decide +kernel
theorem dX10_changed_35 : decode cX10_changed 35 = .ok (.iload_n 1, 1) := by decide +kernel
theorem dX10_changed_36 : decode cX10_changed 36 = .ok (.iload_n 2, 1) := by decide +kernel
theorem dX10_changed_37 : decode cX10_changed 37 = .ok (.invokevirtual 303, 3) := by decide +kernel
theorem dX10_changed_40 : decode cX10_changed 40 = .ok (.iload_n 3, 1) := by decide +kernel
theorem dX10_changed_41 : decode cX10_changed 41 = .ok (.ifCond .ne 10, 3) := by decide +kernel
theorem dX10_changed_44 : decode cX10_changed 44 = .ok (.aload_n 0, 1) := by decide +kernel
theorem dX10_changed_45 : decode cX10_changed 45 = .ok (.getfield 294, 3) := by decide +kernel
theorem dX10_changed_48 : decode cX10_changed 48 = .ok (.goto 12, 3) := by decide +kernel
theorem dX10_changed_51 : decode cX10_changed 51 = .ok (.aload_n 0, 1) := by decide +kernel
theorem dX10_changed_52 : decode cX10_changed 52 = .ok (.getfield 294, 3) := by decide +kernel
theorem dX10_changed_55 : decode cX10_changed 55 = .ok (.aload_n 0, 1) := by decide +kernel
theorem dX10_changed_56 : decode cX10_changed 56 = .ok (.getfield 232, 3) := by decide +kernel
theorem dX10_changed_59 : decode cX10_changed 59 = .ok (.isub, 1) := by decide +kernel
theorem dX10_changed_60 : decode cX10_changed 60 = .ok (.ireturn, 1) := by decide +kernel
theorem dX10_free_0 : decode cX10_free 0 = .ok (.iconst 1, 1) := by decide +kernel
theorem dX10_free_1 : decode cX10_free 1 = .ok (.istore_n 1, 1) := by decide +kernel
theorem dX10_free_2 : decode cX10_free 2 = .ok (.iload_n 1, 1) := by decide +kernel
theorem dX10_free_3 : decode cX10_free 3 = .ok (.bipush 99, 2) := by decide +kernel
theorem dX10_free_5 : decode cX10_free 5 = .ok (.if_icmp .gt 59, 3) := by decide +kernel
theorem dX10_free_8 : decode cX10_free 8 = .ok (.iconst 0, 1) := by decide +kernel
theorem dX10_free_9 : decode cX10_free 9 = .ok (.istore_n 2, 1) := by decide +kernel
theorem dX10_free_10 : decode cX10_free 10 = .ok (.iconst 0, 1) := by decide +kernel
theorem dX10_free_11 : decode cX10_free 11 = .ok (.istore_n 3, 1) := by decide +kernel
theorem dX10_free_12 : decode cX10_free 12 = .ok (.iload_n 3, 1) := by decide +kernel
theorem dX10_free_13 : decode cX10_free 13 = .ok (.aload_n 0, 1) := by decide +kernel
theorem dX10_free_14 : decode cX10_free 14 = .ok (.getfield 109, 3) := by decide +kernel
theorem dX10_free_17 : decode cX10_free 17 = .ok (.if_icmp .ge 35, 3) := by decide +kernel
theorem dX10_free_20 : decode cX10_free 20 = .ok (.aload_n 0, 1) := by decide +kernel
theorem dX10_free_21 : decode cX10_free 21 = .ok (.iload_n 3, 1) := by decide +kernel
theorem dX10_free_22 : decode cX10_free 22 = .ok (.iload_n 1, 1) := by decide +kernel
theorem dX10_free_23 : decode cX10_free 23 = .ok (.invokevirtual 303, 3) := by decide +kernel
theorem dX10_free_26 : decode cX10_free 26 = .ok (.iload_n 2, 1) := by decide +kernel
theorem dX10_free_27 : decode cX10_free 27 = .ok (.aload_n 0, 1) := by decide +kernel
theorem dX10_free_28 : decode cX10_free 28 = .ok (.getfield 25, 3) := by decide +kernel
theorem dX10_free_31 : decode cX10_free 31 = .ok (.iload_n 3, 1) := by decide +kernel
theorem dX10_free_32 : decode cX10_free 32 = .ok (.iaload, 1) := by decide +kernel
theorem dX10_free_33 : decode cX10_free 33 = .ok (.aload_n 0, 1) := by decide +kernel
theorem dX10_free_34 : decode cX10_free 34 = .ok (.getfield 297, 3) := by decide +kernel
theorem dX10_free_37 : decode cX10_free 37 = .ok (.aload_n 0, 1) := by decide +kernel
theorem dX10_free_38 : decode cX10_free 38 = .ok (.iload_n 3, 1) := by decide +kernel
theorem dX10_free_39 : decode cX10_free 39 = .ok (.invokevirtual 153, 3) := by decide +kernel
theorem dX10_free_42 : decode cX10_free 42 = .ok (.isub, 1) := by decide +kernel
theorem dX10_free_43 : decode cX10_free 43 = .ok (.imul, 1) := by decide +kernel
theorem dX10_free_44 : decode cX10_free 44 = .ok (.iadd, 1) := by decide +kernel
theorem dX10_free_45 : decode cX10_free 45 = .ok (.istore_n 2, 1) := by decide +kernel
theorem dX10_free_46 : decode cX10_free 46 = .ok (.iinc 3 1, 3) := by decide +kernel
theorem dX10_free_49 : decode cX10_free 49 = .ok (.goto (-37), 3) := by decide +kernel
theorem dX10_free_52 : decode cX10_free 52 = .ok (.iload_n 2, 1) := by decide +kernel
theorem dX10_free_53 : decode cX10_free 53 = .ok (.ifCond .gt 5, 3) := by decide +kernel
theorem dX10_free_56 : decode cX10_free 56 = .ok (.iload_n 1, 1) := by decide +kernel
theorem dX10_free_57 : decode cX10_free 57 = .ok (.ireturn, 1) := by decide +kernel
theorem dX10_free_58 : decode cX10_free 58 = .ok (.iinc 1 1, 3) := by decide +kernel
theorem dX10_free_61 : decode cX10_free 61 = .ok (.goto (-59), 3) := by decide +kernel
theorem dX10_free_64 : decode cX10_free 64 = .ok (.bipush (-2), 2) := by decide +kernel
theorem dX10_free_66 : decode cX10_free 66 = .ok (.ireturn, 1) := by decide +kernel
theorem dX10_black_0 : decode cX10_black 0 = .ok (.aload_n 0, 1) := by decide +kernel
theorem dX10_black_1 : decode cX10_black 1 = .ok (.iload_n 1, 1) := by decide +kernel
theorem dX10_black_2 : decode cX10_black 2 = .ok (.invokevirtual 144, 3) := by decide +kernel
theorem dX10_black_5 : decode cX10_black 5 = .ok (.ifCond .eq 29, 3) := by decide +kernel
theorem dX10_black_8 : decode cX10_black 8 = .ok (.iload_n 2, 1) := by decide +kernel
theorem dX10_black_9 : decode cX10_black 9 = .ok (.ifCond .lt 25, 3) := by decide +kernel
theorem dX10_black_12 : decode cX10_black 12 = .ok (.iload_n 2, 1) := by decide +kernel
theorem dX10_black_13 : decode cX10_black 13 = .ok (.bipush 100, 2) := by decide +kernel
theorem dX10_black_15 : decode cX10_black 15 = .ok (.idiv, 1) := by decide +kernel
theorem dX10_black_16 : decode cX10_black 16 = .ok (.invokestatic 300, 3) := by decide +kernel
theorem dX10_black_19 : decode cX10_black 19 = .ok (.ifCond .eq 15, 3) := by decide +kernel
theorem dX10_black_22 : decode cX10_black 22 = .ok (.iload_n 3, 1) := by decide +kernel
theorem dX10_black_23 : decode cX10_black 23 = .ok (.i2l, 1) := by decide +kernel
theorem dX10_black_24 : decode cX10_black 24 = .ok (.lconst 0, 1) := by decide +kernel
theorem dX10_black_25 : decode cX10_black 25 = .ok (.ldc2_w 307, 3) := by decide +kernel
theorem dX10_black_28 : decode cX10_black 28 = .ok (.invokestatic 105, 3) := by decide +kernel
theorem dX10_black_31 : decode cX10_black 31 = .ok (.ifCond .ne 5, 3) := by decide +kernel
theorem dX10_black_34 : decode cX10_black 34 = .ok (.iconst (-1), 1) := by decide +kernel
theorem dX10_black_35 : decode cX10_black 35 = .ok (.ireturn, 1) := by decide +kernel
theorem dX10_black_36 : decode cX10_black 36 = .ok (.iload_n 2, 1) := by decide +kernel
theorem dX10_black_37 : decode cX10_black 37 = .ok (.bipush 100, 2) := by decide +kernel
theorem dX10_black_39 : decode cX10_black 39 = .ok (.idiv, 1) := by decide +kernel
theorem dX10_black_40 : decode cX10_black 40 = .ok (.iload_n 2, 1) := by decide +kernel
theorem dX10_black_41 : decode cX10_black 41 = .ok (.bipush 100, 2) := by decide +kernel
theorem dX10_black_43 : decode cX10_black 43 = .ok (.irem, 1) := by decide +kernel
theorem dX10_black_44 : decode cX10_black 44 = .ok (.iload_n 3, 1) := by decide +kernel
theorem dX10_black_45 : decode cX10_black 45 = .ok (.imul, 1) := by decide +kernel
theorem dX10_black_46 : decode cX10_black 46 = .ok (.bipush 99, 2) := by decide +kernel
theorem dX10_black_48 : decode cX10_black 48 = .ok (.iadd, 1) := by decide +kernel
theorem dX10_black_49 : decode cX10_black 49 = .ok (.bipush 100, 2) := by decide +kernel
theorem dX10_black_51 : decode cX10_black 51 = .ok (.idiv, 1) := by decide +kernel
theorem dX10_black_52 : decode cX10_black 52 = .ok (.iadd, 1) := by decide +kernel
theorem dX10_black_53 : decode cX10_black 53 = .ok (.istore 4, 2) := by decide +kernel
theorem dX10_black_55 : decode cX10_black 55 = .ok (.aload_n 0, 1) := by decide +kernel
theorem dX10_black_56 : decode cX10_black 56 = .ok (.iload_n 1, 1) := by decide +kernel
theorem dX10_black_57 : decode cX10_black 57 = .ok (.invokevirtual 222, 3) := by decide +kernel
theorem dX10_black_60 : decode cX10_black 60 = .ok (.iconst 0, 1) := by decide +kernel
theorem dX10_black_61 : decode cX10_black 61 = .ok (.istore 5, 2) := by decide +kernel
theorem dX10_black_63 : decode cX10_black 63 = .ok (.iconst 0, 1) := by decide +kernel
theorem dX10_black_64 : decode cX10_black 64 = .ok (.istore 6, 2) := by decide +kernel
theorem dX10_black_66 : decode cX10_black 66 = .ok (.iload 6, 2) := by decide +kernel
theorem dX10_black_68 : decode cX10_black 68 = .ok (.aload_n 0, 1) := by decide +kernel
theorem dX10_black_69 : decode cX10_black 69 = .ok (.invokevirtual 226, 3) := by decide +kernel
theorem dX10_black_72 : decode cX10_black 72 = .ok (.if_icmp .ge 81, 3) := by decide +kernel
theorem dX10_black_75 : decode cX10_black 75 = .ok (.aload_n 0, 1) := by decide +kernel
theorem dX10_black_76 : decode cX10_black 76 = .ok (.iload 6, 2) := by decide +kernel
theorem dX10_black_78 : decode cX10_black 78 = .ok (.invokevirtual 229, 3) := by decide +kernel
theorem dX10_black_81 : decode cX10_black 81 = .ok (.aload_n 0, 1) := by decide +kernel
theorem dX10_black_82 : decode cX10_black 82 = .ok (.getfield 219, 3) := by decide +kernel
theorem dX10_black_85 : decode cX10_black 85 = .ok (.aload_n 0, 1) := by decide +kernel
theorem dX10_black_86 : decode cX10_black 86 = .ok (.iload_n 1, 1) := by decide +kernel
theorem dX10_black_87 : decode cX10_black 87 = .ok (.invokevirtual 153, 3) := by decide +kernel
theorem dX10_black_90 : decode cX10_black 90 = .ok (.if_icmp .le 16, 3) := by decide +kernel
theorem dX10_black_93 : decode cX10_black 93 = .ok (.aload_n 0, 1) := by decide +kernel
theorem dX10_black_94 : decode cX10_black 94 = .ok (.getfield 219, 3) := by decide +kernel
theorem dX10_black_97 : decode cX10_black 97 = .ok (.aload_n 0, 1) := by decide +kernel
theorem dX10_black_98 : decode cX10_black 98 = .ok (.iload_n 1, 1) := by decide +kernel
theorem dX10_black_99 : decode cX10_black 99 = .ok (.invokevirtual 153, 3) := by decide +kernel
theorem dX10_black_102 : decode cX10_black 102 = .ok (.isub, 1) := by decide +kernel
theorem dX10_black_103 : decode cX10_black 103 = .ok (.goto 4, 3) := by decide +kernel
theorem dX10_black_106 : decode cX10_black 106 = .ok (.iconst 0, 1) := by decide +kernel
theorem dX10_black_107 : decode cX10_black 107 = .ok (.istore 7, 2) := by decide +kernel
theorem dX10_black_109 : decode cX10_black 109 = .ok (.aload_n 0, 1) := by decide +kernel
theorem dX10_black_110 : decode cX10_black 110 = .ok (.getfield 216, 3) := by decide +kernel
theorem dX10_black_113 : decode cX10_black 113 = .ok (.iload 7, 2) := by decide +kernel
theorem dX10_black_115 : decode cX10_black 115 = .ok (.iload 4, 2) := by decide +kernel
theorem dX10_black_117 : decode cX10_black 117 = .ok (.imul, 1) := by decide +kernel
theorem dX10_black_118 : decode cX10_black 118 = .ok (.iadd, 1) := by decide +kernel
theorem dX10_black_119 : decode cX10_black 119 = .ok (.aload_n 0, 1) := by decide +kernel
theorem dX10_black_120 : decode cX10_black 120 = .ok (.iload_n 1, 1) := by decide +kernel
theorem dX10_black_121 : decode cX10_black 121 = .ok (.invokevirtual 149, 3) := by decide +kernel
theorem dX10_black_124 : decode cX10_black 124 = .ok (.if_icmp .gt 19, 3) := by decide +kernel
theorem dX10_black_127 : decode cX10_black 127 = .ok (.aload_n 0, 1) := by decide +kernel
theorem dX10_black_128 : decode cX10_black 128 = .ok (.getfield 213, 3) := by decide +kernel
theorem dX10_black_131 : decode cX10_black 131 = .ok (.iload 5, 2) := by decide +kernel
theorem dX10_black_133 : decode cX10_black 133 = .ok (.if_icmp .le 10, 3) := by decide +kernel
theorem dX10_black_136 : decode cX10_black 136 = .ok (.aload_n 0, 1) := by decide +kernel
theorem dX10_black_137 : decode cX10_black 137 = .ok (.getfield 213, 3) := by decide +kernel
theorem dX10_black_140 : decode cX10_black 140 = .ok (.goto 5, 3) := by decide +kernel
theorem dX10_black_143 : decode cX10_black 143 = .ok (.iload 5, 2) := by decide +kernel
theorem dX10_black_145 : decode cX10_black 145 = .ok (.istore 5, 2) := by decide +kernel
theorem dX10_black_147 : decode cX10_black 147 = .ok (.iinc 6 1, 3) := by decide +kernel
theorem dX10_black_150 : decode cX10_black 150 = .ok (.goto (-84), 3) := by decide +kernel
theorem dX10_black_153 : decode cX10_black 153 = .ok (.iload 5, 2) := by decide +kernel
theorem dX10_black_155 : decode cX10_black 155 = .ok (.ireturn, 1) := by decide +kernel
theorem dX10_isHow_0 : decode cX10_isHow 0 = .ok (.iload_n 0, 1) := by decide +kernel
theorem dX10_isHow_1 : decode cX10_isHow 1 = .ok (.ifCond .eq 17, 3) := by decide +kernel
theorem dX10_isHow_4 : decode cX10_isHow 4 = .ok (.iload_n 0, 1) := by decide +kernel
theorem dX10_isHow_5 : decode cX10_isHow 5 = .ok (.i2l, 1) := by decide +kernel
theorem dX10_isHow_6 : decode cX10_isHow 6 = .ok (.ldc2_w 307, 3) := by decide +kernel
theorem dX10_isHow_9 : decode cX10_isHow 9 = .ok (.ldc2_w 309, 3) := by decide +kernel
theorem dX10_isHow_12 : decode cX10_isHow 12 = .ok (.invokestatic 105, 3) := by decide +kernel
theorem dX10_isHow_15 : decode cX10_isHow 15 = .ok (.ifCond .eq 7, 3) := by decide +kernel
theorem dX10_isHow_18 : decode cX10_isHow 18 = .ok (.iconst 1, 1) := by decide +kernel
theorem dX10_isHow_19 : decode cX10_isHow 19 = .ok (.goto 4, 3) := by decide +kernel
theorem dX10_isHow_22 : decode cX10_isHow 22 = .ok (.iconst 0, 1) := by decide +kernel
theorem dX10_isHow_23 : decode cX10_isHow 23 = .ok (.ireturn, 1) := by decide +kernel
theorem dX10_besideOf_0 : decode cX10_besideOf 0 = .ok (.iload_n 2, 1) := by decide +kernel
theorem dX10_besideOf_1 : decode cX10_besideOf 1 = .ok (.ifCond .le 33, 3) := by decide +kernel
theorem dX10_besideOf_4 : decode cX10_besideOf 4 = .ok (.aload_n 0, 1) := by decide +kernel
theorem dX10_besideOf_5 : decode cX10_besideOf 5 = .ok (.iload_n 2, 1) := by decide +kernel
theorem dX10_besideOf_6 : decode cX10_besideOf 6 = .ok (.putfield 55, 3) := by decide +kernel
theorem dX10_besideOf_9 : decode cX10_besideOf 9 = .ok (.aload_n 0, 1) := by decide +kernel
theorem dX10_besideOf_10 : decode cX10_besideOf 10 = .ok (.iload_n 1, 1) := by decide +kernel
theorem dX10_besideOf_11 : decode cX10_besideOf 11 = .ok (.aload_n 0, 1) := by decide +kernel
theorem dX10_besideOf_12 : decode cX10_besideOf 12 = .ok (.iload_n 1, 1) := by decide +kernel
theorem dX10_besideOf_13 : decode cX10_besideOf 13 = .ok (.invokevirtual 149, 3) := by decide +kernel
theorem dX10_besideOf_16 : decode cX10_besideOf 16 = .ok (.ldc_w 311, 3) := by decide +kernel
theorem dX10_besideOf_19 : decode cX10_besideOf 19 = .ok (.invokevirtual 241, 3) := by decide +kernel
theorem dX10_besideOf_22 : decode cX10_besideOf 22 = .ok (.istore_n 3, 1) := by decide +kernel
theorem dX10_besideOf_23 : decode cX10_besideOf 23 = .ok (.aload_n 0, 1) := by decide +kernel
theorem dX10_besideOf_24 : decode cX10_besideOf 24 = .ok (.bipush 100, 2) := by decide +kernel
theorem dX10_besideOf_26 : decode cX10_besideOf 26 = .ok (.putfield 55, 3) := by decide +kernel
theorem dX10_besideOf_29 : decode cX10_besideOf 29 = .ok (.aload_n 0, 1) := by decide +kernel
theorem dX10_besideOf_30 : decode cX10_besideOf 30 = .ok (.getfield 232, 3) := by decide +kernel
theorem dX10_besideOf_33 : decode cX10_besideOf 33 = .ok (.ireturn, 1) := by decide +kernel
theorem dX10_besideOf_34 : decode cX10_besideOf 34 = .ok (.iconst 0, 1) := by decide +kernel
theorem dX10_besideOf_35 : decode cX10_besideOf 35 = .ok (.istore_n 3, 1) := by decide +kernel
theorem dX10_besideOf_36 : decode cX10_besideOf 36 = .ok (.iconst 0, 1) := by decide +kernel
theorem dX10_besideOf_37 : decode cX10_besideOf 37 = .ok (.istore 4, 2) := by decide +kernel
theorem dX10_besideOf_39 : decode cX10_besideOf 39 = .ok (.iload 4, 2) := by decide +kernel
theorem dX10_besideOf_41 : decode cX10_besideOf 41 = .ok (.aload_n 0, 1) := by decide +kernel
theorem dX10_besideOf_42 : decode cX10_besideOf 42 = .ok (.getfield 109, 3) := by decide +kernel
theorem dX10_besideOf_45 : decode cX10_besideOf 45 = .ok (.if_icmp .ge 19, 3) := by decide +kernel
theorem dX10_besideOf_48 : decode cX10_besideOf 48 = .ok (.iload_n 3, 1) := by decide +kernel
theorem dX10_besideOf_49 : decode cX10_besideOf 49 = .ok (.aload_n 0, 1) := by decide +kernel
theorem dX10_besideOf_50 : decode cX10_besideOf 50 = .ok (.getfield 25, 3) := by decide +kernel
theorem dX10_besideOf_53 : decode cX10_besideOf 53 = .ok (.iload 4, 2) := by decide +kernel
theorem dX10_besideOf_55 : decode cX10_besideOf 55 = .ok (.iaload, 1) := by decide +kernel
theorem dX10_besideOf_56 : decode cX10_besideOf 56 = .ok (.iadd, 1) := by decide +kernel
theorem dX10_besideOf_57 : decode cX10_besideOf 57 = .ok (.istore_n 3, 1) := by decide +kernel
theorem dX10_besideOf_58 : decode cX10_besideOf 58 = .ok (.iinc 4 1, 3) := by decide +kernel
theorem dX10_besideOf_61 : decode cX10_besideOf 61 = .ok (.goto (-22), 3) := by decide +kernel
theorem dX10_besideOf_64 : decode cX10_besideOf 64 = .ok (.aload_n 0, 1) := by decide +kernel
theorem dX10_besideOf_65 : decode cX10_besideOf 65 = .ok (.iload_n 1, 1) := by decide +kernel
theorem dX10_besideOf_66 : decode cX10_besideOf 66 = .ok (.invokevirtual 222, 3) := by decide +kernel
theorem dX10_besideOf_69 : decode cX10_besideOf 69 = .ok (.iconst 0, 1) := by decide +kernel
theorem dX10_besideOf_70 : decode cX10_besideOf 70 = .ok (.istore 4, 2) := by decide +kernel
theorem dX10_besideOf_72 : decode cX10_besideOf 72 = .ok (.iconst 0, 1) := by decide +kernel
theorem dX10_besideOf_73 : decode cX10_besideOf 73 = .ok (.istore 5, 2) := by decide +kernel
theorem dX10_besideOf_75 : decode cX10_besideOf 75 = .ok (.iload 5, 2) := by decide +kernel
theorem dX10_besideOf_77 : decode cX10_besideOf 77 = .ok (.aload_n 0, 1) := by decide +kernel
theorem dX10_besideOf_78 : decode cX10_besideOf 78 = .ok (.getfield 102, 3) := by decide +kernel
theorem dX10_besideOf_81 : decode cX10_besideOf 81 = .ok (.if_icmp .ge 47, 3) := by decide +kernel
theorem dX10_besideOf_84 : decode cX10_besideOf 84 = .ok (.aload_n 0, 1) := by decide +kernel
theorem dX10_besideOf_85 : decode cX10_besideOf 85 = .ok (.getfield 9, 3) := by decide +kernel
theorem dX10_besideOf_88 : decode cX10_besideOf 88 = .ok (.iload 5, 2) := by decide +kernel
theorem dX10_besideOf_90 : decode cX10_besideOf 90 = .ok (.iaload, 1) := by decide +kernel
theorem dX10_besideOf_91 : decode cX10_besideOf 91 = .ok (.iload_n 3, 1) := by decide +kernel
theorem dX10_besideOf_92 : decode cX10_besideOf 92 = .ok (.idiv, 1) := by decide +kernel
theorem dX10_besideOf_93 : decode cX10_besideOf 93 = .ok (.istore 6, 2) := by decide +kernel
theorem dX10_besideOf_95 : decode cX10_besideOf 95 = .ok (.iload 4, 2) := by decide +kernel
theorem dX10_besideOf_97 : decode cX10_besideOf 97 = .ok (.aload_n 0, 1) := by decide +kernel
theorem dX10_besideOf_98 : decode cX10_besideOf 98 = .ok (.getfield 49, 3) := by decide +kernel
theorem dX10_besideOf_101 : decode cX10_besideOf 101 = .ok (.iconst 4, 1) := by decide +kernel
theorem dX10_besideOf_102 : decode cX10_besideOf 102 = .ok (.iload 5, 2) := by decide +kernel
theorem dX10_besideOf_104 : decode cX10_besideOf 104 = .ok (.imul, 1) := by decide +kernel
theorem dX10_besideOf_105 : decode cX10_besideOf 105 = .ok (.iload 6, 2) := by decide +kernel
theorem dX10_besideOf_107 : decode cX10_besideOf 107 = .ok (.iconst 3, 1) := by decide +kernel
theorem dX10_besideOf_108 : decode cX10_besideOf 108 = .ok (.if_icmp .le 7, 3) := by decide +kernel
theorem dX10_besideOf_111 : decode cX10_besideOf 111 = .ok (.iconst 3, 1) := by decide +kernel
theorem dX10_besideOf_112 : decode cX10_besideOf 112 = .ok (.goto 5, 3) := by decide +kernel
theorem dX10_besideOf_115 : decode cX10_besideOf 115 = .ok (.iload 6, 2) := by decide +kernel
theorem dX10_besideOf_117 : decode cX10_besideOf 117 = .ok (.iadd, 1) := by decide +kernel
theorem dX10_besideOf_118 : decode cX10_besideOf 118 = .ok (.iaload, 1) := by decide +kernel
theorem dX10_besideOf_119 : decode cX10_besideOf 119 = .ok (.iadd, 1) := by decide +kernel
theorem dX10_besideOf_120 : decode cX10_besideOf 120 = .ok (.istore 4, 2) := by decide +kernel
theorem dX10_besideOf_122 : decode cX10_besideOf 122 = .ok (.iinc 5 1, 3) := by decide +kernel
theorem dX10_besideOf_125 : decode cX10_besideOf 125 = .ok (.goto (-50), 3) := by decide +kernel
theorem dX10_besideOf_128 : decode cX10_besideOf 128 = .ok (.iload 4, 2) := by decide +kernel
theorem dX10_besideOf_130 : decode cX10_besideOf 130 = .ok (.ireturn, 1) := by decide +kernel
theorem dX10_beside_0 : decode cX10_beside 0 = .ok (.aload_n 0, 1) := by decide +kernel
theorem dX10_beside_1 : decode cX10_beside 1 = .ok (.iload_n 1, 1) := by decide +kernel
theorem dX10_beside_2 : decode cX10_beside 2 = .ok (.invokevirtual 144, 3) := by decide +kernel
theorem dX10_beside_5 : decode cX10_beside 5 = .ok (.ifCond .eq 19, 3) := by decide +kernel
theorem dX10_beside_8 : decode cX10_beside 8 = .ok (.iload_n 2, 1) := by decide +kernel
theorem dX10_beside_9 : decode cX10_beside 9 = .ok (.invokestatic 312, 3) := by decide +kernel
theorem dX10_beside_12 : decode cX10_beside 12 = .ok (.ifCond .eq 12, 3) := by decide +kernel
theorem dX10_beside_15 : decode cX10_beside 15 = .ok (.aload_n 0, 1) := by decide +kernel
theorem dX10_beside_16 : decode cX10_beside 16 = .ok (.iload_n 1, 1) := by decide +kernel
theorem dX10_beside_17 : decode cX10_beside 17 = .ok (.iload_n 2, 1) := by decide +kernel
theorem dX10_beside_18 : decode cX10_beside 18 = .ok (.invokevirtual 315, 3) := by decide +kernel
theorem dX10_beside_21 : decode cX10_beside 21 = .ok (.goto 4, 3) := by decide +kernel
theorem dX10_beside_24 : decode cX10_beside 24 = .ok (.iconst (-1), 1) := by decide +kernel
theorem dX10_beside_25 : decode cX10_beside 25 = .ok (.ireturn, 1) := by decide +kernel
theorem dX10_loses_0 : decode cX10_loses 0 = .ok (.iload_n 1, 1) := by decide +kernel
theorem dX10_loses_1 : decode cX10_loses 1 = .ok (.invokestatic 312, 3) := by decide +kernel
theorem dX10_loses_4 : decode cX10_loses 4 = .ok (.ifCond .ne 5, 3) := by decide +kernel
theorem dX10_loses_7 : decode cX10_loses 7 = .ok (.iconst (-1), 1) := by decide +kernel
theorem dX10_loses_8 : decode cX10_loses 8 = .ok (.ireturn, 1) := by decide +kernel
theorem dX10_loses_9 : decode cX10_loses 9 = .ok (.iconst 0, 1) := by decide +kernel
theorem dX10_loses_10 : decode cX10_loses 10 = .ok (.istore_n 2, 1) := by decide +kernel
theorem dX10_loses_11 : decode cX10_loses 11 = .ok (.iconst 0, 1) := by decide +kernel
theorem dX10_loses_12 : decode cX10_loses 12 = .ok (.istore_n 3, 1) := by decide +kernel
theorem dX10_loses_13 : decode cX10_loses 13 = .ok (.iload_n 3, 1) := by decide +kernel
theorem dX10_loses_14 : decode cX10_loses 14 = .ok (.aload_n 0, 1) := by decide +kernel
theorem dX10_loses_15 : decode cX10_loses 15 = .ok (.getfield 109, 3) := by decide +kernel
theorem dX10_loses_18 : decode cX10_loses 18 = .ok (.if_icmp .ge 43, 3) := by decide +kernel
theorem dX10_loses_21 : decode cX10_loses 21 = .ok (.aload_n 0, 1) := by decide +kernel
theorem dX10_loses_22 : decode cX10_loses 22 = .ok (.iload_n 3, 1) := by decide +kernel
theorem dX10_loses_23 : decode cX10_loses 23 = .ok (.invokevirtual 244, 3) := by decide +kernel
theorem dX10_loses_26 : decode cX10_loses 26 = .ok (.istore 4, 2) := by decide +kernel
theorem dX10_loses_28 : decode cX10_loses 28 = .ok (.aload_n 0, 1) := by decide +kernel
theorem dX10_loses_29 : decode cX10_loses 29 = .ok (.getfield 232, 3) := by decide +kernel
theorem dX10_loses_32 : decode cX10_loses 32 = .ok (.istore 5, 2) := by decide +kernel
theorem dX10_loses_34 : decode cX10_loses 34 = .ok (.iload_n 2, 1) := by decide +kernel
theorem dX10_loses_35 : decode cX10_loses 35 = .ok (.iload 5, 2) := by decide +kernel
theorem dX10_loses_37 : decode cX10_loses 37 = .ok (.aload_n 0, 1) := by decide +kernel
theorem dX10_loses_38 : decode cX10_loses 38 = .ok (.iload_n 3, 1) := by decide +kernel
theorem dX10_loses_39 : decode cX10_loses 39 = .ok (.iload_n 1, 1) := by decide +kernel
theorem dX10_loses_40 : decode cX10_loses 40 = .ok (.invokevirtual 315, 3) := by decide +kernel
theorem dX10_loses_43 : decode cX10_loses 43 = .ok (.if_icmp .ge 9, 3) := by decide +kernel
theorem dX10_loses_46 : decode cX10_loses 46 = .ok (.iconst 1, 1) := by decide +kernel
theorem dX10_loses_47 : decode cX10_loses 47 = .ok (.iload_n 3, 1) := by decide +kernel
theorem dX10_loses_48 : decode cX10_loses 48 = .ok (.ishl, 1) := by decide +kernel
theorem dX10_loses_49 : decode cX10_loses 49 = .ok (.goto 4, 3) := by decide +kernel
theorem dX10_loses_52 : decode cX10_loses 52 = .ok (.iconst 0, 1) := by decide +kernel
theorem dX10_loses_53 : decode cX10_loses 53 = .ok (.ior, 1) := by decide +kernel
theorem dX10_loses_54 : decode cX10_loses 54 = .ok (.istore_n 2, 1) := by decide +kernel
theorem dX10_loses_55 : decode cX10_loses 55 = .ok (.iinc 3 1, 3) := by decide +kernel
theorem dX10_loses_58 : decode cX10_loses 58 = .ok (.goto (-45), 3) := by decide +kernel
theorem dX10_loses_61 : decode cX10_loses 61 = .ok (.iload_n 2, 1) := by decide +kernel
theorem dX10_loses_62 : decode cX10_loses 62 = .ok (.ireturn, 1) := by decide +kernel
theorem dX10_bitsOf_0 : decode cX10_bitsOf 0 = .ok (.iconst 0, 1) := by decide +kernel
theorem dX10_bitsOf_1 : decode cX10_bitsOf 1 = .ok (.istore_n 1, 1) := by decide +kernel
theorem dX10_bitsOf_2 : decode cX10_bitsOf 2 = .ok (.iload_n 0, 1) := by decide +kernel
theorem dX10_bitsOf_3 : decode cX10_bitsOf 3 = .ok (.istore_n 2, 1) := by decide +kernel
theorem dX10_bitsOf_4 : decode cX10_bitsOf 4 = .ok (.iload_n 2, 1) := by decide +kernel
theorem dX10_bitsOf_5 : decode cX10_bitsOf 5 = .ok (.ifCond .eq 15, 3) := by decide +kernel
theorem dX10_bitsOf_8 : decode cX10_bitsOf 8 = .ok (.iinc 1 1, 3) := by decide +kernel
theorem dX10_bitsOf_11 : decode cX10_bitsOf 11 = .ok (.iload_n 2, 1) := by decide +kernel
theorem dX10_bitsOf_12 : decode cX10_bitsOf 12 = .ok (.iload_n 2, 1) := by decide +kernel
theorem dX10_bitsOf_13 : decode cX10_bitsOf 13 = .ok (.iconst 1, 1) := by decide +kernel
theorem dX10_bitsOf_14 : decode cX10_bitsOf 14 = .ok (.isub, 1) := by decide +kernel
theorem dX10_bitsOf_15 : decode cX10_bitsOf 15 = .ok (.iand, 1) := by decide +kernel
theorem dX10_bitsOf_16 : decode cX10_bitsOf 16 = .ok (.istore_n 2, 1) := by decide +kernel
theorem dX10_bitsOf_17 : decode cX10_bitsOf 17 = .ok (.goto (-13), 3) := by decide +kernel
theorem dX10_bitsOf_20 : decode cX10_bitsOf 20 = .ok (.iload_n 1, 1) := by decide +kernel
theorem dX10_bitsOf_21 : decode cX10_bitsOf 21 = .ok (.ireturn, 1) := by decide +kernel
theorem dX10_isGone_0 : decode cX10_isGone 0 = .ok (.iconst 0, 1) := by decide +kernel
theorem dX10_isGone_1 : decode cX10_isGone 1 = .ok (.istore_n 1, 1) := by decide +kernel
theorem dX10_isGone_2 : decode cX10_isGone 2 = .ok (.iload_n 1, 1) := by decide +kernel
theorem dX10_isGone_3 : decode cX10_isGone 3 = .ok (.aload_n 0, 1) := by decide +kernel
theorem dX10_isGone_4 : decode cX10_isGone 4 = .ok (.getfield 102, 3) := by decide +kernel
theorem dX10_isGone_7 : decode cX10_isGone 7 = .ok (.if_icmp .ge 19, 3) := by decide +kernel
theorem dX10_isGone_10 : decode cX10_isGone 10 = .ok (.aload_n 0, 1) := by decide +kernel
theorem dX10_isGone_11 : decode cX10_isGone 11 = .ok (.iload_n 1, 1) := by decide +kernel
theorem dX10_isGone_12 : decode cX10_isGone 12 = .ok (.invokevirtual 250, 3) := by decide +kernel
theorem dX10_isGone_15 : decode cX10_isGone 15 = .ok (.ifCond .ge 5, 3) := by decide +kernel
theorem dX10_isGone_18 : decode cX10_isGone 18 = .ok (.iconst 1, 1) := by decide +kernel
theorem dX10_isGone_19 : decode cX10_isGone 19 = .ok (.ireturn, 1) := by decide +kernel
theorem dX10_isGone_20 : decode cX10_isGone 20 = .ok (.iinc 1 1, 3) := by decide +kernel
theorem dX10_isGone_23 : decode cX10_isGone 23 = .ok (.goto (-21), 3) := by decide +kernel
theorem dX10_isGone_26 : decode cX10_isGone 26 = .ok (.iconst 0, 1) := by decide +kernel
theorem dX10_isGone_27 : decode cX10_isGone 27 = .ok (.ireturn, 1) := by decide +kernel
theorem dX10_fewest_0 : decode cX10_fewest 0 = .ok (.bipush (-2), 2) := by decide +kernel
theorem dX10_fewest_2 : decode cX10_fewest 2 = .ok (.istore_n 1, 1) := by decide +kernel
theorem dX10_fewest_3 : decode cX10_fewest 3 = .ok (.iconst 0, 1) := by decide +kernel
theorem dX10_fewest_4 : decode cX10_fewest 4 = .ok (.istore_n 2, 1) := by decide +kernel
theorem dX10_fewest_5 : decode cX10_fewest 5 = .ok (.iload_n 2, 1) := by decide +kernel
theorem dX10_fewest_6 : decode cX10_fewest 6 = .ok (.aload_n 0, 1) := by decide +kernel
theorem dX10_fewest_7 : decode cX10_fewest 7 = .ok (.getfield 102, 3) := by decide +kernel
theorem dX10_fewest_10 : decode cX10_fewest 10 = .ok (.if_icmp .ge 24, 3) := by decide +kernel
theorem dX10_fewest_13 : decode cX10_fewest 13 = .ok (.aload_n 0, 1) := by decide +kernel
theorem dX10_fewest_14 : decode cX10_fewest 14 = .ok (.getfield 71, 3) := by decide +kernel
theorem dX10_fewest_17 : decode cX10_fewest 17 = .ok (.iload_n 2, 1) := by decide +kernel
theorem dX10_fewest_18 : decode cX10_fewest 18 = .ok (.aload_n 0, 1) := by decide +kernel
theorem dX10_fewest_19 : decode cX10_fewest 19 = .ok (.getfield 9, 3) := by decide +kernel
theorem dX10_fewest_22 : decode cX10_fewest 22 = .ok (.bipush 12, 2) := by decide +kernel
theorem dX10_fewest_24 : decode cX10_fewest 24 = .ok (.iload_n 2, 1) := by decide +kernel
theorem dX10_fewest_25 : decode cX10_fewest 25 = .ok (.iadd, 1) := by decide +kernel
theorem dX10_fewest_26 : decode cX10_fewest 26 = .ok (.iaload, 1) := by decide +kernel
theorem dX10_fewest_27 : decode cX10_fewest 27 = .ok (.iastore, 1) := by decide +kernel
theorem dX10_fewest_28 : decode cX10_fewest 28 = .ok (.iinc 2 1, 3) := by decide +kernel
theorem dX10_fewest_31 : decode cX10_fewest 31 = .ok (.goto (-26), 3) := by decide +kernel
theorem dX10_fewest_34 : decode cX10_fewest 34 = .ok (.iconst 0, 1) := by decide +kernel
theorem dX10_fewest_35 : decode cX10_fewest 35 = .ok (.istore_n 2, 1) := by decide +kernel
theorem dX10_fewest_36 : decode cX10_fewest 36 = .ok (.iload_n 2, 1) := by decide +kernel
theorem dX10_fewest_37 : decode cX10_fewest 37 = .ok (.iconst 1, 1) := by decide +kernel
theorem dX10_fewest_38 : decode cX10_fewest 38 = .ok (.aload_n 0, 1) := by decide +kernel
theorem dX10_fewest_39 : decode cX10_fewest 39 = .ok (.getfield 102, 3) := by decide +kernel
theorem dX10_fewest_42 : decode cX10_fewest 42 = .ok (.ishl, 1) := by decide +kernel
theorem dX10_fewest_43 : decode cX10_fewest 43 = .ok (.if_icmp .ge 88, 3) := by decide +kernel
theorem dX10_fewest_46 : decode cX10_fewest 46 = .ok (.iload_n 1, 1) := by decide +kernel
theorem dX10_fewest_47 : decode cX10_fewest 47 = .ok (.ifCond .lt 17, 3) := by decide +kernel
theorem dX10_fewest_50 : decode cX10_fewest 50 = .ok (.iload_n 2, 1) := by decide +kernel
theorem dX10_fewest_51 : decode cX10_fewest 51 = .ok (.invokestatic 318, 3) := by decide +kernel
theorem dX10_fewest_54 : decode cX10_fewest 54 = .ok (.iload_n 1, 1) := by decide +kernel
theorem dX10_fewest_55 : decode cX10_fewest 55 = .ok (.invokestatic 318, 3) := by decide +kernel
theorem dX10_fewest_58 : decode cX10_fewest 58 = .ok (.if_icmp .lt 6, 3) := by decide +kernel
theorem dX10_fewest_61 : decode cX10_fewest 61 = .ok (.goto 64, 3) := by decide +kernel
theorem dX10_fewest_64 : decode cX10_fewest 64 = .ok (.iconst 0, 1) := by decide +kernel
theorem dX10_fewest_65 : decode cX10_fewest 65 = .ok (.istore_n 3, 1) := by decide +kernel
theorem dX10_fewest_66 : decode cX10_fewest 66 = .ok (.iload_n 3, 1) := by decide +kernel
theorem dX10_fewest_67 : decode cX10_fewest 67 = .ok (.aload_n 0, 1) := by decide +kernel
theorem dX10_fewest_68 : decode cX10_fewest 68 = .ok (.getfield 102, 3) := by decide +kernel
theorem dX10_fewest_71 : decode cX10_fewest 71 = .ok (.if_icmp .ge 37, 3) := by decide +kernel
theorem dX10_fewest_74 : decode cX10_fewest 74 = .ok (.aload_n 0, 1) := by decide +kernel
theorem dX10_fewest_75 : decode cX10_fewest 75 = .ok (.getfield 9, 3) := by decide +kernel
theorem dX10_fewest_78 : decode cX10_fewest 78 = .ok (.bipush 12, 2) := by decide +kernel
theorem dX10_fewest_80 : decode cX10_fewest 80 = .ok (.iload_n 3, 1) := by decide +kernel
theorem dX10_fewest_81 : decode cX10_fewest 81 = .ok (.iadd, 1) := by decide +kernel
theorem dX10_fewest_82 : decode cX10_fewest 82 = .ok (.iload_n 2, 1) := by decide +kernel
theorem dX10_fewest_83 : decode cX10_fewest 83 = .ok (.iload_n 3, 1) := by decide +kernel
theorem dX10_fewest_84 : decode cX10_fewest 84 = .ok (.ishr, 1) := by decide +kernel
theorem dX10_fewest_85 : decode cX10_fewest 85 = .ok (.iconst 1, 1) := by decide +kernel
theorem dX10_fewest_86 : decode cX10_fewest 86 = .ok (.iand, 1) := by decide +kernel
theorem dX10_fewest_87 : decode cX10_fewest 87 = .ok (.iconst 1, 1) := by decide +kernel
theorem dX10_fewest_88 : decode cX10_fewest 88 = .ok (.if_icmp .ne 12, 3) := by decide +kernel
theorem dX10_fewest_91 : decode cX10_fewest 91 = .ok (.aload_n 0, 1) := by decide +kernel
theorem dX10_fewest_92 : decode cX10_fewest 92 = .ok (.getfield 71, 3) := by decide +kernel
theorem dX10_fewest_95 : decode cX10_fewest 95 = .ok (.iload_n 3, 1) := by decide +kernel
theorem dX10_fewest_96 : decode cX10_fewest 96 = .ok (.iaload, 1) := by decide +kernel
theorem dX10_fewest_97 : decode cX10_fewest 97 = .ok (.goto 4, 3) := by decide +kernel
theorem dX10_fewest_100 : decode cX10_fewest 100 = .ok (.iconst 0, 1) := by decide +kernel
theorem dX10_fewest_101 : decode cX10_fewest 101 = .ok (.iastore, 1) := by decide +kernel
theorem dX10_fewest_102 : decode cX10_fewest 102 = .ok (.iinc 3 1, 3) := by decide +kernel
theorem dX10_fewest_105 : decode cX10_fewest 105 = .ok (.goto (-39), 3) := by decide +kernel
theorem dX10_fewest_108 : decode cX10_fewest 108 = .ok (.aload_n 0, 1) := by decide +kernel
theorem dX10_fewest_109 : decode cX10_fewest 109 = .ok (.invokevirtual 257, 3) := by decide +kernel
theorem dX10_fewest_112 : decode cX10_fewest 112 = .ok (.aload_n 0, 1) := by decide +kernel
theorem dX10_fewest_113 : decode cX10_fewest 113 = .ok (.invokevirtual 321, 3) := by decide +kernel
theorem dX10_fewest_116 : decode cX10_fewest 116 = .ok (.ifCond .eq 7, 3) := by decide +kernel
theorem dX10_fewest_119 : decode cX10_fewest 119 = .ok (.iload_n 1, 1) := by decide +kernel
theorem dX10_fewest_120 : decode cX10_fewest 120 = .ok (.goto 4, 3) := by decide +kernel
theorem dX10_fewest_123 : decode cX10_fewest 123 = .ok (.iload_n 2, 1) := by decide +kernel
theorem dX10_fewest_124 : decode cX10_fewest 124 = .ok (.istore_n 1, 1) := by decide +kernel
theorem dX10_fewest_125 : decode cX10_fewest 125 = .ok (.iinc 2 1, 3) := by decide +kernel
theorem dX10_fewest_128 : decode cX10_fewest 128 = .ok (.goto (-92), 3) := by decide +kernel
theorem dX10_fewest_131 : decode cX10_fewest 131 = .ok (.iconst 0, 1) := by decide +kernel
theorem dX10_fewest_132 : decode cX10_fewest 132 = .ok (.istore_n 2, 1) := by decide +kernel
theorem dX10_fewest_133 : decode cX10_fewest 133 = .ok (.iload_n 2, 1) := by decide +kernel
theorem dX10_fewest_134 : decode cX10_fewest 134 = .ok (.aload_n 0, 1) := by decide +kernel
theorem dX10_fewest_135 : decode cX10_fewest 135 = .ok (.getfield 102, 3) := by decide +kernel
theorem dX10_fewest_138 : decode cX10_fewest 138 = .ok (.if_icmp .ge 24, 3) := by decide +kernel
theorem dX10_fewest_141 : decode cX10_fewest 141 = .ok (.aload_n 0, 1) := by decide +kernel
theorem dX10_fewest_142 : decode cX10_fewest 142 = .ok (.getfield 9, 3) := by decide +kernel
theorem dX10_fewest_145 : decode cX10_fewest 145 = .ok (.bipush 12, 2) := by decide +kernel
theorem dX10_fewest_147 : decode cX10_fewest 147 = .ok (.iload_n 2, 1) := by decide +kernel
theorem dX10_fewest_148 : decode cX10_fewest 148 = .ok (.iadd, 1) := by decide +kernel
theorem dX10_fewest_149 : decode cX10_fewest 149 = .ok (.aload_n 0, 1) := by decide +kernel
theorem dX10_fewest_150 : decode cX10_fewest 150 = .ok (.getfield 71, 3) := by decide +kernel
theorem dX10_fewest_153 : decode cX10_fewest 153 = .ok (.iload_n 2, 1) := by decide +kernel
theorem dX10_fewest_154 : decode cX10_fewest 154 = .ok (.iaload, 1) := by decide +kernel
theorem dX10_fewest_155 : decode cX10_fewest 155 = .ok (.iastore, 1) := by decide +kernel
theorem dX10_fewest_156 : decode cX10_fewest 156 = .ok (.iinc 2 1, 3) := by decide +kernel
theorem dX10_fewest_159 : decode cX10_fewest 159 = .ok (.goto (-26), 3) := by decide +kernel
theorem dX10_fewest_162 : decode cX10_fewest 162 = .ok (.iload_n 1, 1) := by decide +kernel
theorem dX10_fewest_163 : decode cX10_fewest 163 = .ok (.ireturn, 1) := by decide +kernel
theorem dX10_least_0 : decode cX10_least 0 = .ok (.aload_n 0, 1) := by decide +kernel
theorem dX10_least_1 : decode cX10_least 1 = .ok (.iload_n 1, 1) := by decide +kernel
theorem dX10_least_2 : decode cX10_least 2 = .ok (.invokevirtual 132, 3) := by decide +kernel
theorem dX10_least_5 : decode cX10_least 5 = .ok (.ifCond .ne 5, 3) := by decide +kernel
theorem dX10_least_8 : decode cX10_least 8 = .ok (.iconst (-1), 1) := by decide +kernel
theorem dX10_least_9 : decode cX10_least 9 = .ok (.ireturn, 1) := by decide +kernel
theorem dX10_least_10 : decode cX10_least 10 = .ok (.aload_n 0, 1) := by decide +kernel
theorem dX10_least_11 : decode cX10_least 11 = .ok (.invokevirtual 257, 3) := by decide +kernel
theorem dX10_least_14 : decode cX10_least 14 = .ok (.iconst 0, 1) := by decide +kernel
theorem dX10_least_15 : decode cX10_least 15 = .ok (.istore_n 2, 1) := by decide +kernel
theorem dX10_least_16 : decode cX10_least 16 = .ok (.iconst 0, 1) := by decide +kernel
theorem dX10_least_17 : decode cX10_least 17 = .ok (.istore_n 3, 1) := by decide +kernel
theorem dX10_least_18 : decode cX10_least 18 = .ok (.iload_n 3, 1) := by decide +kernel
theorem dX10_least_19 : decode cX10_least 19 = .ok (.aload_n 0, 1) := by decide +kernel
theorem dX10_least_20 : decode cX10_least 20 = .ok (.getfield 109, 3) := by decide +kernel
theorem dX10_least_23 : decode cX10_least 23 = .ok (.if_icmp .ge 33, 3) := by decide +kernel
theorem dX10_least_26 : decode cX10_least 26 = .ok (.iload_n 2, 1) := by decide +kernel
theorem dX10_least_27 : decode cX10_least 27 = .ok (.aload_n 0, 1) := by decide +kernel
theorem dX10_least_28 : decode cX10_least 28 = .ok (.getfield 62, 3) := by decide +kernel
theorem dX10_least_31 : decode cX10_least 31 = .ok (.bipush 6, 2) := by decide +kernel
theorem dX10_least_33 : decode cX10_least 33 = .ok (.iload_n 3, 1) := by decide +kernel
theorem dX10_least_34 : decode cX10_least 34 = .ok (.imul, 1) := by decide +kernel
theorem dX10_least_35 : decode cX10_least 35 = .ok (.iload_n 1, 1) := by decide +kernel
theorem dX10_least_36 : decode cX10_least 36 = .ok (.iadd, 1) := by decide +kernel
theorem dX10_least_37 : decode cX10_least 37 = .ok (.iaload, 1) := by decide +kernel
theorem dX10_least_38 : decode cX10_least 38 = .ok (.ifCond .le 9, 3) := by decide +kernel
theorem dX10_least_41 : decode cX10_least 41 = .ok (.iconst 1, 1) := by decide +kernel
theorem dX10_least_42 : decode cX10_least 42 = .ok (.iload_n 3, 1) := by decide +kernel
theorem dX10_least_43 : decode cX10_least 43 = .ok (.ishl, 1) := by decide +kernel
theorem dX10_least_44 : decode cX10_least 44 = .ok (.goto 4, 3) := by decide +kernel
theorem dX10_least_47 : decode cX10_least 47 = .ok (.iconst 0, 1) := by decide +kernel
theorem dX10_least_48 : decode cX10_least 48 = .ok (.ior, 1) := by decide +kernel
theorem dX10_least_49 : decode cX10_least 49 = .ok (.istore_n 2, 1) := by decide +kernel
theorem dX10_least_50 : decode cX10_least 50 = .ok (.iinc 3 1, 3) := by decide +kernel
theorem dX10_least_53 : decode cX10_least 53 = .ok (.goto (-35), 3) := by decide +kernel
theorem dX10_least_56 : decode cX10_least 56 = .ok (.iload_n 2, 1) := by decide +kernel
theorem dX10_least_57 : decode cX10_least 57 = .ok (.ireturn, 1) := by decide +kernel
theorem dX10_months_0 : decode cX10_months 0 = .ok (.aload_n 0, 1) := by decide +kernel
theorem dX10_months_1 : decode cX10_months 1 = .ok (.iload_n 1, 1) := by decide +kernel
theorem dX10_months_2 : decode cX10_months 2 = .ok (.invokevirtual 144, 3) := by decide +kernel
theorem dX10_months_5 : decode cX10_months 5 = .ok (.ifCond .eq 34, 3) := by decide +kernel
theorem dX10_months_8 : decode cX10_months 8 = .ok (.iload_n 2, 1) := by decide +kernel
theorem dX10_months_9 : decode cX10_months 9 = .ok (.i2l, 1) := by decide +kernel
theorem dX10_months_10 : decode cX10_months 10 = .ok (.lconst 1, 1) := by decide +kernel
theorem dX10_months_11 : decode cX10_months 11 = .ok (.ldc2_w 325, 3) := by decide +kernel
theorem dX10_months_14 : decode cX10_months 14 = .ok (.invokestatic 105, 3) := by decide +kernel
theorem dX10_months_17 : decode cX10_months 17 = .ok (.ifCond .eq 22, 3) := by decide +kernel
theorem dX10_months_20 : decode cX10_months 20 = .ok (.iload_n 3, 1) := by decide +kernel
theorem dX10_months_21 : decode cX10_months 21 = .ok (.i2l, 1) := by decide +kernel
theorem dX10_months_22 : decode cX10_months 22 = .ok (.invokestatic 118, 3) := by decide +kernel
theorem dX10_months_25 : decode cX10_months 25 = .ok (.ifCond .eq 14, 3) := by decide +kernel
theorem dX10_months_28 : decode cX10_months 28 = .ok (.iload 4, 2) := by decide +kernel
theorem dX10_months_30 : decode cX10_months 30 = .ok (.i2l, 1) := by decide +kernel
theorem dX10_months_31 : decode cX10_months 31 = .ok (.lconst 0, 1) := by decide +kernel
theorem dX10_months_32 : decode cX10_months 32 = .ok (.lconst 1, 1) := by decide +kernel
theorem dX10_months_33 : decode cX10_months 33 = .ok (.invokestatic 105, 3) := by decide +kernel
theorem dX10_months_36 : decode cX10_months 36 = .ok (.ifCond .ne 5, 3) := by decide +kernel
theorem dX10_months_39 : decode cX10_months 39 = .ok (.iconst (-1), 1) := by decide +kernel
theorem dX10_months_40 : decode cX10_months 40 = .ok (.ireturn, 1) := by decide +kernel
theorem dX10_months_41 : decode cX10_months 41 = .ok (.iconst 0, 1) := by decide +kernel
theorem dX10_months_42 : decode cX10_months 42 = .ok (.istore 5, 2) := by decide +kernel
theorem dX10_months_44 : decode cX10_months 44 = .ok (.iconst 0, 1) := by decide +kernel
theorem dX10_months_45 : decode cX10_months 45 = .ok (.istore 6, 2) := by decide +kernel
theorem dX10_months_47 : decode cX10_months 47 = .ok (.iconst 0, 1) := by decide +kernel
theorem dX10_months_48 : decode cX10_months 48 = .ok (.istore 7, 2) := by decide +kernel
theorem dX10_months_50 : decode cX10_months 50 = .ok (.iconst 0, 1) := by decide +kernel
theorem dX10_months_51 : decode cX10_months 51 = .ok (.istore 8, 2) := by decide +kernel
theorem dX10_months_53 : decode cX10_months 53 = .ok (.iload 8, 2) := by decide +kernel
theorem dX10_months_55 : decode cX10_months 55 = .ok (.iload_n 2, 1) := by decide +kernel
theorem dX10_months_56 : decode cX10_months 56 = .ok (.if_icmp .ge 87, 3) := by decide +kernel
theorem dX10_months_59 : decode cX10_months 59 = .ok (.aload_n 0, 1) := by decide +kernel
theorem dX10_months_60 : decode cX10_months 60 = .ok (.iload_n 1, 1) := by decide +kernel
theorem dX10_months_61 : decode cX10_months 61 = .ok (.invokevirtual 153, 3) := by decide +kernel
theorem dX10_months_64 : decode cX10_months 64 = .ok (.iload 7, 2) := by decide +kernel
theorem dX10_months_66 : decode cX10_months 66 = .ok (.iadd, 1) := by decide +kernel
theorem dX10_months_67 : decode cX10_months 67 = .ok (.istore 9, 2) := by decide +kernel
theorem dX10_months_69 : decode cX10_months 69 = .ok (.aload_n 0, 1) := by decide +kernel
theorem dX10_months_70 : decode cX10_months 70 = .ok (.iload_n 1, 1) := by decide +kernel
theorem dX10_months_71 : decode cX10_months 71 = .ok (.aload_n 0, 1) := by decide +kernel
theorem dX10_months_72 : decode cX10_months 72 = .ok (.iload_n 1, 1) := by decide +kernel
theorem dX10_months_73 : decode cX10_months 73 = .ok (.invokevirtual 149, 3) := by decide +kernel
theorem dX10_months_76 : decode cX10_months 76 = .ok (.iload 9, 2) := by decide +kernel
theorem dX10_months_78 : decode cX10_months 78 = .ok (.invokevirtual 241, 3) := by decide +kernel
theorem dX10_months_81 : decode cX10_months 81 = .ok (.istore 10, 2) := by decide +kernel
theorem dX10_months_83 : decode cX10_months 83 = .ok (.iload 5, 2) := by decide +kernel
theorem dX10_months_85 : decode cX10_months 85 = .ok (.aload_n 0, 1) := by decide +kernel
theorem dX10_months_86 : decode cX10_months 86 = .ok (.getfield 232, 3) := by decide +kernel
theorem dX10_months_89 : decode cX10_months 89 = .ok (.iadd, 1) := by decide +kernel
theorem dX10_months_90 : decode cX10_months 90 = .ok (.istore 5, 2) := by decide +kernel
theorem dX10_months_92 : decode cX10_months 92 = .ok (.iload 9, 2) := by decide +kernel
theorem dX10_months_94 : decode cX10_months 94 = .ok (.aload_n 0, 1) := by decide +kernel
theorem dX10_months_95 : decode cX10_months 95 = .ok (.getfield 238, 3) := by decide +kernel
theorem dX10_months_98 : decode cX10_months 98 = .ok (.isub, 1) := by decide +kernel
theorem dX10_months_99 : decode cX10_months 99 = .ok (.istore 11, 2) := by decide +kernel
theorem dX10_months_101 : decode cX10_months 101 = .ok (.iload 8, 2) := by decide +kernel
theorem dX10_months_103 : decode cX10_months 103 = .ok (.iconst 1, 1) := by decide +kernel
theorem dX10_months_104 : decode cX10_months 104 = .ok (.iadd, 1) := by decide +kernel
theorem dX10_months_105 : decode cX10_months 105 = .ok (.iload_n 2, 1) := by decide +kernel
theorem dX10_months_106 : decode cX10_months 106 = .ok (.if_icmp .ne 7, 3) := by decide +kernel
theorem dX10_months_109 : decode cX10_months 109 = .ok (.iconst 0, 1) := by decide +kernel
theorem dX10_months_110 : decode cX10_months 110 = .ok (.goto 15, 3) := by decide +kernel
theorem dX10_months_113 : decode cX10_months 113 = .ok (.iload 11, 2) := by decide +kernel
theorem dX10_months_115 : decode cX10_months 115 = .ok (.iload_n 3, 1) := by decide +kernel
theorem dX10_months_116 : decode cX10_months 116 = .ok (.if_icmp .ge 8, 3) := by decide +kernel
theorem dX10_months_119 : decode cX10_months 119 = .ok (.iload 11, 2) := by decide +kernel
theorem dX10_months_121 : decode cX10_months 121 = .ok (.goto 4, 3) := by decide +kernel
theorem dX10_months_124 : decode cX10_months 124 = .ok (.iload_n 3, 1) := by decide +kernel
theorem dX10_months_125 : decode cX10_months 125 = .ok (.istore 7, 2) := by decide +kernel
theorem dX10_months_127 : decode cX10_months 127 = .ok (.iload 6, 2) := by decide +kernel
theorem dX10_months_129 : decode cX10_months 129 = .ok (.iload 11, 2) := by decide +kernel
theorem dX10_months_131 : decode cX10_months 131 = .ok (.iload 7, 2) := by decide +kernel
theorem dX10_months_133 : decode cX10_months 133 = .ok (.isub, 1) := by decide +kernel
theorem dX10_months_134 : decode cX10_months 134 = .ok (.iadd, 1) := by decide +kernel
theorem dX10_months_135 : decode cX10_months 135 = .ok (.istore 6, 2) := by decide +kernel
theorem dX10_months_137 : decode cX10_months 137 = .ok (.iinc 8 1, 3) := by decide +kernel
theorem dX10_months_140 : decode cX10_months 140 = .ok (.goto (-87), 3) := by decide +kernel
theorem dX10_months_143 : decode cX10_months 143 = .ok (.iload 4, 2) := by decide +kernel
theorem dX10_months_145 : decode cX10_months 145 = .ok (.ifCond .ne 8, 3) := by decide +kernel
theorem dX10_months_148 : decode cX10_months 148 = .ok (.iload 5, 2) := by decide +kernel
theorem dX10_months_150 : decode cX10_months 150 = .ok (.goto 5, 3) := by decide +kernel
theorem dX10_months_153 : decode cX10_months 153 = .ok (.iload 6, 2) := by decide +kernel
theorem dX10_months_155 : decode cX10_months 155 = .ok (.ireturn, 1) := by decide +kernel
theorem dX10_foresight_0 : decode cX10_foresight 0 = .ok (.aload_n 0, 1) := by decide +kernel
theorem dX10_foresight_1 : decode cX10_foresight 1 = .ok (.iload_n 1, 1) := by decide +kernel
theorem dX10_foresight_2 : decode cX10_foresight 2 = .ok (.invokevirtual 144, 3) := by decide +kernel
theorem dX10_foresight_5 : decode cX10_foresight 5 = .ok (.ifCond .ne 5, 3) := by decide +kernel
theorem dX10_foresight_8 : decode cX10_foresight 8 = .ok (.iconst (-1), 1) := by decide +kernel
theorem dX10_foresight_9 : decode cX10_foresight 9 = .ok (.ireturn, 1) := by decide +kernel
theorem dX10_foresight_10 : decode cX10_foresight 10 = .ok (.aload_n 0, 1) := by decide +kernel
theorem dX10_foresight_11 : decode cX10_foresight 11 = .ok (.iload_n 1, 1) := by decide +kernel
theorem dX10_foresight_12 : decode cX10_foresight 12 = .ok (.invokevirtual 244, 3) := by decide +kernel
theorem dX10_foresight_15 : decode cX10_foresight 15 = .ok (.istore_n 2, 1) := by decide +kernel
theorem dX10_foresight_16 : decode cX10_foresight 16 = .ok (.iconst 2, 1) := by decide +kernel
theorem dX10_foresight_17 : decode cX10_foresight 17 = .ok (.aload_n 0, 1) := by decide +kernel
theorem dX10_foresight_18 : decode cX10_foresight 18 = .ok (.getfield 232, 3) := by decide +kernel
theorem dX10_foresight_21 : decode cX10_foresight 21 = .ok (.imul, 1) := by decide +kernel
theorem dX10_foresight_22 : decode cX10_foresight 22 = .ok (.istore_n 3, 1) := by decide +kernel
theorem dX10_foresight_23 : decode cX10_foresight 23 = .ok (.iconst 0, 1) := by decide +kernel
theorem dX10_foresight_24 : decode cX10_foresight 24 = .ok (.istore 4, 2) := by decide +kernel
theorem dX10_foresight_26 : decode cX10_foresight 26 = .ok (.iload 4, 2) := by decide +kernel
theorem dX10_foresight_28 : decode cX10_foresight 28 = .ok (.aload_n 0, 1) := by decide +kernel
theorem dX10_foresight_29 : decode cX10_foresight 29 = .ok (.getfield 74, 3) := by decide +kernel
theorem dX10_foresight_32 : decode cX10_foresight 32 = .ok (.arraylength, 1) := by decide +kernel
theorem dX10_foresight_33 : decode cX10_foresight 33 = .ok (.if_icmp .ge 17, 3) := by decide +kernel
theorem dX10_foresight_36 : decode cX10_foresight 36 = .ok (.aload_n 0, 1) := by decide +kernel
theorem dX10_foresight_37 : decode cX10_foresight 37 = .ok (.getfield 74, 3) := by decide +kernel
theorem dX10_foresight_40 : decode cX10_foresight 40 = .ok (.iload 4, 2) := by decide +kernel
theorem dX10_foresight_42 : decode cX10_foresight 42 = .ok (.iconst 0, 1) := by decide +kernel
theorem dX10_foresight_43 : decode cX10_foresight 43 = .ok (.iastore, 1) := by decide +kernel
theorem dX10_foresight_44 : decode cX10_foresight 44 = .ok (.iinc 4 1, 3) := by decide +kernel
theorem dX10_foresight_47 : decode cX10_foresight 47 = .ok (.goto (-21), 3) := by decide +kernel
theorem dX10_foresight_50 : decode cX10_foresight 50 = .ok (.iconst 0, 1) := by decide +kernel
theorem dX10_foresight_51 : decode cX10_foresight 51 = .ok (.istore 4, 2) := by decide +kernel
theorem dX10_foresight_53 : decode cX10_foresight 53 = .ok (.iload 4, 2) := by decide +kernel
theorem dX10_foresight_55 : decode cX10_foresight 55 = .ok (.aload_n 0, 1) := by decide +kernel
theorem dX10_foresight_56 : decode cX10_foresight 56 = .ok (.invokevirtual 226, 3) := by decide +kernel
theorem dX10_foresight_59 : decode cX10_foresight 59 = .ok (.if_icmp .ge 56, 3) := by decide +kernel
theorem dX10_foresight_62 : decode cX10_foresight 62 = .ok (.aload_n 0, 1) := by decide +kernel
theorem dX10_foresight_63 : decode cX10_foresight 63 = .ok (.iload 4, 2) := by decide +kernel
theorem dX10_foresight_65 : decode cX10_foresight 65 = .ok (.invokevirtual 229, 3) := by decide +kernel
theorem dX10_foresight_68 : decode cX10_foresight 68 = .ok (.aload_n 0, 1) := by decide +kernel
theorem dX10_foresight_69 : decode cX10_foresight 69 = .ok (.getfield 216, 3) := by decide +kernel
theorem dX10_foresight_72 : decode cX10_foresight 72 = .ok (.aload_n 0, 1) := by decide +kernel
theorem dX10_foresight_73 : decode cX10_foresight 73 = .ok (.iload_n 1, 1) := by decide +kernel
theorem dX10_foresight_74 : decode cX10_foresight 74 = .ok (.invokevirtual 149, 3) := by decide +kernel
theorem dX10_foresight_77 : decode cX10_foresight 77 = .ok (.if_icmp .gt 32, 3) := by decide +kernel
theorem dX10_foresight_80 : decode cX10_foresight 80 = .ok (.aload_n 0, 1) := by decide +kernel
theorem dX10_foresight_81 : decode cX10_foresight 81 = .ok (.getfield 213, 3) := by decide +kernel
theorem dX10_foresight_84 : decode cX10_foresight 84 = .ok (.aload_n 0, 1) := by decide +kernel
theorem dX10_foresight_85 : decode cX10_foresight 85 = .ok (.getfield 74, 3) := by decide +kernel
theorem dX10_foresight_88 : decode cX10_foresight 88 = .ok (.aload_n 0, 1) := by decide +kernel
theorem dX10_foresight_89 : decode cX10_foresight 89 = .ok (.getfield 219, 3) := by decide +kernel
theorem dX10_foresight_92 : decode cX10_foresight 92 = .ok (.iaload, 1) := by decide +kernel
theorem dX10_foresight_93 : decode cX10_foresight 93 = .ok (.if_icmp .le 16, 3) := by decide +kernel
theorem dX10_foresight_96 : decode cX10_foresight 96 = .ok (.aload_n 0, 1) := by decide +kernel
theorem dX10_foresight_97 : decode cX10_foresight 97 = .ok (.getfield 74, 3) := by decide +kernel
theorem dX10_foresight_100 : decode cX10_foresight 100 = .ok (.aload_n 0, 1) := by decide +kernel
theorem dX10_foresight_101 : decode cX10_foresight 101 = .ok (.getfield 219, 3) := by decide +kernel
theorem dX10_foresight_104 : decode cX10_foresight 104 = .ok (.aload_n 0, 1) := by decide +kernel
theorem dX10_foresight_105 : decode cX10_foresight 105 = .ok (.getfield 213, 3) := by decide +kernel
theorem dX10_foresight_108 : decode cX10_foresight 108 = .ok (.iastore, 1) := by decide +kernel
theorem dX10_foresight_109 : decode cX10_foresight 109 = .ok (.iinc 4 1, 3) := by decide +kernel
theorem dX10_foresight_112 : decode cX10_foresight 112 = .ok (.goto (-59), 3) := by decide +kernel
theorem dX10_foresight_115 : decode cX10_foresight 115 = .ok (.iconst 1, 1) := by decide +kernel
theorem dX10_foresight_116 : decode cX10_foresight 116 = .ok (.istore 4, 2) := by decide +kernel
theorem dX10_foresight_118 : decode cX10_foresight 118 = .ok (.iload 4, 2) := by decide +kernel
theorem dX10_foresight_120 : decode cX10_foresight 120 = .ok (.aload_n 0, 1) := by decide +kernel
theorem dX10_foresight_121 : decode cX10_foresight 121 = .ok (.getfield 74, 3) := by decide +kernel
theorem dX10_foresight_124 : decode cX10_foresight 124 = .ok (.arraylength, 1) := by decide +kernel
theorem dX10_foresight_125 : decode cX10_foresight 125 = .ok (.if_icmp .ge 54, 3) := by decide +kernel
theorem dX10_foresight_128 : decode cX10_foresight 128 = .ok (.aload_n 0, 1) := by decide +kernel
theorem dX10_foresight_129 : decode cX10_foresight 129 = .ok (.getfield 74, 3) := by decide +kernel
theorem dX10_foresight_132 : decode cX10_foresight 132 = .ok (.iload 4, 2) := by decide +kernel
theorem dX10_foresight_134 : decode cX10_foresight 134 = .ok (.aload_n 0, 1) := by decide +kernel
theorem dX10_foresight_135 : decode cX10_foresight 135 = .ok (.getfield 74, 3) := by decide +kernel
theorem dX10_foresight_138 : decode cX10_foresight 138 = .ok (.iload 4, 2) := by decide +kernel
theorem dX10_foresight_140 : decode cX10_foresight 140 = .ok (.iconst 1, 1) := by decide +kernel
theorem dX10_foresight_141 : decode cX10_foresight 141 = .ok (.isub, 1) := by decide +kernel
theorem dX10_foresight_142 : decode cX10_foresight 142 = .ok (.iaload, 1) := by decide +kernel
theorem dX10_foresight_143 : decode cX10_foresight 143 = .ok (.aload_n 0, 1) := by decide +kernel
theorem dX10_foresight_144 : decode cX10_foresight 144 = .ok (.getfield 74, 3) := by decide +kernel
theorem dX10_foresight_147 : decode cX10_foresight 147 = .ok (.iload 4, 2) := by decide +kernel
theorem dX10_foresight_149 : decode cX10_foresight 149 = .ok (.iaload, 1) := by decide +kernel
theorem dX10_foresight_150 : decode cX10_foresight 150 = .ok (.if_icmp .le 15, 3) := by decide +kernel
theorem dX10_foresight_153 : decode cX10_foresight 153 = .ok (.aload_n 0, 1) := by decide +kernel
theorem dX10_foresight_154 : decode cX10_foresight 154 = .ok (.getfield 74, 3) := by decide +kernel
theorem dX10_foresight_157 : decode cX10_foresight 157 = .ok (.iload 4, 2) := by decide +kernel
theorem dX10_foresight_159 : decode cX10_foresight 159 = .ok (.iconst 1, 1) := by decide +kernel
theorem dX10_foresight_160 : decode cX10_foresight 160 = .ok (.isub, 1) := by decide +kernel
theorem dX10_foresight_161 : decode cX10_foresight 161 = .ok (.iaload, 1) := by decide +kernel
theorem dX10_foresight_162 : decode cX10_foresight 162 = .ok (.goto 10, 3) := by decide +kernel
theorem dX10_foresight_165 : decode cX10_foresight 165 = .ok (.aload_n 0, 1) := by decide +kernel
theorem dX10_foresight_166 : decode cX10_foresight 166 = .ok (.getfield 74, 3) := by decide +kernel
theorem dX10_foresight_169 : decode cX10_foresight 169 = .ok (.iload 4, 2) := by decide +kernel
theorem dX10_foresight_171 : decode cX10_foresight 171 = .ok (.iaload, 1) := by decide +kernel
theorem dX10_foresight_172 : decode cX10_foresight 172 = .ok (.iastore, 1) := by decide +kernel
theorem dX10_foresight_173 : decode cX10_foresight 173 = .ok (.iinc 4 1, 3) := by decide +kernel
theorem dX10_foresight_176 : decode cX10_foresight 176 = .ok (.goto (-58), 3) := by decide +kernel
theorem dX10_foresight_179 : decode cX10_foresight 179 = .ok (.iconst 0, 1) := by decide +kernel
theorem dX10_foresight_180 : decode cX10_foresight 180 = .ok (.istore 4, 2) := by decide +kernel
theorem dX10_foresight_182 : decode cX10_foresight 182 = .ok (.aload_n 0, 1) := by decide +kernel
theorem dX10_foresight_183 : decode cX10_foresight 183 = .ok (.iload_n 1, 1) := by decide +kernel
theorem dX10_foresight_184 : decode cX10_foresight 184 = .ok (.invokevirtual 153, 3) := by decide +kernel
theorem dX10_foresight_187 : decode cX10_foresight 187 = .ok (.istore 5, 2) := by decide +kernel
theorem dX10_foresight_189 : decode cX10_foresight 189 = .ok (.iconst 0, 1) := by decide +kernel
theorem dX10_foresight_190 : decode cX10_foresight 190 = .ok (.istore 6, 2) := by decide +kernel
theorem dX10_foresight_192 : decode cX10_foresight 192 = .ok (.iload 6, 2) := by decide +kernel
theorem dX10_foresight_194 : decode cX10_foresight 194 = .ok (.iload 5, 2) := by decide +kernel
theorem dX10_foresight_196 : decode cX10_foresight 196 = .ok (.if_icmp .gt 81, 3) := by decide +kernel
theorem dX10_foresight_199 : decode cX10_foresight 199 = .ok (.iload 6, 2) := by decide +kernel
theorem dX10_foresight_201 : decode cX10_foresight 201 = .ok (.aload_n 0, 1) := by decide +kernel
theorem dX10_foresight_202 : decode cX10_foresight 202 = .ok (.getfield 74, 3) := by decide +kernel
theorem dX10_foresight_205 : decode cX10_foresight 205 = .ok (.arraylength, 1) := by decide +kernel
theorem dX10_foresight_206 : decode cX10_foresight 206 = .ok (.if_icmp .ge 71, 3) := by decide +kernel
theorem dX10_foresight_209 : decode cX10_foresight 209 = .ok (.iconst 2, 1) := by decide +kernel
theorem dX10_foresight_210 : decode cX10_foresight 210 = .ok (.iload 5, 2) := by decide +kernel
theorem dX10_foresight_212 : decode cX10_foresight 212 = .ok (.imul, 1) := by decide +kernel
theorem dX10_foresight_213 : decode cX10_foresight 213 = .ok (.iload 6, 2) := by decide +kernel
theorem dX10_foresight_215 : decode cX10_foresight 215 = .ok (.isub, 1) := by decide +kernel
theorem dX10_foresight_216 : decode cX10_foresight 216 = .ok (.istore 7, 2) := by decide +kernel
theorem dX10_foresight_218 : decode cX10_foresight 218 = .ok (.aload_n 0, 1) := by decide +kernel
theorem dX10_foresight_219 : decode cX10_foresight 219 = .ok (.getfield 74, 3) := by decide +kernel
theorem dX10_foresight_222 : decode cX10_foresight 222 = .ok (.iload 6, 2) := by decide +kernel
theorem dX10_foresight_224 : decode cX10_foresight 224 = .ok (.iaload, 1) := by decide +kernel
theorem dX10_foresight_225 : decode cX10_foresight 225 = .ok (.aload_n 0, 1) := by decide +kernel
theorem dX10_foresight_226 : decode cX10_foresight 226 = .ok (.getfield 74, 3) := by decide +kernel
theorem dX10_foresight_229 : decode cX10_foresight 229 = .ok (.iload 7, 2) := by decide +kernel
theorem dX10_foresight_231 : decode cX10_foresight 231 = .ok (.aload_n 0, 1) := by decide +kernel
theorem dX10_foresight_232 : decode cX10_foresight 232 = .ok (.getfield 74, 3) := by decide +kernel
theorem dX10_foresight_235 : decode cX10_foresight 235 = .ok (.arraylength, 1) := by decide +kernel
theorem dX10_foresight_236 : decode cX10_foresight 236 = .ok (.if_icmp .ge 8, 3) := by decide +kernel
theorem dX10_foresight_239 : decode cX10_foresight 239 = .ok (.iload 7, 2) := by decide +kernel
theorem dX10_foresight_241 : decode cX10_foresight 241 = .ok (.goto 10, 3) := by decide +kernel
theorem dX10_foresight_244 : decode cX10_foresight 244 = .ok (.aload_n 0, 1) := by decide +kernel
theorem dX10_foresight_245 : decode cX10_foresight 245 = .ok (.getfield 74, 3) := by decide +kernel
theorem dX10_foresight_248 : decode cX10_foresight 248 = .ok (.arraylength, 1) := by decide +kernel
theorem dX10_foresight_249 : decode cX10_foresight 249 = .ok (.iconst 1, 1) := by decide +kernel
theorem dX10_foresight_250 : decode cX10_foresight 250 = .ok (.isub, 1) := by decide +kernel
theorem dX10_foresight_251 : decode cX10_foresight 251 = .ok (.iaload, 1) := by decide +kernel
theorem dX10_foresight_252 : decode cX10_foresight 252 = .ok (.iadd, 1) := by decide +kernel
theorem dX10_foresight_253 : decode cX10_foresight 253 = .ok (.istore 8, 2) := by decide +kernel
theorem dX10_foresight_255 : decode cX10_foresight 255 = .ok (.iload 8, 2) := by decide +kernel
theorem dX10_foresight_257 : decode cX10_foresight 257 = .ok (.iload 4, 2) := by decide +kernel
theorem dX10_foresight_259 : decode cX10_foresight 259 = .ok (.if_icmp .le 8, 3) := by decide +kernel
theorem dX10_foresight_262 : decode cX10_foresight 262 = .ok (.iload 8, 2) := by decide +kernel
theorem dX10_foresight_264 : decode cX10_foresight 264 = .ok (.goto 5, 3) := by decide +kernel
theorem dX10_foresight_267 : decode cX10_foresight 267 = .ok (.iload 4, 2) := by decide +kernel
theorem dX10_foresight_269 : decode cX10_foresight 269 = .ok (.istore 4, 2) := by decide +kernel
theorem dX10_foresight_271 : decode cX10_foresight 271 = .ok (.iinc 6 1, 3) := by decide +kernel
theorem dX10_foresight_274 : decode cX10_foresight 274 = .ok (.goto (-82), 3) := by decide +kernel
theorem dX10_foresight_277 : decode cX10_foresight 277 = .ok (.iload 4, 2) := by decide +kernel
theorem dX10_foresight_279 : decode cX10_foresight 279 = .ok (.iload_n 3, 1) := by decide +kernel
theorem dX10_foresight_280 : decode cX10_foresight 280 = .ok (.isub, 1) := by decide +kernel
theorem dX10_foresight_281 : decode cX10_foresight 281 = .ok (.ireturn, 1) := by decide +kernel
theorem dX10_cheap_0 : decode cX10_cheap 0 = .ok (.iload_n 1, 1) := by decide +kernel
theorem dX10_cheap_1 : decode cX10_cheap 1 = .ok (.i2l, 1) := by decide +kernel
theorem dX10_cheap_2 : decode cX10_cheap 2 = .ok (.invokestatic 118, 3) := by decide +kernel
theorem dX10_cheap_5 : decode cX10_cheap 5 = .ok (.ifCond .ne 5, 3) := by decide +kernel
theorem dX10_cheap_8 : decode cX10_cheap 8 = .ok (.iconst (-1), 1) := by decide +kernel
theorem dX10_cheap_9 : decode cX10_cheap 9 = .ok (.ireturn, 1) := by decide +kernel
theorem dX10_cheap_10 : decode cX10_cheap 10 = .ok (.bipush (-2), 2) := by decide +kernel
theorem dX10_cheap_12 : decode cX10_cheap 12 = .ok (.istore_n 2, 1) := by decide +kernel
theorem dX10_cheap_13 : decode cX10_cheap 13 = .ok (.iconst 0, 1) := by decide +kernel
theorem dX10_cheap_14 : decode cX10_cheap 14 = .ok (.istore_n 3, 1) := by decide +kernel
theorem dX10_cheap_15 : decode cX10_cheap 15 = .ok (.iload_n 3, 1) := by decide +kernel
theorem dX10_cheap_16 : decode cX10_cheap 16 = .ok (.aload_n 0, 1) := by decide +kernel
theorem dX10_cheap_17 : decode cX10_cheap 17 = .ok (.getfield 102, 3) := by decide +kernel
theorem dX10_cheap_20 : decode cX10_cheap 20 = .ok (.if_icmp .ge 56, 3) := by decide +kernel
theorem dX10_cheap_23 : decode cX10_cheap 23 = .ok (.aload_n 0, 1) := by decide +kernel
theorem dX10_cheap_24 : decode cX10_cheap 24 = .ok (.getfield 22, 3) := by decide +kernel
theorem dX10_cheap_27 : decode cX10_cheap 27 = .ok (.iload_n 3, 1) := by decide +kernel
theorem dX10_cheap_28 : decode cX10_cheap 28 = .ok (.iaload, 1) := by decide +kernel
theorem dX10_cheap_29 : decode cX10_cheap 29 = .ok (.aload_n 0, 1) := by decide +kernel
theorem dX10_cheap_30 : decode cX10_cheap 30 = .ok (.getfield 9, 3) := by decide +kernel
theorem dX10_cheap_33 : decode cX10_cheap 33 = .ok (.bipush 6, 2) := by decide +kernel
theorem dX10_cheap_35 : decode cX10_cheap 35 = .ok (.iload_n 3, 1) := by decide +kernel
theorem dX10_cheap_36 : decode cX10_cheap 36 = .ok (.iadd, 1) := by decide +kernel
theorem dX10_cheap_37 : decode cX10_cheap 37 = .ok (.iaload, 1) := by decide +kernel
theorem dX10_cheap_38 : decode cX10_cheap 38 = .ok (.iload_n 1, 1) := by decide +kernel
theorem dX10_cheap_39 : decode cX10_cheap 39 = .ok (.isub, 1) := by decide +kernel
theorem dX10_cheap_40 : decode cX10_cheap 40 = .ok (.if_icmp .gt 30, 3) := by decide +kernel
theorem dX10_cheap_43 : decode cX10_cheap 43 = .ok (.iload_n 2, 1) := by decide +kernel
theorem dX10_cheap_44 : decode cX10_cheap 44 = .ok (.ifCond .lt 24, 3) := by decide +kernel
theorem dX10_cheap_47 : decode cX10_cheap 47 = .ok (.aload_n 0, 1) := by decide +kernel
theorem dX10_cheap_48 : decode cX10_cheap 48 = .ok (.getfield 9, 3) := by decide +kernel
theorem dX10_cheap_51 : decode cX10_cheap 51 = .ok (.bipush 12, 2) := by decide +kernel
theorem dX10_cheap_53 : decode cX10_cheap 53 = .ok (.iload_n 3, 1) := by decide +kernel
theorem dX10_cheap_54 : decode cX10_cheap 54 = .ok (.iadd, 1) := by decide +kernel
theorem dX10_cheap_55 : decode cX10_cheap 55 = .ok (.iaload, 1) := by decide +kernel
theorem dX10_cheap_56 : decode cX10_cheap 56 = .ok (.aload_n 0, 1) := by decide +kernel
theorem dX10_cheap_57 : decode cX10_cheap 57 = .ok (.getfield 9, 3) := by decide +kernel
theorem dX10_cheap_60 : decode cX10_cheap 60 = .ok (.bipush 12, 2) := by decide +kernel
theorem dX10_cheap_62 : decode cX10_cheap 62 = .ok (.iload_n 2, 1) := by decide +kernel
theorem dX10_cheap_63 : decode cX10_cheap 63 = .ok (.iadd, 1) := by decide +kernel
theorem dX10_cheap_64 : decode cX10_cheap 64 = .ok (.iaload, 1) := by decide +kernel
theorem dX10_cheap_65 : decode cX10_cheap 65 = .ok (.if_icmp .ge 5, 3) := by decide +kernel
theorem dX10_cheap_68 : decode cX10_cheap 68 = .ok (.iload_n 3, 1) := by decide +kernel
theorem dX10_cheap_69 : decode cX10_cheap 69 = .ok (.istore_n 2, 1) := by decide +kernel
theorem dX10_cheap_70 : decode cX10_cheap 70 = .ok (.iinc 3 1, 3) := by decide +kernel
theorem dX10_cheap_73 : decode cX10_cheap 73 = .ok (.goto (-58), 3) := by decide +kernel
theorem dX10_cheap_76 : decode cX10_cheap 76 = .ok (.iload_n 2, 1) := by decide +kernel
theorem dX10_cheap_77 : decode cX10_cheap 77 = .ok (.ireturn, 1) := by decide +kernel
theorem dX10_wrong_0 : decode cX10_wrong 0 = .ok (.iload_n 1, 1) := by decide +kernel
theorem dX10_wrong_1 : decode cX10_wrong 1 = .ok (.i2l, 1) := by decide +kernel
theorem dX10_wrong_2 : decode cX10_wrong 2 = .ok (.lconst 0, 1) := by decide +kernel
theorem dX10_wrong_3 : decode cX10_wrong 3 = .ok (.ldc2_w 135, 3) := by decide +kernel
theorem dX10_wrong_6 : decode cX10_wrong 6 = .ok (.invokestatic 105, 3) := by decide +kernel
theorem dX10_wrong_9 : decode cX10_wrong 9 = .ok (.ifCond .ne 7, 3) := by decide +kernel
theorem dX10_wrong_12 : decode cX10_wrong 12 = .ok (.ldc_w 256, 3) := by decide +kernel
theorem dX10_wrong_15 : decode cX10_wrong 15 = .ok (.ireturn, 1) := by decide +kernel
theorem dX10_wrong_16 : decode cX10_wrong 16 = .ok (.aload_n 0, 1) := by decide +kernel
theorem dX10_wrong_17 : decode cX10_wrong 17 = .ok (.invokevirtual 257, 3) := by decide +kernel
theorem dX10_wrong_20 : decode cX10_wrong 20 = .ok (.bipush (-2), 2) := by decide +kernel
theorem dX10_wrong_22 : decode cX10_wrong 22 = .ok (.istore_n 2, 1) := by decide +kernel
theorem dX10_wrong_23 : decode cX10_wrong 23 = .ok (.iconst 0, 1) := by decide +kernel
theorem dX10_wrong_24 : decode cX10_wrong 24 = .ok (.istore_n 3, 1) := by decide +kernel
theorem dX10_wrong_25 : decode cX10_wrong 25 = .ok (.iconst 0, 1) := by decide +kernel
theorem dX10_wrong_26 : decode cX10_wrong 26 = .ok (.istore 4, 2) := by decide +kernel
theorem dX10_wrong_28 : decode cX10_wrong 28 = .ok (.iload 4, 2) := by decide +kernel
theorem dX10_wrong_30 : decode cX10_wrong 30 = .ok (.aload_n 0, 1) := by decide +kernel
theorem dX10_wrong_31 : decode cX10_wrong 31 = .ok (.getfield 102, 3) := by decide +kernel
theorem dX10_wrong_34 : decode cX10_wrong 34 = .ok (.if_icmp .ge 67, 3) := by decide +kernel
theorem dX10_wrong_37 : decode cX10_wrong 37 = .ok (.aload_n 0, 1) := by decide +kernel
theorem dX10_wrong_38 : decode cX10_wrong 38 = .ok (.getfield 9, 3) := by decide +kernel
theorem dX10_wrong_41 : decode cX10_wrong 41 = .ok (.iload 4, 2) := by decide +kernel
theorem dX10_wrong_43 : decode cX10_wrong 43 = .ok (.iaload, 1) := by decide +kernel
theorem dX10_wrong_44 : decode cX10_wrong 44 = .ok (.ifCond .ne 7, 3) := by decide +kernel
theorem dX10_wrong_47 : decode cX10_wrong 47 = .ok (.iconst (-1), 1) := by decide +kernel
theorem dX10_wrong_48 : decode cX10_wrong 48 = .ok (.goto 24, 3) := by decide +kernel
theorem dX10_wrong_51 : decode cX10_wrong 51 = .ok (.aload_n 0, 1) := by decide +kernel
theorem dX10_wrong_52 : decode cX10_wrong 52 = .ok (.iload 4, 2) := by decide +kernel
theorem dX10_wrong_54 : decode cX10_wrong 54 = .ok (.invokevirtual 250, 3) := by decide +kernel
theorem dX10_wrong_57 : decode cX10_wrong 57 = .ok (.invokestatic 253, 3) := by decide +kernel
theorem dX10_wrong_60 : decode cX10_wrong 60 = .ok (.sipush 1000, 3) := by decide +kernel
theorem dX10_wrong_63 : decode cX10_wrong 63 = .ok (.imul, 1) := by decide +kernel
theorem dX10_wrong_64 : decode cX10_wrong 64 = .ok (.aload_n 0, 1) := by decide +kernel
theorem dX10_wrong_65 : decode cX10_wrong 65 = .ok (.getfield 9, 3) := by decide +kernel
theorem dX10_wrong_68 : decode cX10_wrong 68 = .ok (.iload 4, 2) := by decide +kernel
theorem dX10_wrong_70 : decode cX10_wrong 70 = .ok (.iaload, 1) := by decide +kernel
theorem dX10_wrong_71 : decode cX10_wrong 71 = .ok (.idiv, 1) := by decide +kernel
theorem dX10_wrong_72 : decode cX10_wrong 72 = .ok (.istore 5, 2) := by decide +kernel
theorem dX10_wrong_74 : decode cX10_wrong 74 = .ok (.iload 5, 2) := by decide +kernel
theorem dX10_wrong_76 : decode cX10_wrong 76 = .ok (.ifCond .lt 19, 3) := by decide +kernel
theorem dX10_wrong_79 : decode cX10_wrong 79 = .ok (.iload_n 2, 1) := by decide +kernel
theorem dX10_wrong_80 : decode cX10_wrong 80 = .ok (.ifCond .lt 9, 3) := by decide +kernel
theorem dX10_wrong_83 : decode cX10_wrong 83 = .ok (.iload 5, 2) := by decide +kernel
theorem dX10_wrong_85 : decode cX10_wrong 85 = .ok (.iload_n 3, 1) := by decide +kernel
theorem dX10_wrong_86 : decode cX10_wrong 86 = .ok (.if_icmp .le 9, 3) := by decide +kernel
theorem dX10_wrong_89 : decode cX10_wrong 89 = .ok (.iload 4, 2) := by decide +kernel
theorem dX10_wrong_91 : decode cX10_wrong 91 = .ok (.istore_n 2, 1) := by decide +kernel
theorem dX10_wrong_92 : decode cX10_wrong 92 = .ok (.iload 5, 2) := by decide +kernel
theorem dX10_wrong_94 : decode cX10_wrong 94 = .ok (.istore_n 3, 1) := by decide +kernel
theorem dX10_wrong_95 : decode cX10_wrong 95 = .ok (.iinc 4 1, 3) := by decide +kernel
theorem dX10_wrong_98 : decode cX10_wrong 98 = .ok (.goto (-70), 3) := by decide +kernel
theorem dX10_wrong_101 : decode cX10_wrong 101 = .ok (.iload_n 2, 1) := by decide +kernel
theorem dX10_wrong_102 : decode cX10_wrong 102 = .ok (.ifCond .ge 6, 3) := by decide +kernel
theorem dX10_wrong_105 : decode cX10_wrong 105 = .ok (.bipush (-2), 2) := by decide +kernel
theorem dX10_wrong_107 : decode cX10_wrong 107 = .ok (.ireturn, 1) := by decide +kernel
theorem dX10_wrong_108 : decode cX10_wrong 108 = .ok (.iload_n 1, 1) := by decide +kernel
theorem dX10_wrong_109 : decode cX10_wrong 109 = .ok (.ifCond .ne 7, 3) := by decide +kernel
theorem dX10_wrong_112 : decode cX10_wrong 112 = .ok (.iload_n 2, 1) := by decide +kernel
theorem dX10_wrong_113 : decode cX10_wrong 113 = .ok (.goto 37, 3) := by decide +kernel
theorem dX10_wrong_116 : decode cX10_wrong 116 = .ok (.iload_n 1, 1) := by decide +kernel
theorem dX10_wrong_117 : decode cX10_wrong 117 = .ok (.iconst 1, 1) := by decide +kernel
theorem dX10_wrong_118 : decode cX10_wrong 118 = .ok (.if_icmp .ne 7, 3) := by decide +kernel
theorem dX10_wrong_121 : decode cX10_wrong 121 = .ok (.iload_n 3, 1) := by decide +kernel
theorem dX10_wrong_122 : decode cX10_wrong 122 = .ok (.goto 28, 3) := by decide +kernel
theorem dX10_wrong_125 : decode cX10_wrong 125 = .ok (.aload_n 0, 1) := by decide +kernel
theorem dX10_wrong_126 : decode cX10_wrong 126 = .ok (.iload_n 2, 1) := by decide +kernel
theorem dX10_wrong_127 : decode cX10_wrong 127 = .ok (.invokevirtual 250, 3) := by decide +kernel
theorem dX10_wrong_130 : decode cX10_wrong 130 = .ok (.ifCond .ge 7, 3) := by decide +kernel
theorem dX10_wrong_133 : decode cX10_wrong 133 = .ok (.iconst 1, 1) := by decide +kernel
theorem dX10_wrong_134 : decode cX10_wrong 134 = .ok (.goto 16, 3) := by decide +kernel
theorem dX10_wrong_137 : decode cX10_wrong 137 = .ok (.aload_n 0, 1) := by decide +kernel
theorem dX10_wrong_138 : decode cX10_wrong 138 = .ok (.iload_n 2, 1) := by decide +kernel
theorem dX10_wrong_139 : decode cX10_wrong 139 = .ok (.invokevirtual 250, 3) := by decide +kernel
theorem dX10_wrong_142 : decode cX10_wrong 142 = .ok (.ifCond .le 7, 3) := by decide +kernel
theorem dX10_wrong_145 : decode cX10_wrong 145 = .ok (.iconst (-1), 1) := by decide +kernel
theorem dX10_wrong_146 : decode cX10_wrong 146 = .ok (.goto 4, 3) := by decide +kernel
theorem dX10_wrong_149 : decode cX10_wrong 149 = .ok (.iconst 0, 1) := by decide +kernel
theorem dX10_wrong_150 : decode cX10_wrong 150 = .ok (.ireturn, 1) := by decide +kernel
theorem dX10_isBody_0 : decode cX10_isBody 0 = .ok (.iload_n 1, 1) := by decide +kernel
theorem dX10_isBody_1 : decode cX10_isBody 1 = .ok (.i2l, 1) := by decide +kernel
theorem dX10_isBody_2 : decode cX10_isBody 2 = .ok (.lconst 0, 1) := by decide +kernel
theorem dX10_isBody_3 : decode cX10_isBody 3 = .ok (.aload_n 0, 1) := by decide +kernel
theorem dX10_isBody_4 : decode cX10_isBody 4 = .ok (.getfield 327, 3) := by decide +kernel
theorem dX10_isBody_7 : decode cX10_isBody 7 = .ok (.iconst 1, 1) := by decide +kernel
theorem dX10_isBody_8 : decode cX10_isBody 8 = .ok (.isub, 1) := by decide +kernel
theorem dX10_isBody_9 : decode cX10_isBody 9 = .ok (.i2l, 1) := by decide +kernel
theorem dX10_isBody_10 : decode cX10_isBody 10 = .ok (.invokestatic 105, 3) := by decide +kernel
theorem dX10_isBody_13 : decode cX10_isBody 13 = .ok (.ireturn, 1) := by decide +kernel
theorem dX10_kindOf_0 : decode cX10_kindOf 0 = .ok (.aload_n 0, 1) := by decide +kernel
theorem dX10_kindOf_1 : decode cX10_kindOf 1 = .ok (.getfield 77, 3) := by decide +kernel
theorem dX10_kindOf_4 : decode cX10_kindOf 4 = .ok (.iload_n 1, 1) := by decide +kernel
theorem dX10_kindOf_5 : decode cX10_kindOf 5 = .ok (.iaload, 1) := by decide +kernel
theorem dX10_kindOf_6 : decode cX10_kindOf 6 = .ok (.ireturn, 1) := by decide +kernel
theorem dX10_body_0 : decode cX10_body 0 = .ok (.iload_n 1, 1) := by decide +kernel
theorem dX10_body_1 : decode cX10_body 1 = .ok (.i2l, 1) := by decide +kernel
theorem dX10_body_2 : decode cX10_body 2 = .ok (.lconst 0, 1) := by decide +kernel
theorem dX10_body_3 : decode cX10_body 3 = .ok (.ldc2_w 330, 3) := by decide +kernel
theorem dX10_body_6 : decode cX10_body 6 = .ok (.invokestatic 105, 3) := by decide +kernel
theorem dX10_body_9 : decode cX10_body 9 = .ok (.ifCond .ne 5, 3) := by decide +kernel
theorem dX10_body_12 : decode cX10_body 12 = .ok (.iconst (-1), 1) := by decide +kernel
theorem dX10_body_13 : decode cX10_body 13 = .ok (.ireturn, 1) := by decide +kernel
theorem dX10_body_14 : decode cX10_body 14 = .ok (.aload_n 0, 1) := by decide +kernel
theorem dX10_body_15 : decode cX10_body 15 = .ok (.getfield 327, 3) := by decide +kernel
theorem dX10_body_18 : decode cX10_body 18 = .ok (.bipush 50, 2) := by decide +kernel
theorem dX10_body_20 : decode cX10_body 20 = .ok (.if_icmp .ne 6, 3) := by decide +kernel
theorem dX10_body_23 : decode cX10_body 23 = .ok (.bipush (-3), 2) := by decide +kernel
theorem dX10_body_25 : decode cX10_body 25 = .ok (.ireturn, 1) := by decide +kernel
theorem dX10_body_26 : decode cX10_body 26 = .ok (.aload_n 0, 1) := by decide +kernel
theorem dX10_body_27 : decode cX10_body 27 = .ok (.getfield 77, 3) := by decide +kernel
theorem dX10_body_30 : decode cX10_body 30 = .ok (.aload_n 0, 1) := by decide +kernel
theorem dX10_body_31 : decode cX10_body 31 = .ok (.getfield 327, 3) := by decide +kernel
theorem dX10_body_34 : decode cX10_body 34 = .ok (.iload_n 1, 1) := by decide +kernel
theorem dX10_body_35 : decode cX10_body 35 = .ok (.iastore, 1) := by decide +kernel
theorem dX10_body_36 : decode cX10_body 36 = .ok (.aload_n 0, 1) := by decide +kernel
theorem dX10_body_37 : decode cX10_body 37 = .ok (.dup, 1) := by decide +kernel
theorem dX10_body_38 : decode cX10_body 38 = .ok (.getfield 327, 3) := by decide +kernel
theorem dX10_body_41 : decode cX10_body 41 = .ok (.iconst 1, 1) := by decide +kernel
theorem dX10_body_42 : decode cX10_body 42 = .ok (.iadd, 1) := by decide +kernel
theorem dX10_body_43 : decode cX10_body 43 = .ok (.putfield 327, 3) := by decide +kernel
theorem dX10_body_46 : decode cX10_body 46 = .ok (.aload_n 0, 1) := by decide +kernel
theorem dX10_body_47 : decode cX10_body 47 = .ok (.getfield 327, 3) := by decide +kernel
theorem dX10_body_50 : decode cX10_body 50 = .ok (.iconst 1, 1) := by decide +kernel
theorem dX10_body_51 : decode cX10_body 51 = .ok (.isub, 1) := by decide +kernel
theorem dX10_body_52 : decode cX10_body 52 = .ok (.ireturn, 1) := by decide +kernel
theorem dX10_above_0 : decode cX10_above 0 = .ok (.iload_n 0, 1) := by decide +kernel
theorem dX10_above_1 : decode cX10_above 1 = .ok (.iconst 3, 1) := by decide +kernel
theorem dX10_above_2 : decode cX10_above 2 = .ok (.if_icmp .eq 8, 3) := by decide +kernel
theorem dX10_above_5 : decode cX10_above 5 = .ok (.iload_n 0, 1) := by decide +kernel
theorem dX10_above_6 : decode cX10_above 6 = .ok (.iconst 4, 1) := by decide +kernel
theorem dX10_above_7 : decode cX10_above 7 = .ok (.if_icmp .ne 7, 3) := by decide +kernel
theorem dX10_above_10 : decode cX10_above 10 = .ok (.iconst 2, 1) := by decide +kernel
theorem dX10_above_11 : decode cX10_above 11 = .ok (.goto 23, 3) := by decide +kernel
theorem dX10_above_14 : decode cX10_above 14 = .ok (.iload_n 0, 1) := by decide +kernel
theorem dX10_above_15 : decode cX10_above 15 = .ok (.iconst 5, 1) := by decide +kernel
theorem dX10_above_16 : decode cX10_above 16 = .ok (.if_icmp .ne 7, 3) := by decide +kernel
theorem dX10_above_19 : decode cX10_above 19 = .ok (.iconst 3, 1) := by decide +kernel
theorem dX10_above_20 : decode cX10_above 20 = .ok (.goto 14, 3) := by decide +kernel
theorem dX10_above_23 : decode cX10_above 23 = .ok (.iload_n 0, 1) := by decide +kernel
theorem dX10_above_24 : decode cX10_above 24 = .ok (.bipush 7, 2) := by decide +kernel
theorem dX10_above_26 : decode cX10_above 26 = .ok (.if_icmp .ne 7, 3) := by decide +kernel
theorem dX10_above_29 : decode cX10_above 29 = .ok (.iconst 4, 1) := by decide +kernel
theorem dX10_above_30 : decode cX10_above 30 = .ok (.goto 4, 3) := by decide +kernel
theorem dX10_above_33 : decode cX10_above 33 = .ok (.iconst 0, 1) := by decide +kernel
theorem dX10_above_34 : decode cX10_above 34 = .ok (.ireturn, 1) := by decide +kernel
theorem dX10_begins_0 : decode cX10_begins 0 = .ok (.aload_n 0, 1) := by decide +kernel
theorem dX10_begins_1 : decode cX10_begins 1 = .ok (.getfield 332, 3) := by decide +kernel
theorem dX10_begins_4 : decode cX10_begins 4 = .ok (.bipush 24, 2) := by decide +kernel
theorem dX10_begins_6 : decode cX10_begins 6 = .ok (.if_icmp .ge 13, 3) := by decide +kernel
theorem dX10_begins_9 : decode cX10_begins 9 = .ok (.aload_n 0, 1) := by decide +kernel
theorem dX10_begins_10 : decode cX10_begins 10 = .ok (.getfield 80, 3) := by decide +kernel
theorem dX10_begins_13 : decode cX10_begins 13 = .ok (.aload_n 0, 1) := by decide +kernel
theorem dX10_begins_14 : decode cX10_begins 14 = .ok (.getfield 332, 3) := by decide +kernel
theorem dX10_begins_17 : decode cX10_begins 17 = .ok (.iload_n 1, 1) := by decide +kernel
theorem dX10_begins_18 : decode cX10_begins 18 = .ok (.iastore, 1) := by decide +kernel
theorem dX10_begins_19 : decode cX10_begins 19 = .ok (.aload_n 0, 1) := by decide +kernel
theorem dX10_begins_20 : decode cX10_begins 20 = .ok (.dup, 1) := by decide +kernel
theorem dX10_begins_21 : decode cX10_begins 21 = .ok (.getfield 332, 3) := by decide +kernel
theorem dX10_begins_24 : decode cX10_begins 24 = .ok (.iconst 1, 1) := by decide +kernel
theorem dX10_begins_25 : decode cX10_begins 25 = .ok (.iadd, 1) := by decide +kernel
theorem dX10_begins_26 : decode cX10_begins 26 = .ok (.putfield 332, 3) := by decide +kernel
theorem dX10_begins_29 : decode cX10_begins 29 = .ok (.return_, 1) := by decide +kernel
theorem dX10_buysAs_0 : decode cX10_buysAs 0 = .ok (.iload_n 1, 1) := by decide +kernel
theorem dX10_buysAs_1 : decode cX10_buysAs 1 = .ok (.iconst 1, 1) := by decide +kernel
theorem dX10_buysAs_2 : decode cX10_buysAs 2 = .ok (.if_icmp .ne 18, 3) := by decide +kernel
theorem dX10_buysAs_5 : decode cX10_buysAs 5 = .ok (.aload_n 0, 1) := by decide +kernel
theorem dX10_buysAs_6 : decode cX10_buysAs 6 = .ok (.bipush 20, 2) := by decide +kernel
theorem dX10_buysAs_8 : decode cX10_buysAs 8 = .ok (.invokevirtual 335, 3) := by decide +kernel
theorem dX10_buysAs_11 : decode cX10_buysAs 11 = .ok (.aload_n 0, 1) := by decide +kernel
theorem dX10_buysAs_12 : decode cX10_buysAs 12 = .ok (.iconst 0, 1) := by decide +kernel
theorem dX10_buysAs_13 : decode cX10_buysAs 13 = .ok (.iload_n 2, 1) := by decide +kernel
theorem dX10_buysAs_14 : decode cX10_buysAs 14 = .ok (.invokevirtual 338, 3) := by decide +kernel
theorem dX10_buysAs_17 : decode cX10_buysAs 17 = .ok (.iconst 3, 1) := by decide +kernel
theorem dX10_buysAs_18 : decode cX10_buysAs 18 = .ok (.iadd, 1) := by decide +kernel
theorem dX10_buysAs_19 : decode cX10_buysAs 19 = .ok (.ireturn, 1) := by decide +kernel
theorem dX10_buysAs_20 : decode cX10_buysAs 20 = .ok (.iload_n 1, 1) := by decide +kernel
theorem dX10_buysAs_21 : decode cX10_buysAs 21 = .ok (.iconst 5, 1) := by decide +kernel
theorem dX10_buysAs_22 : decode cX10_buysAs 22 = .ok (.if_icmp .ne 18, 3) := by decide +kernel
theorem dX10_buysAs_25 : decode cX10_buysAs 25 = .ok (.aload_n 0, 1) := by decide +kernel
theorem dX10_buysAs_26 : decode cX10_buysAs 26 = .ok (.bipush 60, 2) := by decide +kernel
theorem dX10_buysAs_28 : decode cX10_buysAs 28 = .ok (.invokevirtual 335, 3) := by decide +kernel
theorem dX10_buysAs_31 : decode cX10_buysAs 31 = .ok (.aload_n 0, 1) := by decide +kernel
theorem dX10_buysAs_32 : decode cX10_buysAs 32 = .ok (.iconst 0, 1) := by decide +kernel
theorem dX10_buysAs_33 : decode cX10_buysAs 33 = .ok (.iload_n 2, 1) := by decide +kernel
theorem dX10_buysAs_34 : decode cX10_buysAs 34 = .ok (.iconst 1, 1) := by decide +kernel
theorem dX10_buysAs_35 : decode cX10_buysAs 35 = .ok (.iadd, 1) := by decide +kernel
theorem dX10_buysAs_36 : decode cX10_buysAs 36 = .ok (.invokevirtual 338, 3) := by decide +kernel
theorem dX10_buysAs_39 : decode cX10_buysAs 39 = .ok (.ireturn, 1) := by decide +kernel
theorem dX10_buysAs_40 : decode cX10_buysAs 40 = .ok (.iload_n 1, 1) := by decide +kernel
theorem dX10_buysAs_41 : decode cX10_buysAs 41 = .ok (.bipush 6, 2) := by decide +kernel
theorem dX10_buysAs_43 : decode cX10_buysAs 43 = .ok (.if_icmp .ne 18, 3) := by decide +kernel
theorem dX10_buysAs_46 : decode cX10_buysAs 46 = .ok (.aload_n 0, 1) := by decide +kernel
theorem dX10_buysAs_47 : decode cX10_buysAs 47 = .ok (.bipush 70, 2) := by decide +kernel
theorem dX10_buysAs_49 : decode cX10_buysAs 49 = .ok (.invokevirtual 335, 3) := by decide +kernel
theorem dX10_buysAs_52 : decode cX10_buysAs 52 = .ok (.aload_n 0, 1) := by decide +kernel
theorem dX10_buysAs_53 : decode cX10_buysAs 53 = .ok (.iconst 0, 1) := by decide +kernel
theorem dX10_buysAs_54 : decode cX10_buysAs 54 = .ok (.iload_n 2, 1) := by decide +kernel
theorem dX10_buysAs_55 : decode cX10_buysAs 55 = .ok (.invokevirtual 338, 3) := by decide +kernel
theorem dX10_buysAs_58 : decode cX10_buysAs 58 = .ok (.iconst 2, 1) := by decide +kernel
theorem dX10_buysAs_59 : decode cX10_buysAs 59 = .ok (.imul, 1) := by decide +kernel
theorem dX10_buysAs_60 : decode cX10_buysAs 60 = .ok (.ireturn, 1) := by decide +kernel
theorem dX10_buysAs_61 : decode cX10_buysAs 61 = .ok (.aload_n 0, 1) := by decide +kernel
theorem dX10_buysAs_62 : decode cX10_buysAs 62 = .ok (.iconst 1, 1) := by decide +kernel
theorem dX10_buysAs_63 : decode cX10_buysAs 63 = .ok (.invokevirtual 335, 3) := by decide +kernel
theorem dX10_buysAs_66 : decode cX10_buysAs 66 = .ok (.iload_n 2, 1) := by decide +kernel
theorem dX10_buysAs_67 : decode cX10_buysAs 67 = .ok (.aload_n 0, 1) := by decide +kernel
theorem dX10_buysAs_68 : decode cX10_buysAs 68 = .ok (.getfield 341, 3) := by decide +kernel
theorem dX10_buysAs_71 : decode cX10_buysAs 71 = .ok (.iadd, 1) := by decide +kernel
theorem dX10_buysAs_72 : decode cX10_buysAs 72 = .ok (.ireturn, 1) := by decide +kernel
theorem dX10_keepsAs_0 : decode cX10_keepsAs 0 = .ok (.iload_n 1, 1) := by decide +kernel
theorem dX10_keepsAs_1 : decode cX10_keepsAs 1 = .ok (.bipush 7, 2) := by decide +kernel
theorem dX10_keepsAs_3 : decode cX10_keepsAs 3 = .ok (.if_icmp .ne 28, 3) := by decide +kernel
theorem dX10_keepsAs_6 : decode cX10_keepsAs 6 = .ok (.aload_n 0, 1) := by decide +kernel
theorem dX10_keepsAs_7 : decode cX10_keepsAs 7 = .ok (.bipush 80, 2) := by decide +kernel
theorem dX10_keepsAs_9 : decode cX10_keepsAs 9 = .ok (.invokevirtual 335, 3) := by decide +kernel
theorem dX10_keepsAs_12 : decode cX10_keepsAs 12 = .ok (.aload_n 0, 1) := by decide +kernel
theorem dX10_keepsAs_13 : decode cX10_keepsAs 13 = .ok (.iconst 4, 1) := by decide +kernel
theorem dX10_keepsAs_14 : decode cX10_keepsAs 14 = .ok (.iload_n 2, 1) := by decide +kernel
theorem dX10_keepsAs_15 : decode cX10_keepsAs 15 = .ok (.invokevirtual 344, 3) := by decide +kernel
theorem dX10_keepsAs_18 : decode cX10_keepsAs 18 = .ok (.istore_n 3, 1) := by decide +kernel
theorem dX10_keepsAs_19 : decode cX10_keepsAs 19 = .ok (.iload_n 3, 1) := by decide +kernel
theorem dX10_keepsAs_20 : decode cX10_keepsAs 20 = .ok (.aload_n 0, 1) := by decide +kernel
theorem dX10_keepsAs_21 : decode cX10_keepsAs 21 = .ok (.aload_n 0, 1) := by decide +kernel
theorem dX10_keepsAs_22 : decode cX10_keepsAs 22 = .ok (.getfield 347, 3) := by decide +kernel
theorem dX10_keepsAs_25 : decode cX10_keepsAs 25 = .ok (.iconst 2, 1) := by decide +kernel
theorem dX10_keepsAs_26 : decode cX10_keepsAs 26 = .ok (.invokevirtual 350, 3) := by decide +kernel
theorem dX10_keepsAs_29 : decode cX10_keepsAs 29 = .ok (.iadd, 1) := by decide +kernel
theorem dX10_keepsAs_30 : decode cX10_keepsAs 30 = .ok (.ireturn, 1) := by decide +kernel
theorem dX10_keepsAs_31 : decode cX10_keepsAs 31 = .ok (.iload_n 1, 1) := by decide +kernel
theorem dX10_keepsAs_32 : decode cX10_keepsAs 32 = .ok (.iconst 2, 1) := by decide +kernel
theorem dX10_keepsAs_33 : decode cX10_keepsAs 33 = .ok (.if_icmp .eq 18, 3) := by decide +kernel
theorem dX10_keepsAs_36 : decode cX10_keepsAs 36 = .ok (.iload_n 1, 1) := by decide +kernel
theorem dX10_keepsAs_37 : decode cX10_keepsAs 37 = .ok (.iconst 3, 1) := by decide +kernel
theorem dX10_keepsAs_38 : decode cX10_keepsAs 38 = .ok (.if_icmp .eq 13, 3) := by decide +kernel
theorem dX10_keepsAs_41 : decode cX10_keepsAs 41 = .ok (.iload_n 1, 1) := by decide +kernel
theorem dX10_keepsAs_42 : decode cX10_keepsAs 42 = .ok (.iconst 4, 1) := by decide +kernel
theorem dX10_keepsAs_43 : decode cX10_keepsAs 43 = .ok (.if_icmp .eq 8, 3) := by decide +kernel
theorem dX10_keepsAs_46 : decode cX10_keepsAs 46 = .ok (.iload_n 1, 1) := by decide +kernel
theorem dX10_keepsAs_47 : decode cX10_keepsAs 47 = .ok (.iconst 5, 1) := by decide +kernel
theorem dX10_keepsAs_48 : decode cX10_keepsAs 48 = .ok (.if_icmp .ne 17, 3) := by decide +kernel
theorem dX10_keepsAs_51 : decode cX10_keepsAs 51 = .ok (.aload_n 0, 1) := by decide +kernel
theorem dX10_keepsAs_52 : decode cX10_keepsAs 52 = .ok (.bipush 30, 2) := by decide +kernel
theorem dX10_keepsAs_54 : decode cX10_keepsAs 54 = .ok (.invokevirtual 335, 3) := by decide +kernel
theorem dX10_keepsAs_57 : decode cX10_keepsAs 57 = .ok (.aload_n 0, 1) := by decide +kernel
theorem dX10_keepsAs_58 : decode cX10_keepsAs 58 = .ok (.iconst 0, 1) := by decide +kernel
theorem dX10_keepsAs_59 : decode cX10_keepsAs 59 = .ok (.iload_n 2, 1) := by decide +kernel
theorem dX10_keepsAs_60 : decode cX10_keepsAs 60 = .ok (.invokevirtual 344, 3) := by decide +kernel
theorem dX10_keepsAs_63 : decode cX10_keepsAs 63 = .ok (.ineg, 1) := by decide +kernel
theorem dX10_keepsAs_64 : decode cX10_keepsAs 64 = .ok (.ireturn, 1) := by decide +kernel
theorem dX10_keepsAs_65 : decode cX10_keepsAs 65 = .ok (.aload_n 0, 1) := by decide +kernel
theorem dX10_keepsAs_66 : decode cX10_keepsAs 66 = .ok (.bipush 10, 2) := by decide +kernel
theorem dX10_keepsAs_68 : decode cX10_keepsAs 68 = .ok (.invokevirtual 335, 3) := by decide +kernel
theorem dX10_keepsAs_71 : decode cX10_keepsAs 71 = .ok (.aload_n 0, 1) := by decide +kernel
theorem dX10_keepsAs_72 : decode cX10_keepsAs 72 = .ok (.aload_n 0, 1) := by decide +kernel
theorem dX10_keepsAs_73 : decode cX10_keepsAs 73 = .ok (.getfield 347, 3) := by decide +kernel
theorem dX10_keepsAs_76 : decode cX10_keepsAs 76 = .ok (.iload_n 2, 1) := by decide +kernel
theorem dX10_keepsAs_77 : decode cX10_keepsAs 77 = .ok (.invokevirtual 338, 3) := by decide +kernel
theorem dX10_keepsAs_80 : decode cX10_keepsAs 80 = .ok (.iconst 2, 1) := by decide +kernel
theorem dX10_keepsAs_81 : decode cX10_keepsAs 81 = .ok (.imul, 1) := by decide +kernel
theorem dX10_keepsAs_82 : decode cX10_keepsAs 82 = .ok (.ireturn, 1) := by decide +kernel
theorem dX10_lendsAs_0 : decode cX10_lendsAs 0 = .ok (.iload_n 1, 1) := by decide +kernel
theorem dX10_lendsAs_1 : decode cX10_lendsAs 1 = .ok (.iconst 3, 1) := by decide +kernel
theorem dX10_lendsAs_2 : decode cX10_lendsAs 2 = .ok (.if_icmp .eq 8, 3) := by decide +kernel
theorem dX10_lendsAs_5 : decode cX10_lendsAs 5 = .ok (.iload_n 1, 1) := by decide +kernel
theorem dX10_lendsAs_6 : decode cX10_lendsAs 6 = .ok (.iconst 5, 1) := by decide +kernel
theorem dX10_lendsAs_7 : decode cX10_lendsAs 7 = .ok (.if_icmp .ne 18, 3) := by decide +kernel
theorem dX10_lendsAs_10 : decode cX10_lendsAs 10 = .ok (.aload_n 0, 1) := by decide +kernel
theorem dX10_lendsAs_11 : decode cX10_lendsAs 11 = .ok (.bipush 40, 2) := by decide +kernel
theorem dX10_lendsAs_13 : decode cX10_lendsAs 13 = .ok (.invokevirtual 335, 3) := by decide +kernel
theorem dX10_lendsAs_16 : decode cX10_lendsAs 16 = .ok (.aload_n 0, 1) := by decide +kernel
theorem dX10_lendsAs_17 : decode cX10_lendsAs 17 = .ok (.iconst 0, 1) := by decide +kernel
theorem dX10_lendsAs_18 : decode cX10_lendsAs 18 = .ok (.iload_n 2, 1) := by decide +kernel
theorem dX10_lendsAs_19 : decode cX10_lendsAs 19 = .ok (.invokevirtual 350, 3) := by decide +kernel
theorem dX10_lendsAs_22 : decode cX10_lendsAs 22 = .ok (.iconst 3, 1) := by decide +kernel
theorem dX10_lendsAs_23 : decode cX10_lendsAs 23 = .ok (.imul, 1) := by decide +kernel
theorem dX10_lendsAs_24 : decode cX10_lendsAs 24 = .ok (.ireturn, 1) := by decide +kernel
theorem dX10_lendsAs_25 : decode cX10_lendsAs 25 = .ok (.iload_n 1, 1) := by decide +kernel
theorem dX10_lendsAs_26 : decode cX10_lendsAs 26 = .ok (.iconst 4, 1) := by decide +kernel
theorem dX10_lendsAs_27 : decode cX10_lendsAs 27 = .ok (.if_icmp .eq 9, 3) := by decide +kernel
theorem dX10_lendsAs_30 : decode cX10_lendsAs 30 = .ok (.iload_n 1, 1) := by decide +kernel
theorem dX10_lendsAs_31 : decode cX10_lendsAs 31 = .ok (.bipush 7, 2) := by decide +kernel
theorem dX10_lendsAs_33 : decode cX10_lendsAs 33 = .ok (.if_icmp .ne 28, 3) := by decide +kernel
theorem dX10_lendsAs_36 : decode cX10_lendsAs 36 = .ok (.aload_n 0, 1) := by decide +kernel
theorem dX10_lendsAs_37 : decode cX10_lendsAs 37 = .ok (.bipush 50, 2) := by decide +kernel
theorem dX10_lendsAs_39 : decode cX10_lendsAs 39 = .ok (.invokevirtual 335, 3) := by decide +kernel
theorem dX10_lendsAs_42 : decode cX10_lendsAs 42 = .ok (.aload_n 0, 1) := by decide +kernel
theorem dX10_lendsAs_43 : decode cX10_lendsAs 43 = .ok (.iconst 0, 1) := by decide +kernel
theorem dX10_lendsAs_44 : decode cX10_lendsAs 44 = .ok (.iload_n 2, 1) := by decide +kernel
theorem dX10_lendsAs_45 : decode cX10_lendsAs 45 = .ok (.invokevirtual 350, 3) := by decide +kernel
theorem dX10_lendsAs_48 : decode cX10_lendsAs 48 = .ok (.istore_n 3, 1) := by decide +kernel
theorem dX10_lendsAs_49 : decode cX10_lendsAs 49 = .ok (.iload_n 3, 1) := by decide +kernel
theorem dX10_lendsAs_50 : decode cX10_lendsAs 50 = .ok (.aload_n 0, 1) := by decide +kernel
theorem dX10_lendsAs_51 : decode cX10_lendsAs 51 = .ok (.aload_n 0, 1) := by decide +kernel
theorem dX10_lendsAs_52 : decode cX10_lendsAs 52 = .ok (.getfield 347, 3) := by decide +kernel
theorem dX10_lendsAs_55 : decode cX10_lendsAs 55 = .ok (.iconst 2, 1) := by decide +kernel
theorem dX10_lendsAs_56 : decode cX10_lendsAs 56 = .ok (.invokevirtual 338, 3) := by decide +kernel
theorem dX10_lendsAs_59 : decode cX10_lendsAs 59 = .ok (.isub, 1) := by decide +kernel
theorem dX10_lendsAs_60 : decode cX10_lendsAs 60 = .ok (.ireturn, 1) := by decide +kernel
theorem dX10_lendsAs_61 : decode cX10_lendsAs 61 = .ok (.aload_n 0, 1) := by decide +kernel
theorem dX10_lendsAs_62 : decode cX10_lendsAs 62 = .ok (.bipush 11, 2) := by decide +kernel
theorem dX10_lendsAs_64 : decode cX10_lendsAs 64 = .ok (.invokevirtual 335, 3) := by decide +kernel
theorem dX10_lendsAs_67 : decode cX10_lendsAs 67 = .ok (.iload_n 2, 1) := by decide +kernel
theorem dX10_lendsAs_68 : decode cX10_lendsAs 68 = .ok (.aload_n 0, 1) := by decide +kernel
theorem dX10_lendsAs_69 : decode cX10_lendsAs 69 = .ok (.getfield 341, 3) := by decide +kernel
theorem dX10_lendsAs_72 : decode cX10_lendsAs 72 = .ok (.ixor, 1) := by decide +kernel
theorem dX10_lendsAs_73 : decode cX10_lendsAs 73 = .ok (.ireturn, 1) := by decide +kernel
theorem dX10_tellsAs_0 : decode cX10_tellsAs 0 = .ok (.iload_n 1, 1) := by decide +kernel
theorem dX10_tellsAs_1 : decode cX10_tellsAs 1 = .ok (.iconst 5, 1) := by decide +kernel
theorem dX10_tellsAs_2 : decode cX10_tellsAs 2 = .ok (.if_icmp .ne 18, 3) := by decide +kernel
theorem dX10_tellsAs_5 : decode cX10_tellsAs 5 = .ok (.aload_n 0, 1) := by decide +kernel
theorem dX10_tellsAs_6 : decode cX10_tellsAs 6 = .ok (.bipush 61, 2) := by decide +kernel
theorem dX10_tellsAs_8 : decode cX10_tellsAs 8 = .ok (.invokevirtual 335, 3) := by decide +kernel
theorem dX10_tellsAs_11 : decode cX10_tellsAs 11 = .ok (.aload_n 0, 1) := by decide +kernel
theorem dX10_tellsAs_12 : decode cX10_tellsAs 12 = .ok (.iconst 3, 1) := by decide +kernel
theorem dX10_tellsAs_13 : decode cX10_tellsAs 13 = .ok (.iload_n 2, 1) := by decide +kernel
theorem dX10_tellsAs_14 : decode cX10_tellsAs 14 = .ok (.invokevirtual 353, 3) := by decide +kernel
theorem dX10_tellsAs_17 : decode cX10_tellsAs 17 = .ok (.iconst 5, 1) := by decide +kernel
theorem dX10_tellsAs_18 : decode cX10_tellsAs 18 = .ok (.ixor, 1) := by decide +kernel
theorem dX10_tellsAs_19 : decode cX10_tellsAs 19 = .ok (.ireturn, 1) := by decide +kernel
theorem dX10_tellsAs_20 : decode cX10_tellsAs 20 = .ok (.iload_n 1, 1) := by decide +kernel
theorem dX10_tellsAs_21 : decode cX10_tellsAs 21 = .ok (.bipush 7, 2) := by decide +kernel
theorem dX10_tellsAs_23 : decode cX10_tellsAs 23 = .ok (.if_icmp .ne 18, 3) := by decide +kernel
theorem dX10_tellsAs_26 : decode cX10_tellsAs 26 = .ok (.aload_n 0, 1) := by decide +kernel
theorem dX10_tellsAs_27 : decode cX10_tellsAs 27 = .ok (.bipush 81, 2) := by decide +kernel
theorem dX10_tellsAs_29 : decode cX10_tellsAs 29 = .ok (.invokevirtual 335, 3) := by decide +kernel
theorem dX10_tellsAs_32 : decode cX10_tellsAs 32 = .ok (.aload_n 0, 1) := by decide +kernel
theorem dX10_tellsAs_33 : decode cX10_tellsAs 33 = .ok (.iconst 4, 1) := by decide +kernel
theorem dX10_tellsAs_34 : decode cX10_tellsAs 34 = .ok (.iload_n 2, 1) := by decide +kernel
theorem dX10_tellsAs_35 : decode cX10_tellsAs 35 = .ok (.invokevirtual 353, 3) := by decide +kernel
theorem dX10_tellsAs_38 : decode cX10_tellsAs 38 = .ok (.iconst 1, 1) := by decide +kernel
theorem dX10_tellsAs_39 : decode cX10_tellsAs 39 = .ok (.isub, 1) := by decide +kernel
theorem dX10_tellsAs_40 : decode cX10_tellsAs 40 = .ok (.ireturn, 1) := by decide +kernel
theorem dX10_tellsAs_41 : decode cX10_tellsAs 41 = .ok (.aload_n 0, 1) := by decide +kernel
theorem dX10_tellsAs_42 : decode cX10_tellsAs 42 = .ok (.iconst 2, 1) := by decide +kernel
theorem dX10_tellsAs_43 : decode cX10_tellsAs 43 = .ok (.invokevirtual 335, 3) := by decide +kernel
theorem dX10_tellsAs_46 : decode cX10_tellsAs 46 = .ok (.aload_n 0, 1) := by decide +kernel
theorem dX10_tellsAs_47 : decode cX10_tellsAs 47 = .ok (.aload_n 0, 1) := by decide +kernel
theorem dX10_tellsAs_48 : decode cX10_tellsAs 48 = .ok (.getfield 347, 3) := by decide +kernel
theorem dX10_tellsAs_51 : decode cX10_tellsAs 51 = .ok (.iload_n 2, 1) := by decide +kernel
theorem dX10_tellsAs_52 : decode cX10_tellsAs 52 = .ok (.invokevirtual 344, 3) := by decide +kernel
theorem dX10_tellsAs_55 : decode cX10_tellsAs 55 = .ok (.istore_n 3, 1) := by decide +kernel
theorem dX10_tellsAs_56 : decode cX10_tellsAs 56 = .ok (.iload_n 3, 1) := by decide +kernel
theorem dX10_tellsAs_57 : decode cX10_tellsAs 57 = .ok (.aload_n 0, 1) := by decide +kernel
theorem dX10_tellsAs_58 : decode cX10_tellsAs 58 = .ok (.aload_n 0, 1) := by decide +kernel
theorem dX10_tellsAs_59 : decode cX10_tellsAs 59 = .ok (.getfield 347, 3) := by decide +kernel
theorem dX10_tellsAs_62 : decode cX10_tellsAs 62 = .ok (.iconst 1, 1) := by decide +kernel
theorem dX10_tellsAs_63 : decode cX10_tellsAs 63 = .ok (.invokevirtual 350, 3) := by decide +kernel
theorem dX10_tellsAs_66 : decode cX10_tellsAs 66 = .ok (.isub, 1) := by decide +kernel
theorem dX10_tellsAs_67 : decode cX10_tellsAs 67 = .ok (.ireturn, 1) := by decide +kernel
theorem dX10_act_0 : decode cX10_act 0 = .ok (.aload_n 0, 1) := by decide +kernel
theorem dX10_act_1 : decode cX10_act 1 = .ok (.iconst 0, 1) := by decide +kernel
theorem dX10_act_2 : decode cX10_act 2 = .ok (.putfield 332, 3) := by decide +kernel
theorem dX10_act_5 : decode cX10_act 5 = .ok (.aload_n 0, 1) := by decide +kernel
theorem dX10_act_6 : decode cX10_act 6 = .ok (.iload_n 1, 1) := by decide +kernel
theorem dX10_act_7 : decode cX10_act 7 = .ok (.invokevirtual 356, 3) := by decide +kernel
theorem dX10_act_10 : decode cX10_act 10 = .ok (.ifCond .ne 5, 3) := by decide +kernel
theorem dX10_act_13 : decode cX10_act 13 = .ok (.iconst 0, 1) := by decide +kernel
theorem dX10_act_14 : decode cX10_act 14 = .ok (.ireturn, 1) := by decide +kernel
theorem dX10_act_15 : decode cX10_act 15 = .ok (.aload_n 0, 1) := by decide +kernel
theorem dX10_act_16 : decode cX10_act 16 = .ok (.aload_n 0, 1) := by decide +kernel
theorem dX10_act_17 : decode cX10_act 17 = .ok (.getfield 77, 3) := by decide +kernel
theorem dX10_act_20 : decode cX10_act 20 = .ok (.iload_n 1, 1) := by decide +kernel
theorem dX10_act_21 : decode cX10_act 21 = .ok (.iaload, 1) := by decide +kernel
theorem dX10_act_22 : decode cX10_act 22 = .ok (.putfield 347, 3) := by decide +kernel
theorem dX10_act_25 : decode cX10_act 25 = .ok (.aload_n 0, 1) := by decide +kernel
theorem dX10_act_26 : decode cX10_act 26 = .ok (.iload_n 1, 1) := by decide +kernel
theorem dX10_act_27 : decode cX10_act 27 = .ok (.putfield 341, 3) := by decide +kernel
theorem dX10_act_30 : decode cX10_act 30 = .ok (.iload_n 2, 1) := by decide +kernel
theorem dX10_act_31 : decode cX10_act 31 = .ok (.tableswitch 69 0 3 #[29, 39, 49, 59], 29) := by decide +kernel
theorem dX10_act_60 : decode cX10_act 60 = .ok (.aload_n 0, 1) := by decide +kernel
theorem dX10_act_61 : decode cX10_act 61 = .ok (.aload_n 0, 1) := by decide +kernel
theorem dX10_act_62 : decode cX10_act 62 = .ok (.getfield 347, 3) := by decide +kernel
theorem dX10_act_65 : decode cX10_act 65 = .ok (.iload_n 3, 1) := by decide +kernel
theorem dX10_act_66 : decode cX10_act 66 = .ok (.invokevirtual 338, 3) := by decide +kernel
theorem dX10_act_69 : decode cX10_act 69 = .ok (.ireturn, 1) := by decide +kernel
theorem dX10_act_70 : decode cX10_act 70 = .ok (.aload_n 0, 1) := by decide +kernel
theorem dX10_act_71 : decode cX10_act 71 = .ok (.aload_n 0, 1) := by decide +kernel
theorem dX10_act_72 : decode cX10_act 72 = .ok (.getfield 347, 3) := by decide +kernel
theorem dX10_act_75 : decode cX10_act 75 = .ok (.iload_n 3, 1) := by decide +kernel
theorem dX10_act_76 : decode cX10_act 76 = .ok (.invokevirtual 344, 3) := by decide +kernel
theorem dX10_act_79 : decode cX10_act 79 = .ok (.ireturn, 1) := by decide +kernel
theorem dX10_act_80 : decode cX10_act 80 = .ok (.aload_n 0, 1) := by decide +kernel
theorem dX10_act_81 : decode cX10_act 81 = .ok (.aload_n 0, 1) := by decide +kernel
theorem dX10_act_82 : decode cX10_act 82 = .ok (.getfield 347, 3) := by decide +kernel
theorem dX10_act_85 : decode cX10_act 85 = .ok (.iload_n 3, 1) := by decide +kernel
theorem dX10_act_86 : decode cX10_act 86 = .ok (.invokevirtual 350, 3) := by decide +kernel
theorem dX10_act_89 : decode cX10_act 89 = .ok (.ireturn, 1) := by decide +kernel
theorem dX10_act_90 : decode cX10_act 90 = .ok (.aload_n 0, 1) := by decide +kernel
theorem dX10_act_91 : decode cX10_act 91 = .ok (.aload_n 0, 1) := by decide +kernel
theorem dX10_act_92 : decode cX10_act 92 = .ok (.getfield 347, 3) := by decide +kernel
theorem dX10_act_95 : decode cX10_act 95 = .ok (.iload_n 3, 1) := by decide +kernel
theorem dX10_act_96 : decode cX10_act 96 = .ok (.invokevirtual 353, 3) := by decide +kernel
theorem dX10_act_99 : decode cX10_act 99 = .ok (.ireturn, 1) := by decide +kernel
theorem dX10_act_100 : decode cX10_act 100 = .ok (.iconst 0, 1) := by decide +kernel
theorem dX10_act_101 : decode cX10_act 101 = .ok (.ireturn, 1) := by decide +kernel
theorem dX10_trace_0 : decode cX10_trace 0 = .ok (.iload_n 1, 1) := by decide +kernel
theorem dX10_trace_1 : decode cX10_trace 1 = .ok (.ifCond .lt 26, 3) := by decide +kernel
theorem dX10_trace_4 : decode cX10_trace 4 = .ok (.iload_n 1, 1) := by decide +kernel
theorem dX10_trace_5 : decode cX10_trace 5 = .ok (.aload_n 0, 1) := by decide +kernel
theorem dX10_trace_6 : decode cX10_trace 6 = .ok (.getfield 332, 3) := by decide +kernel
theorem dX10_trace_9 : decode cX10_trace 9 = .ok (.if_icmp .ge 18, 3) := by decide +kernel
theorem dX10_trace_12 : decode cX10_trace 12 = .ok (.iload_n 1, 1) := by decide +kernel
theorem dX10_trace_13 : decode cX10_trace 13 = .ok (.bipush 24, 2) := by decide +kernel
theorem dX10_trace_15 : decode cX10_trace 15 = .ok (.if_icmp .ge 12, 3) := by decide +kernel
theorem dX10_trace_18 : decode cX10_trace 18 = .ok (.aload_n 0, 1) := by decide +kernel
theorem dX10_trace_19 : decode cX10_trace 19 = .ok (.getfield 80, 3) := by decide +kernel
theorem dX10_trace_22 : decode cX10_trace 22 = .ok (.iload_n 1, 1) := by decide +kernel
theorem dX10_trace_23 : decode cX10_trace 23 = .ok (.iaload, 1) := by decide +kernel
theorem dX10_trace_24 : decode cX10_trace 24 = .ok (.goto 4, 3) := by decide +kernel
theorem dX10_trace_27 : decode cX10_trace 27 = .ok (.iconst (-1), 1) := by decide +kernel
theorem dX10_trace_28 : decode cX10_trace 28 = .ok (.ireturn, 1) := by decide +kernel
theorem dX10_isShelf_0 : decode cX10_isShelf 0 = .ok (.iload_n 0, 1) := by decide +kernel
theorem dX10_isShelf_1 : decode cX10_isShelf 1 = .ok (.i2l, 1) := by decide +kernel
theorem dX10_isShelf_2 : decode cX10_isShelf 2 = .ok (.lconst 0, 1) := by decide +kernel
theorem dX10_isShelf_3 : decode cX10_isShelf 3 = .ok (.ldc2_w 359, 3) := by decide +kernel
theorem dX10_isShelf_6 : decode cX10_isShelf 6 = .ok (.invokestatic 105, 3) := by decide +kernel
theorem dX10_isShelf_9 : decode cX10_isShelf 9 = .ok (.ireturn, 1) := by decide +kernel
theorem dX10_keep_0 : decode cX10_keep 0 = .ok (.iload_n 1, 1) := by decide +kernel
theorem dX10_keep_1 : decode cX10_keep 1 = .ok (.invokestatic 126, 3) := by decide +kernel
theorem dX10_keep_4 : decode cX10_keep 4 = .ok (.ifCond .eq 16, 3) := by decide +kernel
theorem dX10_keep_7 : decode cX10_keep 7 = .ok (.iload_n 2, 1) := by decide +kernel
theorem dX10_keep_8 : decode cX10_keep 8 = .ok (.iconst (-1), 1) := by decide +kernel
theorem dX10_keep_9 : decode cX10_keep 9 = .ok (.if_icmp .eq 13, 3) := by decide +kernel
theorem dX10_keep_12 : decode cX10_keep 12 = .ok (.aload_n 0, 1) := by decide +kernel
theorem dX10_keep_13 : decode cX10_keep 13 = .ok (.iload_n 2, 1) := by decide +kernel
theorem dX10_keep_14 : decode cX10_keep 14 = .ok (.invokevirtual 356, 3) := by decide +kernel
theorem dX10_keep_17 : decode cX10_keep 17 = .ok (.ifCond .ne 5, 3) := by decide +kernel
theorem dX10_keep_20 : decode cX10_keep 20 = .ok (.iconst (-1), 1) := by decide +kernel
theorem dX10_keep_21 : decode cX10_keep 21 = .ok (.ireturn, 1) := by decide +kernel
theorem dX10_keep_22 : decode cX10_keep 22 = .ok (.aload_n 0, 1) := by decide +kernel
theorem dX10_keep_23 : decode cX10_keep 23 = .ok (.getfield 83, 3) := by decide +kernel
theorem dX10_keep_26 : decode cX10_keep 26 = .ok (.iload_n 1, 1) := by decide +kernel
theorem dX10_keep_27 : decode cX10_keep 27 = .ok (.iload_n 2, 1) := by decide +kernel
theorem dX10_keep_28 : decode cX10_keep 28 = .ok (.iastore, 1) := by decide +kernel
theorem dX10_keep_29 : decode cX10_keep 29 = .ok (.aload_n 0, 1) := by decide +kernel
theorem dX10_keep_30 : decode cX10_keep 30 = .ok (.getfield 86, 3) := by decide +kernel
theorem dX10_keep_33 : decode cX10_keep 33 = .ok (.iload_n 1, 1) := by decide +kernel
theorem dX10_keep_34 : decode cX10_keep 34 = .ok (.iconst 0, 1) := by decide +kernel
theorem dX10_keep_35 : decode cX10_keep 35 = .ok (.iastore, 1) := by decide +kernel
theorem dX10_keep_36 : decode cX10_keep 36 = .ok (.iconst 1, 1) := by decide +kernel
theorem dX10_keep_37 : decode cX10_keep 37 = .ok (.ireturn, 1) := by decide +kernel
theorem dX10_row_0 : decode cX10_row 0 = .ok (.iload_n 1, 1) := by decide +kernel
theorem dX10_row_1 : decode cX10_row 1 = .ok (.invokestatic 126, 3) := by decide +kernel
theorem dX10_row_4 : decode cX10_row 4 = .ok (.ifCond .eq 21, 3) := by decide +kernel
theorem dX10_row_7 : decode cX10_row 7 = .ok (.iload_n 2, 1) := by decide +kernel
theorem dX10_row_8 : decode cX10_row 8 = .ok (.i2l, 1) := by decide +kernel
theorem dX10_row_9 : decode cX10_row 9 = .ok (.lconst 0, 1) := by decide +kernel
theorem dX10_row_10 : decode cX10_row 10 = .ok (.ldc2_w 156, 3) := by decide +kernel
theorem dX10_row_13 : decode cX10_row 13 = .ok (.invokestatic 105, 3) := by decide +kernel
theorem dX10_row_16 : decode cX10_row 16 = .ok (.ifCond .eq 9, 3) := by decide +kernel
theorem dX10_row_19 : decode cX10_row 19 = .ok (.iload_n 3, 1) := by decide +kernel
theorem dX10_row_20 : decode cX10_row 20 = .ok (.bipush 60, 2) := by decide +kernel
theorem dX10_row_22 : decode cX10_row 22 = .ok (.if_icmp .le 5, 3) := by decide +kernel
theorem dX10_row_25 : decode cX10_row 25 = .ok (.iconst (-1), 1) := by decide +kernel
theorem dX10_row_26 : decode cX10_row 26 = .ok (.ireturn, 1) := by decide +kernel
theorem dX10_row_27 : decode cX10_row 27 = .ok (.iload_n 3, 1) := by decide +kernel
theorem dX10_row_28 : decode cX10_row 28 = .ok (.ifCond .ge 6, 3) := by decide +kernel
theorem dX10_row_31 : decode cX10_row 31 = .ok (.bipush (-14), 2) := by decide +kernel
theorem dX10_row_33 : decode cX10_row 33 = .ok (.ireturn, 1) := by decide +kernel
theorem dX10_row_34 : decode cX10_row 34 = .ok (.aload_n 0, 1) := by decide +kernel
theorem dX10_row_35 : decode cX10_row 35 = .ok (.getfield 83, 3) := by decide +kernel
theorem dX10_row_38 : decode cX10_row 38 = .ok (.iload_n 1, 1) := by decide +kernel
theorem dX10_row_39 : decode cX10_row 39 = .ok (.bipush 50, 2) := by decide +kernel
theorem dX10_row_41 : decode cX10_row 41 = .ok (.iload_n 2, 1) := by decide +kernel
theorem dX10_row_42 : decode cX10_row 42 = .ok (.iadd, 1) := by decide +kernel
theorem dX10_row_43 : decode cX10_row 43 = .ok (.iastore, 1) := by decide +kernel
theorem dX10_row_44 : decode cX10_row 44 = .ok (.aload_n 0, 1) := by decide +kernel
theorem dX10_row_45 : decode cX10_row 45 = .ok (.getfield 86, 3) := by decide +kernel
theorem dX10_row_48 : decode cX10_row 48 = .ok (.iload_n 1, 1) := by decide +kernel
theorem dX10_row_49 : decode cX10_row 49 = .ok (.iload_n 3, 1) := by decide +kernel
theorem dX10_row_50 : decode cX10_row 50 = .ok (.iastore, 1) := by decide +kernel
theorem dX10_row_51 : decode cX10_row 51 = .ok (.bipush 60, 2) := by decide +kernel
theorem dX10_row_53 : decode cX10_row 53 = .ok (.iload_n 1, 1) := by decide +kernel
theorem dX10_row_54 : decode cX10_row 54 = .ok (.imul, 1) := by decide +kernel
theorem dX10_row_55 : decode cX10_row 55 = .ok (.istore 4, 2) := by decide +kernel
theorem dX10_row_57 : decode cX10_row 57 = .ok (.iload 4, 2) := by decide +kernel
theorem dX10_row_59 : decode cX10_row 59 = .ok (.bipush 60, 2) := by decide +kernel
theorem dX10_row_61 : decode cX10_row 61 = .ok (.iload_n 1, 1) := by decide +kernel
theorem dX10_row_62 : decode cX10_row 62 = .ok (.imul, 1) := by decide +kernel
theorem dX10_row_63 : decode cX10_row 63 = .ok (.bipush 60, 2) := by decide +kernel
theorem dX10_row_65 : decode cX10_row 65 = .ok (.iadd, 1) := by decide +kernel
theorem dX10_row_66 : decode cX10_row 66 = .ok (.if_icmp .ge 17, 3) := by decide +kernel
theorem dX10_row_69 : decode cX10_row 69 = .ok (.aload_n 0, 1) := by decide +kernel
theorem dX10_row_70 : decode cX10_row 70 = .ok (.getfield 89, 3) := by decide +kernel
theorem dX10_row_73 : decode cX10_row 73 = .ok (.iload 4, 2) := by decide +kernel
theorem dX10_row_75 : decode cX10_row 75 = .ok (.lconst 0, 1) := by decide +kernel
theorem dX10_row_76 : decode cX10_row 76 = .ok (.lastore, 1) := by decide +kernel
theorem dX10_row_77 : decode cX10_row 77 = .ok (.iinc 4 1, 3) := by decide +kernel
theorem dX10_row_80 : decode cX10_row 80 = .ok (.goto (-23), 3) := by decide +kernel
theorem dX10_row_83 : decode cX10_row 83 = .ok (.iconst 1, 1) := by decide +kernel
theorem dX10_row_84 : decode cX10_row 84 = .ok (.ireturn, 1) := by decide +kernel
theorem dX10_refusal_0 : decode cX10_refusal 0 = .ok (.iload_n 1, 1) := by decide +kernel
theorem dX10_refusal_1 : decode cX10_refusal 1 = .ok (.invokestatic 126, 3) := by decide +kernel
theorem dX10_refusal_4 : decode cX10_refusal 4 = .ok (.ifCond .ne 5, 3) := by decide +kernel
theorem dX10_refusal_7 : decode cX10_refusal 7 = .ok (.iconst (-1), 1) := by decide +kernel
theorem dX10_refusal_8 : decode cX10_refusal 8 = .ok (.ireturn, 1) := by decide +kernel
theorem dX10_refusal_9 : decode cX10_refusal 9 = .ok (.aload_n 0, 1) := by decide +kernel
theorem dX10_refusal_10 : decode cX10_refusal 10 = .ok (.getfield 83, 3) := by decide +kernel
theorem dX10_refusal_13 : decode cX10_refusal 13 = .ok (.iload_n 1, 1) := by decide +kernel
theorem dX10_refusal_14 : decode cX10_refusal 14 = .ok (.iaload, 1) := by decide +kernel
theorem dX10_refusal_15 : decode cX10_refusal 15 = .ok (.ifCond .ge 6, 3) := by decide +kernel
theorem dX10_refusal_18 : decode cX10_refusal 18 = .ok (.bipush (-11), 2) := by decide +kernel
theorem dX10_refusal_20 : decode cX10_refusal 20 = .ok (.ireturn, 1) := by decide +kernel
theorem dX10_refusal_21 : decode cX10_refusal 21 = .ok (.aload_n 0, 1) := by decide +kernel
theorem dX10_refusal_22 : decode cX10_refusal 22 = .ok (.getfield 83, 3) := by decide +kernel
theorem dX10_refusal_25 : decode cX10_refusal 25 = .ok (.iload_n 1, 1) := by decide +kernel
theorem dX10_refusal_26 : decode cX10_refusal 26 = .ok (.iaload, 1) := by decide +kernel
theorem dX10_refusal_27 : decode cX10_refusal 27 = .ok (.bipush 50, 2) := by decide +kernel
theorem dX10_refusal_29 : decode cX10_refusal 29 = .ok (.if_icmp .ge 6, 3) := by decide +kernel
theorem dX10_refusal_32 : decode cX10_refusal 32 = .ok (.bipush (-12), 2) := by decide +kernel
theorem dX10_refusal_34 : decode cX10_refusal 34 = .ok (.ireturn, 1) := by decide +kernel
theorem dX10_refusal_35 : decode cX10_refusal 35 = .ok (.iload_n 2, 1) := by decide +kernel
theorem dX10_refusal_36 : decode cX10_refusal 36 = .ok (.ifCond .lt 17, 3) := by decide +kernel
theorem dX10_refusal_39 : decode cX10_refusal 39 = .ok (.iload_n 2, 1) := by decide +kernel
theorem dX10_refusal_40 : decode cX10_refusal 40 = .ok (.aload_n 0, 1) := by decide +kernel
theorem dX10_refusal_41 : decode cX10_refusal 41 = .ok (.getfield 86, 3) := by decide +kernel
theorem dX10_refusal_44 : decode cX10_refusal 44 = .ok (.iload_n 1, 1) := by decide +kernel
theorem dX10_refusal_45 : decode cX10_refusal 45 = .ok (.iaload, 1) := by decide +kernel
theorem dX10_refusal_46 : decode cX10_refusal 46 = .ok (.if_icmp .ge 7, 3) := by decide +kernel
theorem dX10_refusal_49 : decode cX10_refusal 49 = .ok (.iconst 0, 1) := by decide +kernel
theorem dX10_refusal_50 : decode cX10_refusal 50 = .ok (.goto 5, 3) := by decide +kernel
theorem dX10_refusal_53 : decode cX10_refusal 53 = .ok (.bipush (-13), 2) := by decide +kernel
theorem dX10_refusal_55 : decode cX10_refusal 55 = .ok (.ireturn, 1) := by decide +kernel
theorem dX10_asSort_0 : decode cX10_asSort 0 = .ok (.iload_n 0, 1) := by decide +kernel
theorem dX10_asSort_1 : decode cX10_asSort 1 = .ok (.ifCond .ne 10, 3) := by decide +kernel
theorem dX10_asSort_4 : decode cX10_asSort 4 = .ok (.lload_n 1, 1) := by decide +kernel
theorem dX10_asSort_5 : decode cX10_asSort 5 = .ok (.l2i, 1) := by decide +kernel
theorem dX10_asSort_6 : decode cX10_asSort 6 = .ok (.i2b, 1) := by decide +kernel
theorem dX10_asSort_7 : decode cX10_asSort 7 = .ok (.i2l, 1) := by decide +kernel
theorem dX10_asSort_8 : decode cX10_asSort 8 = .ok (.goto 46, 3) := by decide +kernel
theorem dX10_asSort_11 : decode cX10_asSort 11 = .ok (.iload_n 0, 1) := by decide +kernel
theorem dX10_asSort_12 : decode cX10_asSort 12 = .ok (.iconst 1, 1) := by decide +kernel
theorem dX10_asSort_13 : decode cX10_asSort 13 = .ok (.if_icmp .ne 10, 3) := by decide +kernel
theorem dX10_asSort_16 : decode cX10_asSort 16 = .ok (.lload_n 1, 1) := by decide +kernel
theorem dX10_asSort_17 : decode cX10_asSort 17 = .ok (.l2i, 1) := by decide +kernel
theorem dX10_asSort_18 : decode cX10_asSort 18 = .ok (.i2s, 1) := by decide +kernel
theorem dX10_asSort_19 : decode cX10_asSort 19 = .ok (.i2l, 1) := by decide +kernel
theorem dX10_asSort_20 : decode cX10_asSort 20 = .ok (.goto 34, 3) := by decide +kernel
theorem dX10_asSort_23 : decode cX10_asSort 23 = .ok (.iload_n 0, 1) := by decide +kernel
theorem dX10_asSort_24 : decode cX10_asSort 24 = .ok (.iconst 2, 1) := by decide +kernel
theorem dX10_asSort_25 : decode cX10_asSort 25 = .ok (.if_icmp .ne 9, 3) := by decide +kernel
theorem dX10_asSort_28 : decode cX10_asSort 28 = .ok (.lload_n 1, 1) := by decide +kernel
theorem dX10_asSort_29 : decode cX10_asSort 29 = .ok (.l2i, 1) := by decide +kernel
theorem dX10_asSort_30 : decode cX10_asSort 30 = .ok (.i2l, 1) := by decide +kernel
theorem dX10_asSort_31 : decode cX10_asSort 31 = .ok (.goto 23, 3) := by decide +kernel
theorem dX10_asSort_34 : decode cX10_asSort 34 = .ok (.iload_n 0, 1) := by decide +kernel
theorem dX10_asSort_35 : decode cX10_asSort 35 = .ok (.iconst 4, 1) := by decide +kernel
theorem dX10_asSort_36 : decode cX10_asSort 36 = .ok (.if_icmp .ne 17, 3) := by decide +kernel
theorem dX10_asSort_39 : decode cX10_asSort 39 = .ok (.lload_n 1, 1) := by decide +kernel
theorem dX10_asSort_40 : decode cX10_asSort 40 = .ok (.lconst 0, 1) := by decide +kernel
theorem dX10_asSort_41 : decode cX10_asSort 41 = .ok (.lcmp, 1) := by decide +kernel
theorem dX10_asSort_42 : decode cX10_asSort 42 = .ok (.ifCond .eq 7, 3) := by decide +kernel
theorem dX10_asSort_45 : decode cX10_asSort 45 = .ok (.lconst 1, 1) := by decide +kernel
theorem dX10_asSort_46 : decode cX10_asSort 46 = .ok (.goto 8, 3) := by decide +kernel
theorem dX10_asSort_49 : decode cX10_asSort 49 = .ok (.lconst 0, 1) := by decide +kernel
theorem dX10_asSort_50 : decode cX10_asSort 50 = .ok (.goto 4, 3) := by decide +kernel
theorem dX10_asSort_53 : decode cX10_asSort 53 = .ok (.lload_n 1, 1) := by decide +kernel
theorem dX10_asSort_54 : decode cX10_asSort 54 = .ok (.lreturn, 1) := by decide +kernel
theorem dX10_put_0 : decode cX10_put 0 = .ok (.aload_n 0, 1) := by decide +kernel
theorem dX10_put_1 : decode cX10_put 1 = .ok (.iload_n 1, 1) := by decide +kernel
theorem dX10_put_2 : decode cX10_put 2 = .ok (.iload_n 2, 1) := by decide +kernel
theorem dX10_put_3 : decode cX10_put 3 = .ok (.invokevirtual 361, 3) := by decide +kernel
theorem dX10_put_6 : decode cX10_put 6 = .ok (.istore 5, 2) := by decide +kernel
theorem dX10_put_8 : decode cX10_put 8 = .ok (.iload 5, 2) := by decide +kernel
theorem dX10_put_10 : decode cX10_put 10 = .ok (.ifCond .ne 27, 3) := by decide +kernel
theorem dX10_put_13 : decode cX10_put 13 = .ok (.aload_n 0, 1) := by decide +kernel
theorem dX10_put_14 : decode cX10_put 14 = .ok (.getfield 89, 3) := by decide +kernel
theorem dX10_put_17 : decode cX10_put 17 = .ok (.bipush 60, 2) := by decide +kernel
theorem dX10_put_19 : decode cX10_put 19 = .ok (.iload_n 1, 1) := by decide +kernel
theorem dX10_put_20 : decode cX10_put 20 = .ok (.imul, 1) := by decide +kernel
theorem dX10_put_21 : decode cX10_put 21 = .ok (.iload_n 2, 1) := by decide +kernel
theorem dX10_put_22 : decode cX10_put 22 = .ok (.iadd, 1) := by decide +kernel
theorem dX10_put_23 : decode cX10_put 23 = .ok (.aload_n 0, 1) := by decide +kernel
theorem dX10_put_24 : decode cX10_put 24 = .ok (.getfield 83, 3) := by decide +kernel
theorem dX10_put_27 : decode cX10_put 27 = .ok (.iload_n 1, 1) := by decide +kernel
theorem dX10_put_28 : decode cX10_put 28 = .ok (.iaload, 1) := by decide +kernel
theorem dX10_put_29 : decode cX10_put 29 = .ok (.bipush 50, 2) := by decide +kernel
theorem dX10_put_31 : decode cX10_put 31 = .ok (.isub, 1) := by decide +kernel
theorem dX10_put_32 : decode cX10_put 32 = .ok (.lload_n 3, 1) := by decide +kernel
theorem dX10_put_33 : decode cX10_put 33 = .ok (.invokestatic 364, 3) := by decide +kernel
theorem dX10_put_36 : decode cX10_put 36 = .ok (.lastore, 1) := by decide +kernel
theorem dX10_put_37 : decode cX10_put 37 = .ok (.iload 5, 2) := by decide +kernel
theorem dX10_put_39 : decode cX10_put 39 = .ok (.ifCond .ne 7, 3) := by decide +kernel
theorem dX10_put_42 : decode cX10_put 42 = .ok (.iconst 1, 1) := by decide +kernel
theorem dX10_put_43 : decode cX10_put 43 = .ok (.goto 5, 3) := by decide +kernel
theorem dX10_put_46 : decode cX10_put 46 = .ok (.iload 5, 2) := by decide +kernel
theorem dX10_put_48 : decode cX10_put 48 = .ok (.ireturn, 1) := by decide +kernel
theorem dX10_element_0 : decode cX10_element 0 = .ok (.aload_n 0, 1) := by decide +kernel
theorem dX10_element_1 : decode cX10_element 1 = .ok (.iload_n 1, 1) := by decide +kernel
theorem dX10_element_2 : decode cX10_element 2 = .ok (.iload_n 2, 1) := by decide +kernel
theorem dX10_element_3 : decode cX10_element 3 = .ok (.invokevirtual 361, 3) := by decide +kernel
theorem dX10_element_6 : decode cX10_element 6 = .ok (.ifCond .eq 9, 3) := by decide +kernel
theorem dX10_element_9 : decode cX10_element 9 = .ok (.ldc2_w 370, 3) := by decide +kernel
theorem dX10_element_12 : decode cX10_element 12 = .ok (.goto 14, 3) := by decide +kernel
theorem dX10_element_15 : decode cX10_element 15 = .ok (.aload_n 0, 1) := by decide +kernel
theorem dX10_element_16 : decode cX10_element 16 = .ok (.getfield 89, 3) := by decide +kernel
theorem dX10_element_19 : decode cX10_element 19 = .ok (.bipush 60, 2) := by decide +kernel
theorem dX10_element_21 : decode cX10_element 21 = .ok (.iload_n 1, 1) := by decide +kernel
theorem dX10_element_22 : decode cX10_element 22 = .ok (.imul, 1) := by decide +kernel
theorem dX10_element_23 : decode cX10_element 23 = .ok (.iload_n 2, 1) := by decide +kernel
theorem dX10_element_24 : decode cX10_element 24 = .ok (.iadd, 1) := by decide +kernel
theorem dX10_element_25 : decode cX10_element 25 = .ok (.laload, 1) := by decide +kernel
theorem dX10_element_26 : decode cX10_element 26 = .ok (.lreturn, 1) := by decide +kernel
theorem dX10_shift_0 : decode cX10_shift 0 = .ok (.iload_n 1, 1) := by decide +kernel
theorem dX10_shift_1 : decode cX10_shift 1 = .ok (.invokestatic 126, 3) := by decide +kernel
theorem dX10_shift_4 : decode cX10_shift 4 = .ok (.ifCond .eq 10, 3) := by decide +kernel
theorem dX10_shift_7 : decode cX10_shift 7 = .ok (.iload_n 3, 1) := by decide +kernel
theorem dX10_shift_8 : decode cX10_shift 8 = .ok (.invokestatic 126, 3) := by decide +kernel
theorem dX10_shift_11 : decode cX10_shift 11 = .ok (.ifCond .ne 5, 3) := by decide +kernel
theorem dX10_shift_14 : decode cX10_shift 14 = .ok (.iconst (-1), 1) := by decide +kernel
theorem dX10_shift_15 : decode cX10_shift 15 = .ok (.ireturn, 1) := by decide +kernel
theorem dX10_shift_16 : decode cX10_shift 16 = .ok (.aload_n 0, 1) := by decide +kernel
theorem dX10_shift_17 : decode cX10_shift 17 = .ok (.getfield 83, 3) := by decide +kernel
theorem dX10_shift_20 : decode cX10_shift 20 = .ok (.iload_n 1, 1) := by decide +kernel
theorem dX10_shift_21 : decode cX10_shift 21 = .ok (.iaload, 1) := by decide +kernel
theorem dX10_shift_22 : decode cX10_shift 22 = .ok (.ifCond .lt 12, 3) := by decide +kernel
theorem dX10_shift_25 : decode cX10_shift 25 = .ok (.aload_n 0, 1) := by decide +kernel
theorem dX10_shift_26 : decode cX10_shift 26 = .ok (.getfield 83, 3) := by decide +kernel
theorem dX10_shift_29 : decode cX10_shift 29 = .ok (.iload_n 3, 1) := by decide +kernel
theorem dX10_shift_30 : decode cX10_shift 30 = .ok (.iaload, 1) := by decide +kernel
theorem dX10_shift_31 : decode cX10_shift 31 = .ok (.ifCond .ge 6, 3) := by decide +kernel
theorem dX10_shift_34 : decode cX10_shift 34 = .ok (.bipush (-11), 2) := by decide +kernel
theorem dX10_shift_36 : decode cX10_shift 36 = .ok (.ireturn, 1) := by decide +kernel
theorem dX10_shift_37 : decode cX10_shift 37 = .ok (.aload_n 0, 1) := by decide +kernel
theorem dX10_shift_38 : decode cX10_shift 38 = .ok (.getfield 83, 3) := by decide +kernel
theorem dX10_shift_41 : decode cX10_shift 41 = .ok (.iload_n 1, 1) := by decide +kernel
theorem dX10_shift_42 : decode cX10_shift 42 = .ok (.iaload, 1) := by decide +kernel
theorem dX10_shift_43 : decode cX10_shift 43 = .ok (.bipush 50, 2) := by decide +kernel
theorem dX10_shift_45 : decode cX10_shift 45 = .ok (.if_icmp .lt 18, 3) := by decide +kernel
theorem dX10_shift_48 : decode cX10_shift 48 = .ok (.aload_n 0, 1) := by decide +kernel
theorem dX10_shift_49 : decode cX10_shift 49 = .ok (.getfield 83, 3) := by decide +kernel
theorem dX10_shift_52 : decode cX10_shift 52 = .ok (.iload_n 1, 1) := by decide +kernel
theorem dX10_shift_53 : decode cX10_shift 53 = .ok (.iaload, 1) := by decide +kernel
theorem dX10_shift_54 : decode cX10_shift 54 = .ok (.aload_n 0, 1) := by decide +kernel
theorem dX10_shift_55 : decode cX10_shift 55 = .ok (.getfield 83, 3) := by decide +kernel
theorem dX10_shift_58 : decode cX10_shift 58 = .ok (.iload_n 3, 1) := by decide +kernel
theorem dX10_shift_59 : decode cX10_shift 59 = .ok (.iaload, 1) := by decide +kernel
theorem dX10_shift_60 : decode cX10_shift 60 = .ok (.if_icmp .eq 6, 3) := by decide +kernel
theorem dX10_shift_63 : decode cX10_shift 63 = .ok (.bipush (-12), 2) := by decide +kernel
theorem dX10_shift_65 : decode cX10_shift 65 = .ok (.ireturn, 1) := by decide +kernel
theorem dX10_shift_66 : decode cX10_shift 66 = .ok (.iload 5, 2) := by decide +kernel
theorem dX10_shift_68 : decode cX10_shift 68 = .ok (.ifCond .lt 39, 3) := by decide +kernel
theorem dX10_shift_71 : decode cX10_shift 71 = .ok (.iload_n 2, 1) := by decide +kernel
theorem dX10_shift_72 : decode cX10_shift 72 = .ok (.ifCond .lt 35, 3) := by decide +kernel
theorem dX10_shift_75 : decode cX10_shift 75 = .ok (.iload 4, 2) := by decide +kernel
theorem dX10_shift_77 : decode cX10_shift 77 = .ok (.ifCond .lt 30, 3) := by decide +kernel
theorem dX10_shift_80 : decode cX10_shift 80 = .ok (.iload_n 2, 1) := by decide +kernel
theorem dX10_shift_81 : decode cX10_shift 81 = .ok (.aload_n 0, 1) := by decide +kernel
theorem dX10_shift_82 : decode cX10_shift 82 = .ok (.getfield 86, 3) := by decide +kernel
theorem dX10_shift_85 : decode cX10_shift 85 = .ok (.iload_n 1, 1) := by decide +kernel
theorem dX10_shift_86 : decode cX10_shift 86 = .ok (.iaload, 1) := by decide +kernel
theorem dX10_shift_87 : decode cX10_shift 87 = .ok (.iload 5, 2) := by decide +kernel
theorem dX10_shift_89 : decode cX10_shift 89 = .ok (.isub, 1) := by decide +kernel
theorem dX10_shift_90 : decode cX10_shift 90 = .ok (.if_icmp .gt 17, 3) := by decide +kernel
theorem dX10_shift_93 : decode cX10_shift 93 = .ok (.iload 4, 2) := by decide +kernel
theorem dX10_shift_95 : decode cX10_shift 95 = .ok (.aload_n 0, 1) := by decide +kernel
theorem dX10_shift_96 : decode cX10_shift 96 = .ok (.getfield 86, 3) := by decide +kernel
theorem dX10_shift_99 : decode cX10_shift 99 = .ok (.iload_n 3, 1) := by decide +kernel
theorem dX10_shift_100 : decode cX10_shift 100 = .ok (.iaload, 1) := by decide +kernel
theorem dX10_shift_101 : decode cX10_shift 101 = .ok (.iload 5, 2) := by decide +kernel
theorem dX10_shift_103 : decode cX10_shift 103 = .ok (.isub, 1) := by decide +kernel
theorem dX10_shift_104 : decode cX10_shift 104 = .ok (.if_icmp .le 6, 3) := by decide +kernel
theorem dX10_shift_107 : decode cX10_shift 107 = .ok (.bipush (-13), 2) := by decide +kernel
theorem dX10_shift_109 : decode cX10_shift 109 = .ok (.ireturn, 1) := by decide +kernel
theorem dX10_shift_110 : decode cX10_shift 110 = .ok (.iconst 0, 1) := by decide +kernel
theorem dX10_shift_111 : decode cX10_shift 111 = .ok (.istore 6, 2) := by decide +kernel
theorem dX10_shift_113 : decode cX10_shift 113 = .ok (.iload 6, 2) := by decide +kernel
theorem dX10_shift_115 : decode cX10_shift 115 = .ok (.iload 5, 2) := by decide +kernel
theorem dX10_shift_117 : decode cX10_shift 117 = .ok (.if_icmp .ge 30, 3) := by decide +kernel
theorem dX10_shift_120 : decode cX10_shift 120 = .ok (.aload_n 0, 1) := by decide +kernel
theorem dX10_shift_121 : decode cX10_shift 121 = .ok (.getfield 93, 3) := by decide +kernel
theorem dX10_shift_124 : decode cX10_shift 124 = .ok (.iload 6, 2) := by decide +kernel
theorem dX10_shift_126 : decode cX10_shift 126 = .ok (.aload_n 0, 1) := by decide +kernel
theorem dX10_shift_127 : decode cX10_shift 127 = .ok (.getfield 89, 3) := by decide +kernel
theorem dX10_shift_130 : decode cX10_shift 130 = .ok (.bipush 60, 2) := by decide +kernel
theorem dX10_shift_132 : decode cX10_shift 132 = .ok (.iload_n 1, 1) := by decide +kernel
theorem dX10_shift_133 : decode cX10_shift 133 = .ok (.imul, 1) := by decide +kernel
theorem dX10_shift_134 : decode cX10_shift 134 = .ok (.iload_n 2, 1) := by decide +kernel
theorem dX10_shift_135 : decode cX10_shift 135 = .ok (.iadd, 1) := by decide +kernel
theorem dX10_shift_136 : decode cX10_shift 136 = .ok (.iload 6, 2) := by decide +kernel
theorem dX10_shift_138 : decode cX10_shift 138 = .ok (.iadd, 1) := by decide +kernel
theorem dX10_shift_139 : decode cX10_shift 139 = .ok (.laload, 1) := by decide +kernel
theorem dX10_shift_140 : decode cX10_shift 140 = .ok (.lastore, 1) := by decide +kernel
theorem dX10_shift_141 : decode cX10_shift 141 = .ok (.iinc 6 1, 3) := by decide +kernel
theorem dX10_shift_144 : decode cX10_shift 144 = .ok (.goto (-31), 3) := by decide +kernel
theorem dX10_shift_147 : decode cX10_shift 147 = .ok (.iconst 0, 1) := by decide +kernel
theorem dX10_shift_148 : decode cX10_shift 148 = .ok (.istore 6, 2) := by decide +kernel
theorem dX10_shift_150 : decode cX10_shift 150 = .ok (.iload 6, 2) := by decide +kernel
theorem dX10_shift_152 : decode cX10_shift 152 = .ok (.iload 5, 2) := by decide +kernel
theorem dX10_shift_154 : decode cX10_shift 154 = .ok (.if_icmp .ge 31, 3) := by decide +kernel
theorem dX10_shift_157 : decode cX10_shift 157 = .ok (.aload_n 0, 1) := by decide +kernel
theorem dX10_shift_158 : decode cX10_shift 158 = .ok (.getfield 89, 3) := by decide +kernel
theorem dX10_shift_161 : decode cX10_shift 161 = .ok (.bipush 60, 2) := by decide +kernel
theorem dX10_shift_163 : decode cX10_shift 163 = .ok (.iload_n 3, 1) := by decide +kernel
theorem dX10_shift_164 : decode cX10_shift 164 = .ok (.imul, 1) := by decide +kernel
theorem dX10_shift_165 : decode cX10_shift 165 = .ok (.iload 4, 2) := by decide +kernel
theorem dX10_shift_167 : decode cX10_shift 167 = .ok (.iadd, 1) := by decide +kernel
theorem dX10_shift_168 : decode cX10_shift 168 = .ok (.iload 6, 2) := by decide +kernel
theorem dX10_shift_170 : decode cX10_shift 170 = .ok (.iadd, 1) := by decide +kernel
theorem dX10_shift_171 : decode cX10_shift 171 = .ok (.aload_n 0, 1) := by decide +kernel
theorem dX10_shift_172 : decode cX10_shift 172 = .ok (.getfield 93, 3) := by decide +kernel
theorem dX10_shift_175 : decode cX10_shift 175 = .ok (.iload 6, 2) := by decide +kernel
theorem dX10_shift_177 : decode cX10_shift 177 = .ok (.laload, 1) := by decide +kernel
theorem dX10_shift_178 : decode cX10_shift 178 = .ok (.lastore, 1) := by decide +kernel
theorem dX10_shift_179 : decode cX10_shift 179 = .ok (.iinc 6 1, 3) := by decide +kernel
theorem dX10_shift_182 : decode cX10_shift 182 = .ok (.goto (-32), 3) := by decide +kernel
theorem dX10_shift_185 : decode cX10_shift 185 = .ok (.iload 5, 2) := by decide +kernel
theorem dX10_shift_187 : decode cX10_shift 187 = .ok (.ireturn, 1) := by decide +kernel
theorem dX10_taken_0 : decode cX10_taken 0 = .ok (.iload_n 1, 1) := by decide +kernel
theorem dX10_taken_1 : decode cX10_taken 1 = .ok (.invokestatic 126, 3) := by decide +kernel
theorem dX10_taken_4 : decode cX10_taken 4 = .ok (.ifCond .eq 15, 3) := by decide +kernel
theorem dX10_taken_7 : decode cX10_taken 7 = .ok (.iload_n 2, 1) := by decide +kernel
theorem dX10_taken_8 : decode cX10_taken 8 = .ok (.i2l, 1) := by decide +kernel
theorem dX10_taken_9 : decode cX10_taken 9 = .ok (.lconst 0, 1) := by decide +kernel
theorem dX10_taken_10 : decode cX10_taken 10 = .ok (.ldc2_w 330, 3) := by decide +kernel
theorem dX10_taken_13 : decode cX10_taken 13 = .ok (.invokestatic 105, 3) := by decide +kernel
theorem dX10_taken_16 : decode cX10_taken 16 = .ok (.ifCond .ne 5, 3) := by decide +kernel
theorem dX10_taken_19 : decode cX10_taken 19 = .ok (.iconst (-1), 1) := by decide +kernel
theorem dX10_taken_20 : decode cX10_taken 20 = .ok (.ireturn, 1) := by decide +kernel
theorem dX10_taken_21 : decode cX10_taken 21 = .ok (.aload_n 0, 1) := by decide +kernel
theorem dX10_taken_22 : decode cX10_taken 22 = .ok (.getfield 83, 3) := by decide +kernel
theorem dX10_taken_25 : decode cX10_taken 25 = .ok (.iload_n 1, 1) := by decide +kernel
theorem dX10_taken_26 : decode cX10_taken 26 = .ok (.iaload, 1) := by decide +kernel
theorem dX10_taken_27 : decode cX10_taken 27 = .ok (.ifCond .ge 6, 3) := by decide +kernel
theorem dX10_taken_30 : decode cX10_taken 30 = .ok (.bipush (-11), 2) := by decide +kernel
theorem dX10_taken_32 : decode cX10_taken 32 = .ok (.ireturn, 1) := by decide +kernel
theorem dX10_taken_33 : decode cX10_taken 33 = .ok (.aload_n 0, 1) := by decide +kernel
theorem dX10_taken_34 : decode cX10_taken 34 = .ok (.getfield 83, 3) := by decide +kernel
theorem dX10_taken_37 : decode cX10_taken 37 = .ok (.iload_n 1, 1) := by decide +kernel
theorem dX10_taken_38 : decode cX10_taken 38 = .ok (.iaload, 1) := by decide +kernel
theorem dX10_taken_39 : decode cX10_taken 39 = .ok (.bipush 50, 2) := by decide +kernel
theorem dX10_taken_41 : decode cX10_taken 41 = .ok (.if_icmp .lt 6, 3) := by decide +kernel
theorem dX10_taken_44 : decode cX10_taken 44 = .ok (.bipush (-12), 2) := by decide +kernel
theorem dX10_taken_46 : decode cX10_taken 46 = .ok (.ireturn, 1) := by decide +kernel
theorem dX10_taken_47 : decode cX10_taken 47 = .ok (.aload_n 0, 1) := by decide +kernel
theorem dX10_taken_48 : decode cX10_taken 48 = .ok (.aload_n 0, 1) := by decide +kernel
theorem dX10_taken_49 : decode cX10_taken 49 = .ok (.getfield 83, 3) := by decide +kernel
theorem dX10_taken_52 : decode cX10_taken 52 = .ok (.iload_n 1, 1) := by decide +kernel
theorem dX10_taken_53 : decode cX10_taken 53 = .ok (.iaload, 1) := by decide +kernel
theorem dX10_taken_54 : decode cX10_taken 54 = .ok (.invokevirtual 372, 3) := by decide +kernel
theorem dX10_taken_57 : decode cX10_taken 57 = .ok (.istore_n 3, 1) := by decide +kernel
theorem dX10_taken_58 : decode cX10_taken 58 = .ok (.iload_n 3, 1) := by decide +kernel
theorem dX10_taken_59 : decode cX10_taken 59 = .ok (.iload_n 2, 1) := by decide +kernel
theorem dX10_taken_60 : decode cX10_taken 60 = .ok (.if_icmp .eq 15, 3) := by decide +kernel
theorem dX10_taken_63 : decode cX10_taken 63 = .ok (.iload_n 3, 1) := by decide +kernel
theorem dX10_taken_64 : decode cX10_taken 64 = .ok (.ifCond .le 11, 3) := by decide +kernel
theorem dX10_taken_67 : decode cX10_taken 67 = .ok (.iload_n 3, 1) := by decide +kernel
theorem dX10_taken_68 : decode cX10_taken 68 = .ok (.invokestatic 375, 3) := by decide +kernel
theorem dX10_taken_71 : decode cX10_taken 71 = .ok (.istore_n 3, 1) := by decide +kernel
theorem dX10_taken_72 : decode cX10_taken 72 = .ok (.goto (-14), 3) := by decide +kernel
theorem dX10_taken_75 : decode cX10_taken 75 = .ok (.iload_n 3, 1) := by decide +kernel
theorem dX10_taken_76 : decode cX10_taken 76 = .ok (.iload_n 2, 1) := by decide +kernel
theorem dX10_taken_77 : decode cX10_taken 77 = .ok (.if_icmp .ne 16, 3) := by decide +kernel
theorem dX10_taken_80 : decode cX10_taken 80 = .ok (.aload_n 0, 1) := by decide +kernel
theorem dX10_taken_81 : decode cX10_taken 81 = .ok (.aload_n 0, 1) := by decide +kernel
theorem dX10_taken_82 : decode cX10_taken 82 = .ok (.getfield 83, 3) := by decide +kernel
theorem dX10_taken_85 : decode cX10_taken 85 = .ok (.iload_n 1, 1) := by decide +kernel
theorem dX10_taken_86 : decode cX10_taken 86 = .ok (.iaload, 1) := by decide +kernel
theorem dX10_taken_87 : decode cX10_taken 87 = .ok (.invokevirtual 372, 3) := by decide +kernel
theorem dX10_taken_90 : decode cX10_taken 90 = .ok (.goto 5, 3) := by decide +kernel
theorem dX10_taken_93 : decode cX10_taken 93 = .ok (.bipush (-12), 2) := by decide +kernel
theorem dX10_taken_95 : decode cX10_taken 95 = .ok (.ireturn, 1) := by decide +kernel
theorem dX10_count_0 : decode cX10_count 0 = .ok (.iload_n 1, 1) := by decide +kernel
theorem dX10_count_1 : decode cX10_count 1 = .ok (.tableswitch 78 0 6 #[43, 48, 53, 58, 63, 68, 73], 43) := by decide +kernel
theorem dX10_count_44 : decode cX10_count 44 = .ok (.aload_n 0, 1) := by decide +kernel
theorem dX10_count_45 : decode cX10_count 45 = .ok (.getfield 102, 3) := by decide +kernel
theorem dX10_count_48 : decode cX10_count 48 = .ok (.ireturn, 1) := by decide +kernel
theorem dX10_count_49 : decode cX10_count 49 = .ok (.aload_n 0, 1) := by decide +kernel
theorem dX10_count_50 : decode cX10_count 50 = .ok (.getfield 109, 3) := by decide +kernel
theorem dX10_count_53 : decode cX10_count 53 = .ok (.ireturn, 1) := by decide +kernel
theorem dX10_count_54 : decode cX10_count 54 = .ok (.aload_n 0, 1) := by decide +kernel
theorem dX10_count_55 : decode cX10_count 55 = .ok (.getfield 141, 3) := by decide +kernel
theorem dX10_count_58 : decode cX10_count 58 = .ok (.ireturn, 1) := by decide +kernel
theorem dX10_count_59 : decode cX10_count 59 = .ok (.aload_n 0, 1) := by decide +kernel
theorem dX10_count_60 : decode cX10_count 60 = .ok (.getfield 158, 3) := by decide +kernel
theorem dX10_count_63 : decode cX10_count 63 = .ok (.ireturn, 1) := by decide +kernel
theorem dX10_count_64 : decode cX10_count 64 = .ok (.aload_n 0, 1) := by decide +kernel
theorem dX10_count_65 : decode cX10_count 65 = .ok (.getfield 96, 3) := by decide +kernel
theorem dX10_count_68 : decode cX10_count 68 = .ok (.ireturn, 1) := by decide +kernel
theorem dX10_count_69 : decode cX10_count 69 = .ok (.aload_n 0, 1) := by decide +kernel
theorem dX10_count_70 : decode cX10_count 70 = .ok (.getfield 327, 3) := by decide +kernel
theorem dX10_count_73 : decode cX10_count 73 = .ok (.ireturn, 1) := by decide +kernel
theorem dX10_count_74 : decode cX10_count 74 = .ok (.aload_n 0, 1) := by decide +kernel
theorem dX10_count_75 : decode cX10_count 75 = .ok (.getfield 332, 3) := by decide +kernel
theorem dX10_count_78 : decode cX10_count 78 = .ok (.ireturn, 1) := by decide +kernel
theorem dX10_count_79 : decode cX10_count 79 = .ok (.iconst (-1), 1) := by decide +kernel
theorem dX10_count_80 : decode cX10_count 80 = .ok (.ireturn, 1) := by decide +kernel
