theorem dX10_layWords_68 : decode cX10_layWords 68 = .ok (.iconst 4, 1) := by decide +kernel
theorem dX10_layWords_69 : decode cX10_layWords 69 = .ok (.invokevirtual 280, 3) := by decide +kernel
theorem dX10_layWords_72 : decode cX10_layWords 72 = .ok (.aload_n 0, 1) := by decide +kernel
theorem dX10_layWords_73 : decode cX10_layWords 73 = .ok (.aload_n 0, 1) := by decide +kernel
theorem dX10_layWords_74 : decode cX10_layWords 74 = .ok (.getfield 94, 3) := by decide +kernel
theorem dX10_layWords_77 : decode cX10_layWords 77 = .ok (.aload_n 0, 1) := by decide +kernel
theorem dX10_layWords_78 : decode cX10_layWords 78 = .ok (.getfield 91, 3) := by decide +kernel
theorem dX10_layWords_81 : decode cX10_layWords 81 = .ok (.if_icmp .ge 7, 3) := by decide +kernel
theorem dX10_layWords_84 : decode cX10_layWords 84 = .ok (.lconst 1, 1) := by decide +kernel
theorem dX10_layWords_85 : decode cX10_layWords 85 = .ok (.goto 4, 3) := by decide +kernel
theorem dX10_layWords_88 : decode cX10_layWords 88 = .ok (.lconst 0, 1) := by decide +kernel
theorem dX10_layWords_89 : decode cX10_layWords 89 = .ok (.iconst 1, 1) := by decide +kernel
theorem dX10_layWords_90 : decode cX10_layWords 90 = .ok (.invokevirtual 280, 3) := by decide +kernel
theorem dX10_layWords_93 : decode cX10_layWords 93 = .ok (.aload_n 0, 1) := by decide +kernel
theorem dX10_layWords_94 : decode cX10_layWords 94 = .ok (.iload_n 1, 1) := by decide +kernel
theorem dX10_layWords_95 : decode cX10_layWords 95 = .ok (.iload_n 2, 1) := by decide +kernel
theorem dX10_layWords_96 : decode cX10_layWords 96 = .ok (.invokevirtual 80, 3) := by decide +kernel
theorem dX10_layWords_99 : decode cX10_layWords 99 = .ok (.istore 6, 2) := by decide +kernel
theorem dX10_layWords_101 : decode cX10_layWords 101 = .ok (.iload 6, 2) := by decide +kernel
theorem dX10_layWords_103 : decode cX10_layWords 103 = .ok (.istore 7, 2) := by decide +kernel
theorem dX10_layWords_105 : decode cX10_layWords 105 = .ok (.iload 7, 2) := by decide +kernel
theorem dX10_layWords_107 : decode cX10_layWords 107 = .ok (.iload 6, 2) := by decide +kernel
theorem dX10_layWords_109 : decode cX10_layWords 109 = .ok (.aload_n 0, 1) := by decide +kernel
theorem dX10_layWords_110 : decode cX10_layWords 110 = .ok (.getfield 91, 3) := by decide +kernel
theorem dX10_layWords_113 : decode cX10_layWords 113 = .ok (.iadd, 1) := by decide +kernel
theorem dX10_layWords_114 : decode cX10_layWords 114 = .ok (.if_icmp .ge 40, 3) := by decide +kernel
theorem dX10_layWords_117 : decode cX10_layWords 117 = .ok (.aload_n 0, 1) := by decide +kernel
theorem dX10_layWords_118 : decode cX10_layWords 118 = .ok (.getfield 94, 3) := by decide +kernel
theorem dX10_layWords_121 : decode cX10_layWords 121 = .ok (.aload_n 0, 1) := by decide +kernel
theorem dX10_layWords_122 : decode cX10_layWords 122 = .ok (.getfield 91, 3) := by decide +kernel
theorem dX10_layWords_125 : decode cX10_layWords 125 = .ok (.if_icmp .ge 29, 3) := by decide +kernel
theorem dX10_layWords_128 : decode cX10_layWords 128 = .ok (.aload_n 0, 1) := by decide +kernel
theorem dX10_layWords_129 : decode cX10_layWords 129 = .ok (.aload_n 0, 1) := by decide +kernel
theorem dX10_layWords_130 : decode cX10_layWords 130 = .ok (.iload_n 1, 1) := by decide +kernel
theorem dX10_layWords_131 : decode cX10_layWords 131 = .ok (.iload 7, 2) := by decide +kernel
theorem dX10_layWords_133 : decode cX10_layWords 133 = .ok (.invokevirtual 97, 3) := by decide +kernel
theorem dX10_layWords_136 : decode cX10_layWords 136 = .ok (.ifCond .eq 7, 3) := by decide +kernel
theorem dX10_layWords_139 : decode cX10_layWords 139 = .ok (.lconst 1, 1) := by decide +kernel
theorem dX10_layWords_140 : decode cX10_layWords 140 = .ok (.goto 4, 3) := by decide +kernel
theorem dX10_layWords_143 : decode cX10_layWords 143 = .ok (.lconst 0, 1) := by decide +kernel
theorem dX10_layWords_144 : decode cX10_layWords 144 = .ok (.iconst 1, 1) := by decide +kernel
theorem dX10_layWords_145 : decode cX10_layWords 145 = .ok (.invokevirtual 280, 3) := by decide +kernel
theorem dX10_layWords_148 : decode cX10_layWords 148 = .ok (.iinc 7 1, 3) := by decide +kernel
theorem dX10_layWords_151 : decode cX10_layWords 151 = .ok (.goto (-46), 3) := by decide +kernel
theorem dX10_layWords_154 : decode cX10_layWords 154 = .ok (.aload_n 0, 1) := by decide +kernel
theorem dX10_layWords_155 : decode cX10_layWords 155 = .ok (.iload_n 3, 1) := by decide +kernel
theorem dX10_layWords_156 : decode cX10_layWords 156 = .ok (.i2l, 1) := by decide +kernel
theorem dX10_layWords_157 : decode cX10_layWords 157 = .ok (.iconst 2, 1) := by decide +kernel
theorem dX10_layWords_158 : decode cX10_layWords 158 = .ok (.invokevirtual 280, 3) := by decide +kernel
theorem dX10_layWords_161 : decode cX10_layWords 161 = .ok (.aload_n 0, 1) := by decide +kernel
theorem dX10_layWords_162 : decode cX10_layWords 162 = .ok (.iload 4, 2) := by decide +kernel
theorem dX10_layWords_164 : decode cX10_layWords 164 = .ok (.i2l, 1) := by decide +kernel
theorem dX10_layWords_165 : decode cX10_layWords 165 = .ok (.bipush 6, 2) := by decide +kernel
theorem dX10_layWords_167 : decode cX10_layWords 167 = .ok (.invokevirtual 280, 3) := by decide +kernel
theorem dX10_layWords_170 : decode cX10_layWords 170 = .ok (.aload_n 0, 1) := by decide +kernel
theorem dX10_layWords_171 : decode cX10_layWords 171 = .ok (.aload_n 0, 1) := by decide +kernel
theorem dX10_layWords_172 : decode cX10_layWords 172 = .ok (.iload 4, 2) := by decide +kernel
theorem dX10_layWords_174 : decode cX10_layWords 174 = .ok (.invokevirtual 132, 3) := by decide +kernel
theorem dX10_layWords_177 : decode cX10_layWords 177 = .ok (.i2l, 1) := by decide +kernel
theorem dX10_layWords_178 : decode cX10_layWords 178 = .ok (.iconst 4, 1) := by decide +kernel
theorem dX10_layWords_179 : decode cX10_layWords 179 = .ok (.invokevirtual 280, 3) := by decide +kernel
theorem dX10_layWords_182 : decode cX10_layWords 182 = .ok (.aload_n 0, 1) := by decide +kernel
theorem dX10_layWords_183 : decode cX10_layWords 183 = .ok (.iload 5, 2) := by decide +kernel
theorem dX10_layWords_185 : decode cX10_layWords 185 = .ok (.i2l, 1) := by decide +kernel
theorem dX10_layWords_186 : decode cX10_layWords 186 = .ok (.bipush 32, 2) := by decide +kernel
theorem dX10_layWords_188 : decode cX10_layWords 188 = .ok (.invokevirtual 280, 3) := by decide +kernel
theorem dX10_layWords_191 : decode cX10_layWords 191 = .ok (.iload_n 3, 1) := by decide +kernel
theorem dX10_layWords_192 : decode cX10_layWords 192 = .ok (.iconst 2, 1) := by decide +kernel
theorem dX10_layWords_193 : decode cX10_layWords 193 = .ok (.if_icmp .ne 14, 3) := by decide +kernel
theorem dX10_layWords_196 : decode cX10_layWords 196 = .ok (.aload_n 0, 1) := by decide +kernel
theorem dX10_layWords_197 : decode cX10_layWords 197 = .ok (.aload_n 0, 1) := by decide +kernel
theorem dX10_layWords_198 : decode cX10_layWords 198 = .ok (.getfield 123, 3) := by decide +kernel
theorem dX10_layWords_201 : decode cX10_layWords 201 = .ok (.i2l, 1) := by decide +kernel
theorem dX10_layWords_202 : decode cX10_layWords 202 = .ok (.bipush 32, 2) := by decide +kernel
theorem dX10_layWords_204 : decode cX10_layWords 204 = .ok (.invokevirtual 280, 3) := by decide +kernel
theorem dX10_layWords_207 : decode cX10_layWords 207 = .ok (.iconst 0, 1) := by decide +kernel
theorem dX10_layWords_208 : decode cX10_layWords 208 = .ok (.istore 7, 2) := by decide +kernel
theorem dX10_layWords_210 : decode cX10_layWords 210 = .ok (.iload 7, 2) := by decide +kernel
theorem dX10_layWords_212 : decode cX10_layWords 212 = .ok (.aload_n 0, 1) := by decide +kernel
theorem dX10_layWords_213 : decode cX10_layWords 213 = .ok (.getfield 112, 3) := by decide +kernel
theorem dX10_layWords_216 : decode cX10_layWords 216 = .ok (.if_icmp .ge 22, 3) := by decide +kernel
theorem dX10_layWords_219 : decode cX10_layWords 219 = .ok (.aload_n 0, 1) := by decide +kernel
theorem dX10_layWords_220 : decode cX10_layWords 220 = .ok (.aload_n 0, 1) := by decide +kernel
theorem dX10_layWords_221 : decode cX10_layWords 221 = .ok (.getfield 19, 3) := by decide +kernel
theorem dX10_layWords_224 : decode cX10_layWords 224 = .ok (.iload 7, 2) := by decide +kernel
theorem dX10_layWords_226 : decode cX10_layWords 226 = .ok (.laload, 1) := by decide +kernel
theorem dX10_layWords_227 : decode cX10_layWords 227 = .ok (.iload 4, 2) := by decide +kernel
theorem dX10_layWords_229 : decode cX10_layWords 229 = .ok (.invokevirtual 280, 3) := by decide +kernel
theorem dX10_layWords_232 : decode cX10_layWords 232 = .ok (.iinc 7 1, 3) := by decide +kernel
theorem dX10_layWords_235 : decode cX10_layWords 235 = .ok (.goto (-25), 3) := by decide +kernel
theorem dX10_layWords_238 : decode cX10_layWords 238 = .ok (.iconst 0, 1) := by decide +kernel
theorem dX10_layWords_239 : decode cX10_layWords 239 = .ok (.istore 7, 2) := by decide +kernel
theorem dX10_layWords_241 : decode cX10_layWords 241 = .ok (.iload 7, 2) := by decide +kernel
theorem dX10_layWords_243 : decode cX10_layWords 243 = .ok (.aload_n 0, 1) := by decide +kernel
theorem dX10_layWords_244 : decode cX10_layWords 244 = .ok (.getfield 112, 3) := by decide +kernel
theorem dX10_layWords_247 : decode cX10_layWords 247 = .ok (.if_icmp .ge 54, 3) := by decide +kernel
theorem dX10_layWords_250 : decode cX10_layWords 250 = .ok (.aload_n 0, 1) := by decide +kernel
theorem dX10_layWords_251 : decode cX10_layWords 251 = .ok (.getfield 19, 3) := by decide +kernel
theorem dX10_layWords_254 : decode cX10_layWords 254 = .ok (.iload 7, 2) := by decide +kernel
theorem dX10_layWords_256 : decode cX10_layWords 256 = .ok (.laload, 1) := by decide +kernel
theorem dX10_layWords_257 : decode cX10_layWords 257 = .ok (.invokestatic 128, 3) := by decide +kernel
theorem dX10_layWords_260 : decode cX10_layWords 260 = .ok (.iload 4, 2) := by decide +kernel
theorem dX10_layWords_262 : decode cX10_layWords 262 = .ok (.if_icmp .gt 6, 3) := by decide +kernel
theorem dX10_layWords_265 : decode cX10_layWords 265 = .ok (.goto 30, 3) := by decide +kernel
theorem dX10_layWords_268 : decode cX10_layWords 268 = .ok (.aload_n 0, 1) := by decide +kernel
theorem dX10_layWords_269 : decode cX10_layWords 269 = .ok (.iload 7, 2) := by decide +kernel
theorem dX10_layWords_271 : decode cX10_layWords 271 = .ok (.i2l, 1) := by decide +kernel
theorem dX10_layWords_272 : decode cX10_layWords 272 = .ok (.iconst 4, 1) := by decide +kernel
theorem dX10_layWords_273 : decode cX10_layWords 273 = .ok (.invokevirtual 280, 3) := by decide +kernel
theorem dX10_layWords_276 : decode cX10_layWords 276 = .ok (.aload_n 0, 1) := by decide +kernel
theorem dX10_layWords_277 : decode cX10_layWords 277 = .ok (.aload_n 0, 1) := by decide +kernel
theorem dX10_layWords_278 : decode cX10_layWords 278 = .ok (.getfield 19, 3) := by decide +kernel
theorem dX10_layWords_281 : decode cX10_layWords 281 = .ok (.iload 7, 2) := by decide +kernel
theorem dX10_layWords_283 : decode cX10_layWords 283 = .ok (.laload, 1) := by decide +kernel
theorem dX10_layWords_284 : decode cX10_layWords 284 = .ok (.iload 4, 2) := by decide +kernel
theorem dX10_layWords_286 : decode cX10_layWords 286 = .ok (.lshr, 1) := by decide +kernel
theorem dX10_layWords_287 : decode cX10_layWords 287 = .ok (.bipush 32, 2) := by decide +kernel
theorem dX10_layWords_289 : decode cX10_layWords 289 = .ok (.iload 4, 2) := by decide +kernel
theorem dX10_layWords_291 : decode cX10_layWords 291 = .ok (.isub, 1) := by decide +kernel
theorem dX10_layWords_292 : decode cX10_layWords 292 = .ok (.invokevirtual 280, 3) := by decide +kernel
theorem dX10_layWords_295 : decode cX10_layWords 295 = .ok (.iinc 7 1, 3) := by decide +kernel
theorem dX10_layWords_298 : decode cX10_layWords 298 = .ok (.goto (-57), 3) := by decide +kernel
theorem dX10_layWords_301 : decode cX10_layWords 301 = .ok (.aload_n 0, 1) := by decide +kernel
theorem dX10_layWords_302 : decode cX10_layWords 302 = .ok (.getfield 274, 3) := by decide +kernel
theorem dX10_layWords_305 : decode cX10_layWords 305 = .ok (.invokestatic 284, 3) := by decide +kernel
theorem dX10_layWords_308 : decode cX10_layWords 308 = .ok (.ireturn, 1) := by decide +kernel
theorem dX10_wordsBy_0 : decode cX10_wordsBy 0 = .ok (.iload_n 0, 1) := by decide +kernel
theorem dX10_wordsBy_1 : decode cX10_wordsBy 1 = .ok (.bipush 32, 2) := by decide +kernel
theorem dX10_wordsBy_3 : decode cX10_wordsBy 3 = .ok (.iadd, 1) := by decide +kernel
theorem dX10_wordsBy_4 : decode cX10_wordsBy 4 = .ok (.iconst 1, 1) := by decide +kernel
theorem dX10_wordsBy_5 : decode cX10_wordsBy 5 = .ok (.isub, 1) := by decide +kernel
theorem dX10_wordsBy_6 : decode cX10_wordsBy 6 = .ok (.bipush 32, 2) := by decide +kernel
theorem dX10_wordsBy_8 : decode cX10_wordsBy 8 = .ok (.idiv, 1) := by decide +kernel
theorem dX10_wordsBy_9 : decode cX10_wordsBy 9 = .ok (.ireturn, 1) := by decide +kernel
theorem dX10_word_0 : decode cX10_word 0 = .ok (.aload_n 0, 1) := by decide +kernel
theorem dX10_word_1 : decode cX10_word 1 = .ok (.getfield 287, 3) := by decide +kernel
theorem dX10_word_4 : decode cX10_word 4 = .ok (.sipush 400, 3) := by decide +kernel
theorem dX10_word_7 : decode cX10_word 7 = .ok (.if_icmp .ne 5, 3) := by decide +kernel
theorem dX10_word_10 : decode cX10_word 10 = .ok (.iconst (-1), 1) := by decide +kernel
theorem dX10_word_11 : decode cX10_word 11 = .ok (.ireturn, 1) := by decide +kernel
theorem dX10_word_12 : decode cX10_word 12 = .ok (.aload_n 0, 1) := by decide +kernel
theorem dX10_word_13 : decode cX10_word 13 = .ok (.getfield 45, 3) := by decide +kernel
theorem dX10_word_16 : decode cX10_word 16 = .ok (.aload_n 0, 1) := by decide +kernel
theorem dX10_word_17 : decode cX10_word 17 = .ok (.getfield 287, 3) := by decide +kernel
theorem dX10_word_20 : decode cX10_word 20 = .ok (.iload_n 1, 1) := by decide +kernel
theorem dX10_word_21 : decode cX10_word 21 = .ok (.iastore, 1) := by decide +kernel
theorem dX10_word_22 : decode cX10_word 22 = .ok (.aload_n 0, 1) := by decide +kernel
theorem dX10_word_23 : decode cX10_word 23 = .ok (.dup, 1) := by decide +kernel
theorem dX10_word_24 : decode cX10_word 24 = .ok (.getfield 287, 3) := by decide +kernel
theorem dX10_word_27 : decode cX10_word 27 = .ok (.iconst 1, 1) := by decide +kernel
theorem dX10_word_28 : decode cX10_word 28 = .ok (.iadd, 1) := by decide +kernel
theorem dX10_word_29 : decode cX10_word 29 = .ok (.putfield 287, 3) := by decide +kernel
theorem dX10_word_32 : decode cX10_word 32 = .ok (.aload_n 0, 1) := by decide +kernel
theorem dX10_word_33 : decode cX10_word 33 = .ok (.getfield 287, 3) := by decide +kernel
theorem dX10_word_36 : decode cX10_word 36 = .ok (.ireturn, 1) := by decide +kernel
theorem dX10_end_0 : decode cX10_end 0 = .ok (.iload_n 1, 1) := by decide +kernel
theorem dX10_end_1 : decode cX10_end 1 = .ok (.iconst 0, 1) := by decide +kernel
theorem dX10_end_2 : decode cX10_end 2 = .ok (.aload_n 0, 1) := by decide +kernel
theorem dX10_end_3 : decode cX10_end 3 = .ok (.getfield 287, 3) := by decide +kernel
theorem dX10_end_6 : decode cX10_end 6 = .ok (.invokestatic 65, 3) := by decide +kernel
theorem dX10_end_9 : decode cX10_end 9 = .ok (.ifCond .ne 5, 3) := by decide +kernel
theorem dX10_end_12 : decode cX10_end 12 = .ok (.iconst 0, 1) := by decide +kernel
theorem dX10_end_13 : decode cX10_end 13 = .ok (.ireturn, 1) := by decide +kernel
theorem dX10_end_14 : decode cX10_end 14 = .ok (.aload_n 0, 1) := by decide +kernel
theorem dX10_end_15 : decode cX10_end 15 = .ok (.iload_n 1, 1) := by decide +kernel
theorem dX10_end_16 : decode cX10_end 16 = .ok (.putfield 287, 3) := by decide +kernel
theorem dX10_end_19 : decode cX10_end 19 = .ok (.iconst 1, 1) := by decide +kernel
theorem dX10_end_20 : decode cX10_end 20 = .ok (.ireturn, 1) := by decide +kernel
theorem dX10_tape_0 : decode cX10_tape 0 = .ok (.iload_n 1, 1) := by decide +kernel
theorem dX10_tape_1 : decode cX10_tape 1 = .ok (.iconst 0, 1) := by decide +kernel
theorem dX10_tape_2 : decode cX10_tape 2 = .ok (.aload_n 0, 1) := by decide +kernel
theorem dX10_tape_3 : decode cX10_tape 3 = .ok (.getfield 287, 3) := by decide +kernel
theorem dX10_tape_6 : decode cX10_tape 6 = .ok (.iconst 1, 1) := by decide +kernel
theorem dX10_tape_7 : decode cX10_tape 7 = .ok (.isub, 1) := by decide +kernel
theorem dX10_tape_8 : decode cX10_tape 8 = .ok (.invokestatic 65, 3) := by decide +kernel
theorem dX10_tape_11 : decode cX10_tape 11 = .ok (.ifCond .eq 12, 3) := by decide +kernel
theorem dX10_tape_14 : decode cX10_tape 14 = .ok (.aload_n 0, 1) := by decide +kernel
theorem dX10_tape_15 : decode cX10_tape 15 = .ok (.getfield 45, 3) := by decide +kernel
theorem dX10_tape_18 : decode cX10_tape 18 = .ok (.iload_n 1, 1) := by decide +kernel
theorem dX10_tape_19 : decode cX10_tape 19 = .ok (.iaload, 1) := by decide +kernel
theorem dX10_tape_20 : decode cX10_tape 20 = .ok (.goto 4, 3) := by decide +kernel
theorem dX10_tape_23 : decode cX10_tape 23 = .ok (.iconst 0, 1) := by decide +kernel
theorem dX10_tape_24 : decode cX10_tape 24 = .ok (.ireturn, 1) := by decide +kernel
theorem dX10_save_0 : decode cX10_save 0 = .ok (.iload_n 1, 1) := by decide +kernel
theorem dX10_save_1 : decode cX10_save 1 = .ok (.invokestatic 84, 3) := by decide +kernel
theorem dX10_save_4 : decode cX10_save 4 = .ok (.ifCond .ne 5, 3) := by decide +kernel
theorem dX10_save_7 : decode cX10_save 7 = .ok (.iconst (-1), 1) := by decide +kernel
theorem dX10_save_8 : decode cX10_save 8 = .ok (.ireturn, 1) := by decide +kernel
theorem dX10_save_9 : decode cX10_save 9 = .ok (.aload_n 0, 1) := by decide +kernel
theorem dX10_save_10 : decode cX10_save 10 = .ok (.iconst 0, 1) := by decide +kernel
theorem dX10_save_11 : decode cX10_save 11 = .ok (.putfield 287, 3) := by decide +kernel
theorem dX10_save_14 : decode cX10_save 14 = .ok (.iconst 0, 1) := by decide +kernel
theorem dX10_save_15 : decode cX10_save 15 = .ok (.istore_n 2, 1) := by decide +kernel
theorem dX10_save_16 : decode cX10_save 16 = .ok (.iload_n 2, 1) := by decide +kernel
theorem dX10_save_17 : decode cX10_save 17 = .ok (.aload_n 0, 1) := by decide +kernel
theorem dX10_save_18 : decode cX10_save 18 = .ok (.iload_n 1, 1) := by decide +kernel
theorem dX10_save_19 : decode cX10_save 19 = .ok (.invokevirtual 77, 3) := by decide +kernel
theorem dX10_save_22 : decode cX10_save 22 = .ok (.if_icmp .ge 57, 3) := by decide +kernel
theorem dX10_save_25 : decode cX10_save 25 = .ok (.aload_n 0, 1) := by decide +kernel
theorem dX10_save_26 : decode cX10_save 26 = .ok (.iload_n 1, 1) := by decide +kernel
theorem dX10_save_27 : decode cX10_save 27 = .ok (.iload_n 2, 1) := by decide +kernel
theorem dX10_save_28 : decode cX10_save 28 = .ok (.invokevirtual 290, 3) := by decide +kernel
theorem dX10_save_31 : decode cX10_save 31 = .ok (.istore_n 3, 1) := by decide +kernel
theorem dX10_save_32 : decode cX10_save 32 = .ok (.iconst 0, 1) := by decide +kernel
theorem dX10_save_33 : decode cX10_save 33 = .ok (.istore 4, 2) := by decide +kernel
theorem dX10_save_35 : decode cX10_save 35 = .ok (.iload 4, 2) := by decide +kernel
theorem dX10_save_37 : decode cX10_save 37 = .ok (.iload_n 3, 1) := by decide +kernel
theorem dX10_save_38 : decode cX10_save 38 = .ok (.if_icmp .ge 35, 3) := by decide +kernel
theorem dX10_save_41 : decode cX10_save 41 = .ok (.aload_n 0, 1) := by decide +kernel
theorem dX10_save_42 : decode cX10_save 42 = .ok (.getfield 45, 3) := by decide +kernel
theorem dX10_save_45 : decode cX10_save 45 = .ok (.aload_n 0, 1) := by decide +kernel
theorem dX10_save_46 : decode cX10_save 46 = .ok (.getfield 287, 3) := by decide +kernel
theorem dX10_save_49 : decode cX10_save 49 = .ok (.aload_n 0, 1) := by decide +kernel
theorem dX10_save_50 : decode cX10_save 50 = .ok (.getfield 42, 3) := by decide +kernel
theorem dX10_save_53 : decode cX10_save 53 = .ok (.iload 4, 2) := by decide +kernel
theorem dX10_save_55 : decode cX10_save 55 = .ok (.iaload, 1) := by decide +kernel
theorem dX10_save_56 : decode cX10_save 56 = .ok (.iastore, 1) := by decide +kernel
theorem dX10_save_57 : decode cX10_save 57 = .ok (.aload_n 0, 1) := by decide +kernel
theorem dX10_save_58 : decode cX10_save 58 = .ok (.dup, 1) := by decide +kernel
theorem dX10_save_59 : decode cX10_save 59 = .ok (.getfield 287, 3) := by decide +kernel
theorem dX10_save_62 : decode cX10_save 62 = .ok (.iconst 1, 1) := by decide +kernel
theorem dX10_save_63 : decode cX10_save 63 = .ok (.iadd, 1) := by decide +kernel
theorem dX10_save_64 : decode cX10_save 64 = .ok (.putfield 287, 3) := by decide +kernel
theorem dX10_save_67 : decode cX10_save 67 = .ok (.iinc 4 1, 3) := by decide +kernel
theorem dX10_save_70 : decode cX10_save 70 = .ok (.goto (-35), 3) := by decide +kernel
theorem dX10_save_73 : decode cX10_save 73 = .ok (.iinc 2 1, 3) := by decide +kernel
theorem dX10_save_76 : decode cX10_save 76 = .ok (.goto (-60), 3) := by decide +kernel
theorem dX10_save_79 : decode cX10_save 79 = .ok (.aload_n 0, 1) := by decide +kernel
theorem dX10_save_80 : decode cX10_save 80 = .ok (.getfield 287, 3) := by decide +kernel
theorem dX10_save_83 : decode cX10_save 83 = .ok (.ireturn, 1) := by decide +kernel
theorem dX10_wrong_0 : decode cX10_wrong 0 = .ok (.aload_n 0, 1) := by decide +kernel
theorem dX10_wrong_1 : decode cX10_wrong 1 = .ok (.iload_n 1, 1) := by decide +kernel
theorem dX10_wrong_2 : decode cX10_wrong 2 = .ok (.putfield 51, 3) := by decide +kernel
theorem dX10_wrong_5 : decode cX10_wrong 5 = .ok (.aload_n 0, 1) := by decide +kernel
theorem dX10_wrong_6 : decode cX10_wrong 6 = .ok (.iload_n 2, 1) := by decide +kernel
theorem dX10_wrong_7 : decode cX10_wrong 7 = .ok (.putfield 55, 3) := by decide +kernel
theorem dX10_wrong_10 : decode cX10_wrong 10 = .ok (.iconst 0, 1) := by decide +kernel
theorem dX10_wrong_11 : decode cX10_wrong 11 = .ok (.ireturn, 1) := by decide +kernel
theorem dX10_next_0 : decode cX10_next 0 = .ok (.aload_n 0, 1) := by decide +kernel
theorem dX10_next_1 : decode cX10_next 1 = .ok (.getfield 51, 3) := by decide +kernel
theorem dX10_next_4 : decode cX10_next 4 = .ok (.ifCond .eq 5, 3) := by decide +kernel
theorem dX10_next_7 : decode cX10_next 7 = .ok (.lconst 0, 1) := by decide +kernel
theorem dX10_next_8 : decode cX10_next 8 = .ok (.lreturn, 1) := by decide +kernel
theorem dX10_next_9 : decode cX10_next 9 = .ok (.aload_n 0, 1) := by decide +kernel
theorem dX10_next_10 : decode cX10_next 10 = .ok (.getfield 293, 3) := by decide +kernel
theorem dX10_next_13 : decode cX10_next 13 = .ok (.iload_n 1, 1) := by decide +kernel
theorem dX10_next_14 : decode cX10_next 14 = .ok (.iadd, 1) := by decide +kernel
theorem dX10_next_15 : decode cX10_next 15 = .ok (.bipush 32, 2) := by decide +kernel
theorem dX10_next_17 : decode cX10_next 17 = .ok (.aload_n 0, 1) := by decide +kernel
theorem dX10_next_18 : decode cX10_next 18 = .ok (.getfield 287, 3) := by decide +kernel
theorem dX10_next_21 : decode cX10_next 21 = .ok (.imul, 1) := by decide +kernel
theorem dX10_next_22 : decode cX10_next 22 = .ok (.if_icmp .le 15, 3) := by decide +kernel
theorem dX10_next_25 : decode cX10_next 25 = .ok (.aload_n 0, 1) := by decide +kernel
theorem dX10_next_26 : decode cX10_next 26 = .ok (.iconst 1, 1) := by decide +kernel
theorem dX10_next_27 : decode cX10_next 27 = .ok (.aload_n 0, 1) := by decide +kernel
theorem dX10_next_28 : decode cX10_next 28 = .ok (.getfield 293, 3) := by decide +kernel
theorem dX10_next_31 : decode cX10_next 31 = .ok (.invokevirtual 296, 3) := by decide +kernel
theorem dX10_next_34 : decode cX10_next 34 = .ok (.pop, 1) := by decide +kernel
theorem dX10_next_35 : decode cX10_next 35 = .ok (.lconst 0, 1) := by decide +kernel
theorem dX10_next_36 : decode cX10_next 36 = .ok (.lreturn, 1) := by decide +kernel
theorem dX10_next_37 : decode cX10_next 37 = .ok (.lconst 0, 1) := by decide +kernel
theorem dX10_next_38 : decode cX10_next 38 = .ok (.lstore_n 2, 1) := by decide +kernel
theorem dX10_next_39 : decode cX10_next 39 = .ok (.iconst 0, 1) := by decide +kernel
theorem dX10_next_40 : decode cX10_next 40 = .ok (.istore 4, 2) := by decide +kernel
theorem dX10_next_42 : decode cX10_next 42 = .ok (.iload 4, 2) := by decide +kernel
theorem dX10_next_44 : decode cX10_next 44 = .ok (.iload_n 1, 1) := by decide +kernel
theorem dX10_next_45 : decode cX10_next 45 = .ok (.if_icmp .ge 48, 3) := by decide +kernel
theorem dX10_next_48 : decode cX10_next 48 = .ok (.aload_n 0, 1) := by decide +kernel
theorem dX10_next_49 : decode cX10_next 49 = .ok (.getfield 45, 3) := by decide +kernel
theorem dX10_next_52 : decode cX10_next 52 = .ok (.aload_n 0, 1) := by decide +kernel
theorem dX10_next_53 : decode cX10_next 53 = .ok (.getfield 293, 3) := by decide +kernel
theorem dX10_next_56 : decode cX10_next 56 = .ok (.iload 4, 2) := by decide +kernel
theorem dX10_next_58 : decode cX10_next 58 = .ok (.iadd, 1) := by decide +kernel
theorem dX10_next_59 : decode cX10_next 59 = .ok (.bipush 32, 2) := by decide +kernel
theorem dX10_next_61 : decode cX10_next 61 = .ok (.idiv, 1) := by decide +kernel
theorem dX10_next_62 : decode cX10_next 62 = .ok (.iaload, 1) := by decide +kernel
theorem dX10_next_63 : decode cX10_next 63 = .ok (.aload_n 0, 1) := by decide +kernel
theorem dX10_next_64 : decode cX10_next 64 = .ok (.getfield 293, 3) := by decide +kernel
theorem dX10_next_67 : decode cX10_next 67 = .ok (.iload 4, 2) := by decide +kernel
theorem dX10_next_69 : decode cX10_next 69 = .ok (.iadd, 1) := by decide +kernel
theorem dX10_next_70 : decode cX10_next 70 = .ok (.bipush 32, 2) := by decide +kernel
theorem dX10_next_72 : decode cX10_next 72 = .ok (.irem, 1) := by decide +kernel
theorem dX10_next_73 : decode cX10_next 73 = .ok (.ishr, 1) := by decide +kernel
theorem dX10_next_74 : decode cX10_next 74 = .ok (.iconst 1, 1) := by decide +kernel
theorem dX10_next_75 : decode cX10_next 75 = .ok (.iand, 1) := by decide +kernel
theorem dX10_next_76 : decode cX10_next 76 = .ok (.iconst 1, 1) := by decide +kernel
theorem dX10_next_77 : decode cX10_next 77 = .ok (.if_icmp .ne 10, 3) := by decide +kernel
theorem dX10_next_80 : decode cX10_next 80 = .ok (.lload_n 2, 1) := by decide +kernel
theorem dX10_next_81 : decode cX10_next 81 = .ok (.lconst 1, 1) := by decide +kernel
theorem dX10_next_82 : decode cX10_next 82 = .ok (.iload 4, 2) := by decide +kernel
theorem dX10_next_84 : decode cX10_next 84 = .ok (.lshl, 1) := by decide +kernel
theorem dX10_next_85 : decode cX10_next 85 = .ok (.lor, 1) := by decide +kernel
theorem dX10_next_86 : decode cX10_next 86 = .ok (.lstore_n 2, 1) := by decide +kernel
theorem dX10_next_87 : decode cX10_next 87 = .ok (.iinc 4 1, 3) := by decide +kernel
theorem dX10_next_90 : decode cX10_next 90 = .ok (.goto (-48), 3) := by decide +kernel
theorem dX10_next_93 : decode cX10_next 93 = .ok (.aload_n 0, 1) := by decide +kernel
theorem dX10_next_94 : decode cX10_next 94 = .ok (.dup, 1) := by decide +kernel
theorem dX10_next_95 : decode cX10_next 95 = .ok (.getfield 293, 3) := by decide +kernel
theorem dX10_next_98 : decode cX10_next 98 = .ok (.iload_n 1, 1) := by decide +kernel
theorem dX10_next_99 : decode cX10_next 99 = .ok (.iadd, 1) := by decide +kernel
theorem dX10_next_100 : decode cX10_next 100 = .ok (.putfield 293, 3) := by decide +kernel
theorem dX10_next_103 : decode cX10_next 103 = .ok (.lload_n 2, 1) := by decide +kernel
theorem dX10_next_104 : decode cX10_next 104 = .ok (.lreturn, 1) := by decide +kernel
theorem dX10_isFine_0 : decode cX10_isFine 0 = .ok (.aload_n 0, 1) := by decide +kernel
theorem dX10_isFine_1 : decode cX10_isFine 1 = .ok (.getfield 51, 3) := by decide +kernel
theorem dX10_isFine_4 : decode cX10_isFine 4 = .ok (.ifCond .ne 7, 3) := by decide +kernel
theorem dX10_isFine_7 : decode cX10_isFine 7 = .ok (.iconst 1, 1) := by decide +kernel
theorem dX10_isFine_8 : decode cX10_isFine 8 = .ok (.goto 4, 3) := by decide +kernel
theorem dX10_isFine_11 : decode cX10_isFine 11 = .ok (.iconst 0, 1) := by decide +kernel
theorem dX10_isFine_12 : decode cX10_isFine 12 = .ok (.ireturn, 1) := by decide +kernel
theorem dX10_readsMask_0 : decode cX10_readsMask 0 = .ok (.aload_n 0, 1) := by decide +kernel
theorem dX10_readsMask_1 : decode cX10_readsMask 1 = .ok (.aload_n 0, 1) := by decide +kernel
theorem dX10_readsMask_2 : decode cX10_readsMask 2 = .ok (.getfield 299, 3) := by decide +kernel
theorem dX10_readsMask_5 : decode cX10_readsMask 5 = .ok (.putfield 302, 3) := by decide +kernel
theorem dX10_readsMask_8 : decode cX10_readsMask 8 = .ok (.iconst 0, 1) := by decide +kernel
theorem dX10_readsMask_9 : decode cX10_readsMask 9 = .ok (.istore_n 1, 1) := by decide +kernel
theorem dX10_readsMask_10 : decode cX10_readsMask 10 = .ok (.iload_n 1, 1) := by decide +kernel
theorem dX10_readsMask_11 : decode cX10_readsMask 11 = .ok (.aload_n 0, 1) := by decide +kernel
theorem dX10_readsMask_12 : decode cX10_readsMask 12 = .ok (.getfield 299, 3) := by decide +kernel
theorem dX10_readsMask_15 : decode cX10_readsMask 15 = .ok (.if_icmp .ge 25, 3) := by decide +kernel
theorem dX10_readsMask_18 : decode cX10_readsMask 18 = .ok (.aload_n 0, 1) := by decide +kernel
theorem dX10_readsMask_19 : decode cX10_readsMask 19 = .ok (.getfield 48, 3) := by decide +kernel
theorem dX10_readsMask_22 : decode cX10_readsMask 22 = .ok (.sipush 225, 3) := by decide +kernel
theorem dX10_readsMask_25 : decode cX10_readsMask 25 = .ok (.aload_n 0, 1) := by decide +kernel
theorem dX10_readsMask_26 : decode cX10_readsMask 26 = .ok (.getfield 305, 3) := by decide +kernel
theorem dX10_readsMask_29 : decode cX10_readsMask 29 = .ok (.iadd, 1) := by decide +kernel
theorem dX10_readsMask_30 : decode cX10_readsMask 30 = .ok (.iload_n 1, 1) := by decide +kernel
theorem dX10_readsMask_31 : decode cX10_readsMask 31 = .ok (.iadd, 1) := by decide +kernel
theorem dX10_readsMask_32 : decode cX10_readsMask 32 = .ok (.iconst 0, 1) := by decide +kernel
theorem dX10_readsMask_33 : decode cX10_readsMask 33 = .ok (.iastore, 1) := by decide +kernel
theorem dX10_readsMask_34 : decode cX10_readsMask 34 = .ok (.iinc 1 1, 3) := by decide +kernel
theorem dX10_readsMask_37 : decode cX10_readsMask 37 = .ok (.goto (-27), 3) := by decide +kernel
theorem dX10_readsMask_40 : decode cX10_readsMask 40 = .ok (.aload_n 0, 1) := by decide +kernel
theorem dX10_readsMask_41 : decode cX10_readsMask 41 = .ok (.iconst 1, 1) := by decide +kernel
theorem dX10_readsMask_42 : decode cX10_readsMask 42 = .ok (.invokevirtual 308, 3) := by decide +kernel
theorem dX10_readsMask_45 : decode cX10_readsMask 45 = .ok (.lconst 1, 1) := by decide +kernel
theorem dX10_readsMask_46 : decode cX10_readsMask 46 = .ok (.lcmp, 1) := by decide +kernel
theorem dX10_readsMask_47 : decode cX10_readsMask 47 = .ok (.ifCond .ne 7, 3) := by decide +kernel
theorem dX10_readsMask_50 : decode cX10_readsMask 50 = .ok (.iconst 1, 1) := by decide +kernel
theorem dX10_readsMask_51 : decode cX10_readsMask 51 = .ok (.goto 4, 3) := by decide +kernel
theorem dX10_readsMask_54 : decode cX10_readsMask 54 = .ok (.iconst 0, 1) := by decide +kernel
theorem dX10_readsMask_55 : decode cX10_readsMask 55 = .ok (.istore_n 1, 1) := by decide +kernel
theorem dX10_readsMask_56 : decode cX10_readsMask 56 = .ok (.aload_n 0, 1) := by decide +kernel
theorem dX10_readsMask_57 : decode cX10_readsMask 57 = .ok (.getfield 293, 3) := by decide +kernel
theorem dX10_readsMask_60 : decode cX10_readsMask 60 = .ok (.istore_n 2, 1) := by decide +kernel
theorem dX10_readsMask_61 : decode cX10_readsMask 61 = .ok (.iconst 0, 1) := by decide +kernel
theorem dX10_readsMask_62 : decode cX10_readsMask 62 = .ok (.istore_n 3, 1) := by decide +kernel
theorem dX10_readsMask_63 : decode cX10_readsMask 63 = .ok (.iload_n 3, 1) := by decide +kernel
theorem dX10_readsMask_64 : decode cX10_readsMask 64 = .ok (.aload_n 0, 1) := by decide +kernel
theorem dX10_readsMask_65 : decode cX10_readsMask 65 = .ok (.getfield 299, 3) := by decide +kernel
theorem dX10_readsMask_68 : decode cX10_readsMask 68 = .ok (.if_icmp .ge 59, 3) := by decide +kernel
theorem dX10_readsMask_71 : decode cX10_readsMask 71 = .ok (.iload_n 1, 1) := by decide +kernel
theorem dX10_readsMask_72 : decode cX10_readsMask 72 = .ok (.ifCond .eq 55, 3) := by decide +kernel
theorem dX10_readsMask_75 : decode cX10_readsMask 75 = .ok (.aload_n 0, 1) := by decide +kernel
theorem dX10_readsMask_76 : decode cX10_readsMask 76 = .ok (.invokevirtual 311, 3) := by decide +kernel
theorem dX10_readsMask_79 : decode cX10_readsMask 79 = .ok (.ifCond .eq 48, 3) := by decide +kernel
theorem dX10_readsMask_82 : decode cX10_readsMask 82 = .ok (.aload_n 0, 1) := by decide +kernel
theorem dX10_readsMask_83 : decode cX10_readsMask 83 = .ok (.iconst 1, 1) := by decide +kernel
theorem dX10_readsMask_84 : decode cX10_readsMask 84 = .ok (.invokevirtual 308, 3) := by decide +kernel
theorem dX10_readsMask_87 : decode cX10_readsMask 87 = .ok (.lconst 0, 1) := by decide +kernel
theorem dX10_readsMask_88 : decode cX10_readsMask 88 = .ok (.lcmp, 1) := by decide +kernel
theorem dX10_readsMask_89 : decode cX10_readsMask 89 = .ok (.ifCond .ne 6, 3) := by decide +kernel
theorem dX10_readsMask_92 : decode cX10_readsMask 92 = .ok (.goto 29, 3) := by decide +kernel
theorem dX10_readsMask_95 : decode cX10_readsMask 95 = .ok (.aload_n 0, 1) := by decide +kernel
theorem dX10_readsMask_96 : decode cX10_readsMask 96 = .ok (.getfield 48, 3) := by decide +kernel
theorem dX10_readsMask_99 : decode cX10_readsMask 99 = .ok (.sipush 225, 3) := by decide +kernel
theorem dX10_readsMask_102 : decode cX10_readsMask 102 = .ok (.aload_n 0, 1) := by decide +kernel
theorem dX10_readsMask_103 : decode cX10_readsMask 103 = .ok (.getfield 305, 3) := by decide +kernel
theorem dX10_readsMask_106 : decode cX10_readsMask 106 = .ok (.iadd, 1) := by decide +kernel
theorem dX10_readsMask_107 : decode cX10_readsMask 107 = .ok (.iload_n 3, 1) := by decide +kernel
theorem dX10_readsMask_108 : decode cX10_readsMask 108 = .ok (.iadd, 1) := by decide +kernel
theorem dX10_readsMask_109 : decode cX10_readsMask 109 = .ok (.iconst 1, 1) := by decide +kernel
theorem dX10_readsMask_110 : decode cX10_readsMask 110 = .ok (.iastore, 1) := by decide +kernel
theorem dX10_readsMask_111 : decode cX10_readsMask 111 = .ok (.aload_n 0, 1) := by decide +kernel
theorem dX10_readsMask_112 : decode cX10_readsMask 112 = .ok (.dup, 1) := by decide +kernel
theorem dX10_readsMask_113 : decode cX10_readsMask 113 = .ok (.getfield 302, 3) := by decide +kernel
theorem dX10_readsMask_116 : decode cX10_readsMask 116 = .ok (.iconst 1, 1) := by decide +kernel
theorem dX10_readsMask_117 : decode cX10_readsMask 117 = .ok (.isub, 1) := by decide +kernel
theorem dX10_readsMask_118 : decode cX10_readsMask 118 = .ok (.putfield 302, 3) := by decide +kernel
theorem dX10_readsMask_121 : decode cX10_readsMask 121 = .ok (.iinc 3 1, 3) := by decide +kernel
theorem dX10_readsMask_124 : decode cX10_readsMask 124 = .ok (.goto (-61), 3) := by decide +kernel
theorem dX10_readsMask_127 : decode cX10_readsMask 127 = .ok (.aload_n 0, 1) := by decide +kernel
theorem dX10_readsMask_128 : decode cX10_readsMask 128 = .ok (.invokevirtual 311, 3) := by decide +kernel
theorem dX10_readsMask_131 : decode cX10_readsMask 131 = .ok (.ifCond .eq 32, 3) := by decide +kernel
theorem dX10_readsMask_134 : decode cX10_readsMask 134 = .ok (.iload_n 1, 1) := by decide +kernel
theorem dX10_readsMask_135 : decode cX10_readsMask 135 = .ok (.ifCond .eq 24, 3) := by decide +kernel
theorem dX10_readsMask_138 : decode cX10_readsMask 138 = .ok (.aload_n 0, 1) := by decide +kernel
theorem dX10_readsMask_139 : decode cX10_readsMask 139 = .ok (.getfield 302, 3) := by decide +kernel
theorem dX10_readsMask_142 : decode cX10_readsMask 142 = .ok (.aload_n 0, 1) := by decide +kernel
theorem dX10_readsMask_143 : decode cX10_readsMask 143 = .ok (.getfield 299, 3) := by decide +kernel
theorem dX10_readsMask_146 : decode cX10_readsMask 146 = .ok (.if_icmp .lt 13, 3) := by decide +kernel
theorem dX10_readsMask_149 : decode cX10_readsMask 149 = .ok (.aload_n 0, 1) := by decide +kernel
theorem dX10_readsMask_150 : decode cX10_readsMask 150 = .ok (.bipush 6, 2) := by decide +kernel
theorem dX10_readsMask_152 : decode cX10_readsMask 152 = .ok (.iload_n 2, 1) := by decide +kernel
theorem dX10_readsMask_153 : decode cX10_readsMask 153 = .ok (.invokevirtual 296, 3) := by decide +kernel
theorem dX10_readsMask_156 : decode cX10_readsMask 156 = .ok (.ifCond .eq 7, 3) := by decide +kernel
theorem dX10_readsMask_159 : decode cX10_readsMask 159 = .ok (.iconst 1, 1) := by decide +kernel
theorem dX10_readsMask_160 : decode cX10_readsMask 160 = .ok (.goto 4, 3) := by decide +kernel
theorem dX10_readsMask_163 : decode cX10_readsMask 163 = .ok (.iconst 0, 1) := by decide +kernel
theorem dX10_readsMask_164 : decode cX10_readsMask 164 = .ok (.ireturn, 1) := by decide +kernel
theorem dX10_readsHead_0 : decode cX10_readsHead 0 = .ok (.aload_n 0, 1) := by decide +kernel
theorem dX10_readsHead_1 : decode cX10_readsHead 1 = .ok (.getfield 293, 3) := by decide +kernel
theorem dX10_readsHead_4 : decode cX10_readsHead 4 = .ok (.istore_n 1, 1) := by decide +kernel
theorem dX10_readsHead_5 : decode cX10_readsHead 5 = .ok (.aload_n 0, 1) := by decide +kernel
theorem dX10_readsHead_6 : decode cX10_readsHead 6 = .ok (.aload_n 0, 1) := by decide +kernel
theorem dX10_readsHead_7 : decode cX10_readsHead 7 = .ok (.iconst 4, 1) := by decide +kernel
theorem dX10_readsHead_8 : decode cX10_readsHead 8 = .ok (.invokevirtual 308, 3) := by decide +kernel
theorem dX10_readsHead_11 : decode cX10_readsHead 11 = .ok (.l2i, 1) := by decide +kernel
theorem dX10_readsHead_12 : decode cX10_readsHead 12 = .ok (.iconst 1, 1) := by decide +kernel
theorem dX10_readsHead_13 : decode cX10_readsHead 13 = .ok (.iadd, 1) := by decide +kernel
theorem dX10_readsHead_14 : decode cX10_readsHead 14 = .ok (.putfield 299, 3) := by decide +kernel
theorem dX10_readsHead_17 : decode cX10_readsHead 17 = .ok (.aload_n 0, 1) := by decide +kernel
theorem dX10_readsHead_18 : decode cX10_readsHead 18 = .ok (.invokevirtual 311, 3) := by decide +kernel
theorem dX10_readsHead_21 : decode cX10_readsHead 21 = .ok (.ifCond .eq 37, 3) := by decide +kernel
theorem dX10_readsHead_24 : decode cX10_readsHead 24 = .ok (.aload_n 0, 1) := by decide +kernel
theorem dX10_readsHead_25 : decode cX10_readsHead 25 = .ok (.getfield 48, 3) := by decide +kernel
theorem dX10_readsHead_28 : decode cX10_readsHead 28 = .ok (.iconst 0, 1) := by decide +kernel
theorem dX10_readsHead_29 : decode cX10_readsHead 29 = .ok (.iaload, 1) := by decide +kernel
theorem dX10_readsHead_30 : decode cX10_readsHead 30 = .ok (.bipush 24, 2) := by decide +kernel
theorem dX10_readsHead_32 : decode cX10_readsHead 32 = .ok (.if_icmp .eq 18, 3) := by decide +kernel
theorem dX10_readsHead_35 : decode cX10_readsHead 35 = .ok (.aload_n 0, 1) := by decide +kernel
theorem dX10_readsHead_36 : decode cX10_readsHead 36 = .ok (.getfield 305, 3) := by decide +kernel
theorem dX10_readsHead_39 : decode cX10_readsHead 39 = .ok (.aload_n 0, 1) := by decide +kernel
theorem dX10_readsHead_40 : decode cX10_readsHead 40 = .ok (.getfield 299, 3) := by decide +kernel
theorem dX10_readsHead_43 : decode cX10_readsHead 43 = .ok (.iadd, 1) := by decide +kernel
theorem dX10_readsHead_44 : decode cX10_readsHead 44 = .ok (.sipush 128, 3) := by decide +kernel
theorem dX10_readsHead_47 : decode cX10_readsHead 47 = .ok (.if_icmp .le 11, 3) := by decide +kernel
theorem dX10_readsHead_50 : decode cX10_readsHead 50 = .ok (.aload_n 0, 1) := by decide +kernel
theorem dX10_readsHead_51 : decode cX10_readsHead 51 = .ok (.bipush 8, 2) := by decide +kernel
theorem dX10_readsHead_53 : decode cX10_readsHead 53 = .ok (.iload_n 1, 1) := by decide +kernel
theorem dX10_readsHead_54 : decode cX10_readsHead 54 = .ok (.invokevirtual 296, 3) := by decide +kernel
theorem dX10_readsHead_57 : decode cX10_readsHead 57 = .ok (.ireturn, 1) := by decide +kernel
theorem dX10_readsHead_58 : decode cX10_readsHead 58 = .ok (.aload_n 0, 1) := by decide +kernel
theorem dX10_readsHead_59 : decode cX10_readsHead 59 = .ok (.invokevirtual 311, 3) := by decide +kernel
theorem dX10_readsHead_62 : decode cX10_readsHead 62 = .ok (.ifCond .eq 10, 3) := by decide +kernel
theorem dX10_readsHead_65 : decode cX10_readsHead 65 = .ok (.aload_n 0, 1) := by decide +kernel
theorem dX10_readsHead_66 : decode cX10_readsHead 66 = .ok (.invokevirtual 315, 3) := by decide +kernel
theorem dX10_readsHead_69 : decode cX10_readsHead 69 = .ok (.ifCond .ne 5, 3) := by decide +kernel
theorem dX10_readsHead_72 : decode cX10_readsHead 72 = .ok (.iconst 0, 1) := by decide +kernel
theorem dX10_readsHead_73 : decode cX10_readsHead 73 = .ok (.ireturn, 1) := by decide +kernel
theorem dX10_readsHead_74 : decode cX10_readsHead 74 = .ok (.aload_n 0, 1) := by decide +kernel
theorem dX10_readsHead_75 : decode cX10_readsHead 75 = .ok (.getfield 293, 3) := by decide +kernel
theorem dX10_readsHead_78 : decode cX10_readsHead 78 = .ok (.istore_n 1, 1) := by decide +kernel
theorem dX10_readsHead_79 : decode cX10_readsHead 79 = .ok (.aload_n 0, 1) := by decide +kernel
theorem dX10_readsHead_80 : decode cX10_readsHead 80 = .ok (.aload_n 0, 1) := by decide +kernel
theorem dX10_readsHead_81 : decode cX10_readsHead 81 = .ok (.iconst 2, 1) := by decide +kernel
theorem dX10_readsHead_82 : decode cX10_readsHead 82 = .ok (.invokevirtual 308, 3) := by decide +kernel
theorem dX10_readsHead_85 : decode cX10_readsHead 85 = .ok (.l2i, 1) := by decide +kernel
theorem dX10_readsHead_86 : decode cX10_readsHead 86 = .ok (.putfield 318, 3) := by decide +kernel
theorem dX10_readsHead_89 : decode cX10_readsHead 89 = .ok (.aload_n 0, 1) := by decide +kernel
theorem dX10_readsHead_90 : decode cX10_readsHead 90 = .ok (.invokevirtual 311, 3) := by decide +kernel
theorem dX10_readsHead_93 : decode cX10_readsHead 93 = .ok (.ifCond .eq 33, 3) := by decide +kernel
theorem dX10_readsHead_96 : decode cX10_readsHead 96 = .ok (.aload_n 0, 1) := by decide +kernel
theorem dX10_readsHead_97 : decode cX10_readsHead 97 = .ok (.getfield 318, 3) := by decide +kernel
theorem dX10_readsHead_100 : decode cX10_readsHead 100 = .ok (.iconst 3, 1) := by decide +kernel
theorem dX10_readsHead_101 : decode cX10_readsHead 101 = .ok (.if_icmp .eq 18, 3) := by decide +kernel
theorem dX10_readsHead_104 : decode cX10_readsHead 104 = .ok (.aload_n 0, 1) := by decide +kernel
theorem dX10_readsHead_105 : decode cX10_readsHead 105 = .ok (.getfield 318, 3) := by decide +kernel
theorem dX10_readsHead_108 : decode cX10_readsHead 108 = .ok (.ifCond .le 18, 3) := by decide +kernel
theorem dX10_readsHead_111 : decode cX10_readsHead 111 = .ok (.aload_n 0, 1) := by decide +kernel
theorem dX10_readsHead_112 : decode cX10_readsHead 112 = .ok (.getfield 302, 3) := by decide +kernel
theorem dX10_readsHead_115 : decode cX10_readsHead 115 = .ok (.iconst 2, 1) := by decide +kernel
theorem dX10_readsHead_116 : decode cX10_readsHead 116 = .ok (.if_icmp .ge 10, 3) := by decide +kernel
theorem dX10_readsHead_119 : decode cX10_readsHead 119 = .ok (.aload_n 0, 1) := by decide +kernel
theorem dX10_readsHead_120 : decode cX10_readsHead 120 = .ok (.iconst 2, 1) := by decide +kernel
theorem dX10_readsHead_121 : decode cX10_readsHead 121 = .ok (.iload_n 1, 1) := by decide +kernel
theorem dX10_readsHead_122 : decode cX10_readsHead 122 = .ok (.invokevirtual 296, 3) := by decide +kernel
theorem dX10_readsHead_125 : decode cX10_readsHead 125 = .ok (.ireturn, 1) := by decide +kernel
theorem dX10_readsHead_126 : decode cX10_readsHead 126 = .ok (.aload_n 0, 1) := by decide +kernel
theorem dX10_readsHead_127 : decode cX10_readsHead 127 = .ok (.getfield 293, 3) := by decide +kernel
theorem dX10_readsHead_130 : decode cX10_readsHead 130 = .ok (.istore_n 1, 1) := by decide +kernel
theorem dX10_readsHead_131 : decode cX10_readsHead 131 = .ok (.aload_n 0, 1) := by decide +kernel
theorem dX10_readsHead_132 : decode cX10_readsHead 132 = .ok (.aload_n 0, 1) := by decide +kernel
theorem dX10_readsHead_133 : decode cX10_readsHead 133 = .ok (.bipush 6, 2) := by decide +kernel
theorem dX10_readsHead_135 : decode cX10_readsHead 135 = .ok (.invokevirtual 308, 3) := by decide +kernel
theorem dX10_readsHead_138 : decode cX10_readsHead 138 = .ok (.l2i, 1) := by decide +kernel
theorem dX10_readsHead_139 : decode cX10_readsHead 139 = .ok (.putfield 321, 3) := by decide +kernel
theorem dX10_readsHead_142 : decode cX10_readsHead 142 = .ok (.aload_n 0, 1) := by decide +kernel
theorem dX10_readsHead_143 : decode cX10_readsHead 143 = .ok (.invokevirtual 311, 3) := by decide +kernel
theorem dX10_readsHead_146 : decode cX10_readsHead 146 = .ok (.ifCond .eq 19, 3) := by decide +kernel
theorem dX10_readsHead_149 : decode cX10_readsHead 149 = .ok (.aload_n 0, 1) := by decide +kernel
theorem dX10_readsHead_150 : decode cX10_readsHead 150 = .ok (.getfield 321, 3) := by decide +kernel
theorem dX10_readsHead_153 : decode cX10_readsHead 153 = .ok (.bipush 32, 2) := by decide +kernel
theorem dX10_readsHead_155 : decode cX10_readsHead 155 = .ok (.if_icmp .le 10, 3) := by decide +kernel
theorem dX10_readsHead_158 : decode cX10_readsHead 158 = .ok (.aload_n 0, 1) := by decide +kernel
theorem dX10_readsHead_159 : decode cX10_readsHead 159 = .ok (.iconst 3, 1) := by decide +kernel
theorem dX10_readsHead_160 : decode cX10_readsHead 160 = .ok (.iload_n 1, 1) := by decide +kernel
theorem dX10_readsHead_161 : decode cX10_readsHead 161 = .ok (.invokevirtual 296, 3) := by decide +kernel
theorem dX10_readsHead_164 : decode cX10_readsHead 164 = .ok (.ireturn, 1) := by decide +kernel
theorem dX10_readsHead_165 : decode cX10_readsHead 165 = .ok (.aload_n 0, 1) := by decide +kernel
theorem dX10_readsHead_166 : decode cX10_readsHead 166 = .ok (.aload_n 0, 1) := by decide +kernel
theorem dX10_readsHead_167 : decode cX10_readsHead 167 = .ok (.getfield 318, 3) := by decide +kernel
theorem dX10_readsHead_170 : decode cX10_readsHead 170 = .ok (.ifCond .ne 10, 3) := by decide +kernel
theorem dX10_readsHead_173 : decode cX10_readsHead 173 = .ok (.aload_n 0, 1) := by decide +kernel
theorem dX10_readsHead_174 : decode cX10_readsHead 174 = .ok (.getfield 302, 3) := by decide +kernel
theorem dX10_readsHead_177 : decode cX10_readsHead 177 = .ok (.goto 9, 3) := by decide +kernel
theorem dX10_readsHead_180 : decode cX10_readsHead 180 = .ok (.aload_n 0, 1) := by decide +kernel
theorem dX10_readsHead_181 : decode cX10_readsHead 181 = .ok (.getfield 302, 3) := by decide +kernel
theorem dX10_readsHead_184 : decode cX10_readsHead 184 = .ok (.iconst 1, 1) := by decide +kernel
theorem dX10_readsHead_185 : decode cX10_readsHead 185 = .ok (.isub, 1) := by decide +kernel
theorem dX10_readsHead_186 : decode cX10_readsHead 186 = .ok (.putfield 112, 3) := by decide +kernel
theorem dX10_readsHead_189 : decode cX10_readsHead 189 = .ok (.aload_n 0, 1) := by decide +kernel
theorem dX10_readsHead_190 : decode cX10_readsHead 190 = .ok (.getfield 293, 3) := by decide +kernel
theorem dX10_readsHead_193 : decode cX10_readsHead 193 = .ok (.istore_n 1, 1) := by decide +kernel
theorem dX10_readsHead_194 : decode cX10_readsHead 194 = .ok (.aload_n 0, 1) := by decide +kernel
theorem dX10_readsHead_195 : decode cX10_readsHead 195 = .ok (.aload_n 0, 1) := by decide +kernel
theorem dX10_readsHead_196 : decode cX10_readsHead 196 = .ok (.iconst 4, 1) := by decide +kernel
theorem dX10_readsHead_197 : decode cX10_readsHead 197 = .ok (.invokevirtual 308, 3) := by decide +kernel
theorem dX10_readsHead_200 : decode cX10_readsHead 200 = .ok (.l2i, 1) := by decide +kernel
theorem dX10_readsHead_201 : decode cX10_readsHead 201 = .ok (.putfield 324, 3) := by decide +kernel
theorem dX10_readsHead_204 : decode cX10_readsHead 204 = .ok (.aload_n 0, 1) := by decide +kernel
theorem dX10_readsHead_205 : decode cX10_readsHead 205 = .ok (.invokevirtual 311, 3) := by decide +kernel
theorem dX10_readsHead_208 : decode cX10_readsHead 208 = .ok (.ifCond .eq 37, 3) := by decide +kernel
theorem dX10_readsHead_211 : decode cX10_readsHead 211 = .ok (.aload_n 0, 1) := by decide +kernel
theorem dX10_readsHead_212 : decode cX10_readsHead 212 = .ok (.getfield 324, 3) := by decide +kernel
theorem dX10_readsHead_215 : decode cX10_readsHead 215 = .ok (.aload_n 0, 1) := by decide +kernel
theorem dX10_readsHead_216 : decode cX10_readsHead 216 = .ok (.getfield 112, 3) := by decide +kernel
theorem dX10_readsHead_219 : decode cX10_readsHead 219 = .ok (.if_icmp .gt 19, 3) := by decide +kernel
theorem dX10_readsHead_222 : decode cX10_readsHead 222 = .ok (.aload_n 0, 1) := by decide +kernel
theorem dX10_readsHead_223 : decode cX10_readsHead 223 = .ok (.getfield 324, 3) := by decide +kernel
theorem dX10_readsHead_226 : decode cX10_readsHead 226 = .ok (.ifCond .le 19, 3) := by decide +kernel
theorem dX10_readsHead_229 : decode cX10_readsHead 229 = .ok (.aload_n 0, 1) := by decide +kernel
theorem dX10_readsHead_230 : decode cX10_readsHead 230 = .ok (.getfield 321, 3) := by decide +kernel
theorem dX10_readsHead_233 : decode cX10_readsHead 233 = .ok (.bipush 32, 2) := by decide +kernel
theorem dX10_readsHead_235 : decode cX10_readsHead 235 = .ok (.if_icmp .ne 10, 3) := by decide +kernel
theorem dX10_readsHead_238 : decode cX10_readsHead 238 = .ok (.aload_n 0, 1) := by decide +kernel
theorem dX10_readsHead_239 : decode cX10_readsHead 239 = .ok (.iconst 4, 1) := by decide +kernel
theorem dX10_readsHead_240 : decode cX10_readsHead 240 = .ok (.iload_n 1, 1) := by decide +kernel
theorem dX10_readsHead_241 : decode cX10_readsHead 241 = .ok (.invokevirtual 296, 3) := by decide +kernel
theorem dX10_readsHead_244 : decode cX10_readsHead 244 = .ok (.ireturn, 1) := by decide +kernel
theorem dX10_readsHead_245 : decode cX10_readsHead 245 = .ok (.aload_n 0, 1) := by decide +kernel
theorem dX10_readsHead_246 : decode cX10_readsHead 246 = .ok (.aload_n 0, 1) := by decide +kernel
theorem dX10_readsHead_247 : decode cX10_readsHead 247 = .ok (.getfield 293, 3) := by decide +kernel
theorem dX10_readsHead_250 : decode cX10_readsHead 250 = .ok (.putfield 327, 3) := by decide +kernel
theorem dX10_readsHead_253 : decode cX10_readsHead 253 = .ok (.aload_n 0, 1) := by decide +kernel
theorem dX10_readsHead_254 : decode cX10_readsHead 254 = .ok (.aload_n 0, 1) := by decide +kernel
theorem dX10_readsHead_255 : decode cX10_readsHead 255 = .ok (.bipush 32, 2) := by decide +kernel
theorem dX10_readsHead_257 : decode cX10_readsHead 257 = .ok (.invokevirtual 308, 3) := by decide +kernel
theorem dX10_readsHead_260 : decode cX10_readsHead 260 = .ok (.l2i, 1) := by decide +kernel
theorem dX10_readsHead_261 : decode cX10_readsHead 261 = .ok (.putfield 330, 3) := by decide +kernel
theorem dX10_readsHead_264 : decode cX10_readsHead 264 = .ok (.aload_n 0, 1) := by decide +kernel
theorem dX10_readsHead_265 : decode cX10_readsHead 265 = .ok (.aload_n 0, 1) := by decide +kernel
theorem dX10_readsHead_266 : decode cX10_readsHead 266 = .ok (.getfield 318, 3) := by decide +kernel
theorem dX10_readsHead_269 : decode cX10_readsHead 269 = .ok (.iconst 2, 1) := by decide +kernel
theorem dX10_readsHead_270 : decode cX10_readsHead 270 = .ok (.if_icmp .ne 13, 3) := by decide +kernel
theorem dX10_readsHead_273 : decode cX10_readsHead 273 = .ok (.aload_n 0, 1) := by decide +kernel
theorem dX10_readsHead_274 : decode cX10_readsHead 274 = .ok (.bipush 32, 2) := by decide +kernel
theorem dX10_readsHead_276 : decode cX10_readsHead 276 = .ok (.invokevirtual 308, 3) := by decide +kernel
theorem dX10_readsHead_279 : decode cX10_readsHead 279 = .ok (.l2i, 1) := by decide +kernel
theorem dX10_readsHead_280 : decode cX10_readsHead 280 = .ok (.goto 4, 3) := by decide +kernel
theorem dX10_readsHead_283 : decode cX10_readsHead 283 = .ok (.iconst 0, 1) := by decide +kernel
theorem dX10_readsHead_284 : decode cX10_readsHead 284 = .ok (.putfield 333, 3) := by decide +kernel
theorem dX10_readsHead_287 : decode cX10_readsHead 287 = .ok (.aload_n 0, 1) := by decide +kernel
theorem dX10_readsHead_288 : decode cX10_readsHead 288 = .ok (.invokevirtual 311, 3) := by decide +kernel
theorem dX10_readsHead_291 : decode cX10_readsHead 291 = .ok (.ireturn, 1) := by decide +kernel
theorem dX10_readsParts_0 : decode cX10_readsParts 0 = .ok (.iconst 0, 1) := by decide +kernel
theorem dX10_readsParts_1 : decode cX10_readsParts 1 = .ok (.istore_n 1, 1) := by decide +kernel
theorem dX10_readsParts_2 : decode cX10_readsParts 2 = .ok (.iload_n 1, 1) := by decide +kernel
theorem dX10_readsParts_3 : decode cX10_readsParts 3 = .ok (.aload_n 0, 1) := by decide +kernel
theorem dX10_readsParts_4 : decode cX10_readsParts 4 = .ok (.getfield 112, 3) := by decide +kernel
theorem dX10_readsParts_7 : decode cX10_readsParts 7 = .ok (.if_icmp .ge 34, 3) := by decide +kernel
theorem dX10_readsParts_10 : decode cX10_readsParts 10 = .ok (.aload_n 0, 1) := by decide +kernel
theorem dX10_readsParts_11 : decode cX10_readsParts 11 = .ok (.getfield 19, 3) := by decide +kernel
theorem dX10_readsParts_14 : decode cX10_readsParts 14 = .ok (.iload_n 1, 1) := by decide +kernel
theorem dX10_readsParts_15 : decode cX10_readsParts 15 = .ok (.aload_n 0, 1) := by decide +kernel
theorem dX10_readsParts_16 : decode cX10_readsParts 16 = .ok (.getfield 321, 3) := by decide +kernel
theorem dX10_readsParts_19 : decode cX10_readsParts 19 = .ok (.ifCond .ne 7, 3) := by decide +kernel
theorem dX10_readsParts_22 : decode cX10_readsParts 22 = .ok (.lconst 0, 1) := by decide +kernel
theorem dX10_readsParts_23 : decode cX10_readsParts 23 = .ok (.goto 11, 3) := by decide +kernel
theorem dX10_readsParts_26 : decode cX10_readsParts 26 = .ok (.aload_n 0, 1) := by decide +kernel
theorem dX10_readsParts_27 : decode cX10_readsParts 27 = .ok (.aload_n 0, 1) := by decide +kernel
theorem dX10_readsParts_28 : decode cX10_readsParts 28 = .ok (.getfield 321, 3) := by decide +kernel
theorem dX10_readsParts_31 : decode cX10_readsParts 31 = .ok (.invokevirtual 308, 3) := by decide +kernel
theorem dX10_readsParts_34 : decode cX10_readsParts 34 = .ok (.lastore, 1) := by decide +kernel
theorem dX10_readsParts_35 : decode cX10_readsParts 35 = .ok (.iinc 1 1, 3) := by decide +kernel
theorem dX10_readsParts_38 : decode cX10_readsParts 38 = .ok (.goto (-36), 3) := by decide +kernel
theorem dX10_readsParts_41 : decode cX10_readsParts 41 = .ok (.iconst (-1), 1) := by decide +kernel
theorem dX10_readsParts_42 : decode cX10_readsParts 42 = .ok (.istore_n 1, 1) := by decide +kernel
theorem dX10_readsParts_43 : decode cX10_readsParts 43 = .ok (.iconst 0, 1) := by decide +kernel
theorem dX10_readsParts_44 : decode cX10_readsParts 44 = .ok (.istore_n 2, 1) := by decide +kernel
theorem dX10_readsParts_45 : decode cX10_readsParts 45 = .ok (.iload_n 2, 1) := by decide +kernel
theorem dX10_readsParts_46 : decode cX10_readsParts 46 = .ok (.aload_n 0, 1) := by decide +kernel
theorem dX10_readsParts_47 : decode cX10_readsParts 47 = .ok (.getfield 324, 3) := by decide +kernel
theorem dX10_readsParts_50 : decode cX10_readsParts 50 = .ok (.if_icmp .ge 125, 3) := by decide +kernel
theorem dX10_readsParts_53 : decode cX10_readsParts 53 = .ok (.aload_n 0, 1) := by decide +kernel
theorem dX10_readsParts_54 : decode cX10_readsParts 54 = .ok (.invokevirtual 311, 3) := by decide +kernel
theorem dX10_readsParts_57 : decode cX10_readsParts 57 = .ok (.ifCond .eq 118, 3) := by decide +kernel
theorem dX10_readsParts_60 : decode cX10_readsParts 60 = .ok (.aload_n 0, 1) := by decide +kernel
theorem dX10_readsParts_61 : decode cX10_readsParts 61 = .ok (.getfield 293, 3) := by decide +kernel
theorem dX10_readsParts_64 : decode cX10_readsParts 64 = .ok (.istore_n 3, 1) := by decide +kernel
theorem dX10_readsParts_65 : decode cX10_readsParts 65 = .ok (.aload_n 0, 1) := by decide +kernel
theorem dX10_readsParts_66 : decode cX10_readsParts 66 = .ok (.iconst 4, 1) := by decide +kernel
theorem dX10_readsParts_67 : decode cX10_readsParts 67 = .ok (.invokevirtual 308, 3) := by decide +kernel
theorem dX10_readsParts_70 : decode cX10_readsParts 70 = .ok (.l2i, 1) := by decide +kernel
theorem dX10_readsParts_71 : decode cX10_readsParts 71 = .ok (.istore 4, 2) := by decide +kernel
theorem dX10_readsParts_73 : decode cX10_readsParts 73 = .ok (.aload_n 0, 1) := by decide +kernel
theorem dX10_readsParts_74 : decode cX10_readsParts 74 = .ok (.invokevirtual 311, 3) := by decide +kernel
theorem dX10_readsParts_77 : decode cX10_readsParts 77 = .ok (.ifCond .eq 25, 3) := by decide +kernel
theorem dX10_readsParts_80 : decode cX10_readsParts 80 = .ok (.iload 4, 2) := by decide +kernel
theorem dX10_readsParts_82 : decode cX10_readsParts 82 = .ok (.aload_n 0, 1) := by decide +kernel
theorem dX10_readsParts_83 : decode cX10_readsParts 83 = .ok (.getfield 112, 3) := by decide +kernel
theorem dX10_readsParts_86 : decode cX10_readsParts 86 = .ok (.if_icmp .ge 9, 3) := by decide +kernel
theorem dX10_readsParts_89 : decode cX10_readsParts 89 = .ok (.iload 4, 2) := by decide +kernel
theorem dX10_readsParts_91 : decode cX10_readsParts 91 = .ok (.iload_n 1, 1) := by decide +kernel
theorem dX10_readsParts_92 : decode cX10_readsParts 92 = .ok (.if_icmp .gt 10, 3) := by decide +kernel
theorem dX10_readsParts_95 : decode cX10_readsParts 95 = .ok (.aload_n 0, 1) := by decide +kernel
theorem dX10_readsParts_96 : decode cX10_readsParts 96 = .ok (.iconst 5, 1) := by decide +kernel
theorem dX10_readsParts_97 : decode cX10_readsParts 97 = .ok (.iload_n 3, 1) := by decide +kernel
theorem dX10_readsParts_98 : decode cX10_readsParts 98 = .ok (.invokevirtual 296, 3) := by decide +kernel
theorem dX10_readsParts_101 : decode cX10_readsParts 101 = .ok (.ireturn, 1) := by decide +kernel
theorem dX10_readsParts_102 : decode cX10_readsParts 102 = .ok (.iload 4, 2) := by decide +kernel
theorem dX10_readsParts_104 : decode cX10_readsParts 104 = .ok (.istore_n 1, 1) := by decide +kernel
theorem dX10_readsParts_105 : decode cX10_readsParts 105 = .ok (.aload_n 0, 1) := by decide +kernel
theorem dX10_readsParts_106 : decode cX10_readsParts 106 = .ok (.getfield 293, 3) := by decide +kernel
theorem dX10_readsParts_109 : decode cX10_readsParts 109 = .ok (.istore_n 3, 1) := by decide +kernel
theorem dX10_readsParts_110 : decode cX10_readsParts 110 = .ok (.aload_n 0, 1) := by decide +kernel
theorem dX10_readsParts_111 : decode cX10_readsParts 111 = .ok (.bipush 32, 2) := by decide +kernel
theorem dX10_readsParts_113 : decode cX10_readsParts 113 = .ok (.aload_n 0, 1) := by decide +kernel
theorem dX10_readsParts_114 : decode cX10_readsParts 114 = .ok (.getfield 321, 3) := by decide +kernel
theorem dX10_readsParts_117 : decode cX10_readsParts 117 = .ok (.isub, 1) := by decide +kernel
theorem dX10_readsParts_118 : decode cX10_readsParts 118 = .ok (.invokevirtual 308, 3) := by decide +kernel
theorem dX10_readsParts_121 : decode cX10_readsParts 121 = .ok (.lstore 5, 2) := by decide +kernel
theorem dX10_readsParts_123 : decode cX10_readsParts 123 = .ok (.aload_n 0, 1) := by decide +kernel
theorem dX10_readsParts_124 : decode cX10_readsParts 124 = .ok (.invokevirtual 311, 3) := by decide +kernel
theorem dX10_readsParts_127 : decode cX10_readsParts 127 = .ok (.ifCond .eq 18, 3) := by decide +kernel
theorem dX10_readsParts_130 : decode cX10_readsParts 130 = .ok (.lload 5, 2) := by decide +kernel
theorem dX10_readsParts_132 : decode cX10_readsParts 132 = .ok (.lconst 0, 1) := by decide +kernel
theorem dX10_readsParts_133 : decode cX10_readsParts 133 = .ok (.lcmp, 1) := by decide +kernel
theorem dX10_readsParts_134 : decode cX10_readsParts 134 = .ok (.ifCond .ne 11, 3) := by decide +kernel
theorem dX10_readsParts_137 : decode cX10_readsParts 137 = .ok (.aload_n 0, 1) := by decide +kernel
theorem dX10_readsParts_138 : decode cX10_readsParts 138 = .ok (.bipush 6, 2) := by decide +kernel
theorem dX10_readsParts_140 : decode cX10_readsParts 140 = .ok (.iload_n 3, 1) := by decide +kernel
theorem dX10_readsParts_141 : decode cX10_readsParts 141 = .ok (.invokevirtual 296, 3) := by decide +kernel
theorem dX10_readsParts_144 : decode cX10_readsParts 144 = .ok (.ireturn, 1) := by decide +kernel
theorem dX10_readsParts_145 : decode cX10_readsParts 145 = .ok (.aload_n 0, 1) := by decide +kernel
theorem dX10_readsParts_146 : decode cX10_readsParts 146 = .ok (.invokevirtual 311, 3) := by decide +kernel
theorem dX10_readsParts_149 : decode cX10_readsParts 149 = .ok (.ifCond .eq 20, 3) := by decide +kernel
theorem dX10_readsParts_152 : decode cX10_readsParts 152 = .ok (.aload_n 0, 1) := by decide +kernel
theorem dX10_readsParts_153 : decode cX10_readsParts 153 = .ok (.getfield 19, 3) := by decide +kernel
theorem dX10_readsParts_156 : decode cX10_readsParts 156 = .ok (.iload 4, 2) := by decide +kernel
theorem dX10_readsParts_158 : decode cX10_readsParts 158 = .ok (.dup2, 1) := by decide +kernel
theorem dX10_readsParts_159 : decode cX10_readsParts 159 = .ok (.laload, 1) := by decide +kernel
theorem dX10_readsParts_160 : decode cX10_readsParts 160 = .ok (.lload 5, 2) := by decide +kernel
theorem dX10_readsParts_162 : decode cX10_readsParts 162 = .ok (.aload_n 0, 1) := by decide +kernel
theorem dX10_readsParts_163 : decode cX10_readsParts 163 = .ok (.getfield 321, 3) := by decide +kernel
theorem dX10_readsParts_166 : decode cX10_readsParts 166 = .ok (.lshl, 1) := by decide +kernel
theorem dX10_readsParts_167 : decode cX10_readsParts 167 = .ok (.lor, 1) := by decide +kernel
theorem dX10_readsParts_168 : decode cX10_readsParts 168 = .ok (.lastore, 1) := by decide +kernel
theorem dX10_readsParts_169 : decode cX10_readsParts 169 = .ok (.iinc 2 1, 3) := by decide +kernel
theorem dX10_readsParts_172 : decode cX10_readsParts 172 = .ok (.goto (-127), 3) := by decide +kernel
theorem dX10_readsParts_175 : decode cX10_readsParts 175 = .ok (.aload_n 0, 1) := by decide +kernel
theorem dX10_readsParts_176 : decode cX10_readsParts 176 = .ok (.invokevirtual 311, 3) := by decide +kernel
theorem dX10_readsParts_179 : decode cX10_readsParts 179 = .ok (.ireturn, 1) := by decide +kernel
theorem dX10_laysValues_0 : decode cX10_laysValues 0 = .ok (.aload_n 0, 1) := by decide +kernel
theorem dX10_laysValues_1 : decode cX10_laysValues 1 = .ok (.getfield 330, 3) := by decide +kernel
theorem dX10_laysValues_4 : decode cX10_laysValues 4 = .ok (.istore_n 1, 1) := by decide +kernel
theorem dX10_laysValues_5 : decode cX10_laysValues 5 = .ok (.iconst 0, 1) := by decide +kernel
theorem dX10_laysValues_6 : decode cX10_laysValues 6 = .ok (.istore_n 2, 1) := by decide +kernel
theorem dX10_laysValues_7 : decode cX10_laysValues 7 = .ok (.aload_n 0, 1) := by decide +kernel
theorem dX10_laysValues_8 : decode cX10_laysValues 8 = .ok (.getfield 302, 3) := by decide +kernel
theorem dX10_laysValues_11 : decode cX10_laysValues 11 = .ok (.ifCond .ne 14, 3) := by decide +kernel
theorem dX10_laysValues_14 : decode cX10_laysValues 14 = .ok (.aload_n 0, 1) := by decide +kernel
theorem dX10_laysValues_15 : decode cX10_laysValues 15 = .ok (.getfield 330, 3) := by decide +kernel
theorem dX10_laysValues_18 : decode cX10_laysValues 18 = .ok (.ifCond .ne 7, 3) := by decide +kernel
theorem dX10_laysValues_21 : decode cX10_laysValues 21 = .ok (.iconst 1, 1) := by decide +kernel
theorem dX10_laysValues_22 : decode cX10_laysValues 22 = .ok (.goto 4, 3) := by decide +kernel
theorem dX10_laysValues_25 : decode cX10_laysValues 25 = .ok (.iconst 0, 1) := by decide +kernel
theorem dX10_laysValues_26 : decode cX10_laysValues 26 = .ok (.istore_n 3, 1) := by decide +kernel
theorem dX10_laysValues_27 : decode cX10_laysValues 27 = .ok (.iconst 0, 1) := by decide +kernel
theorem dX10_laysValues_28 : decode cX10_laysValues 28 = .ok (.istore 4, 2) := by decide +kernel
theorem dX10_laysValues_30 : decode cX10_laysValues 30 = .ok (.aload_n 0, 1) := by decide +kernel
theorem dX10_laysValues_31 : decode cX10_laysValues 31 = .ok (.getfield 305, 3) := by decide +kernel
theorem dX10_laysValues_34 : decode cX10_laysValues 34 = .ok (.istore 5, 2) := by decide +kernel
theorem dX10_laysValues_36 : decode cX10_laysValues 36 = .ok (.iload 5, 2) := by decide +kernel
theorem dX10_laysValues_38 : decode cX10_laysValues 38 = .ok (.aload_n 0, 1) := by decide +kernel
theorem dX10_laysValues_39 : decode cX10_laysValues 39 = .ok (.getfield 305, 3) := by decide +kernel
theorem dX10_laysValues_42 : decode cX10_laysValues 42 = .ok (.aload_n 0, 1) := by decide +kernel
theorem dX10_laysValues_43 : decode cX10_laysValues 43 = .ok (.getfield 299, 3) := by decide +kernel
theorem dX10_laysValues_46 : decode cX10_laysValues 46 = .ok (.iadd, 1) := by decide +kernel
theorem dX10_laysValues_47 : decode cX10_laysValues 47 = .ok (.if_icmp .ge 156, 3) := by decide +kernel
theorem dX10_laysValues_50 : decode cX10_laysValues 50 = .ok (.aload_n 0, 1) := by decide +kernel
theorem dX10_laysValues_51 : decode cX10_laysValues 51 = .ok (.getfield 48, 3) := by decide +kernel
theorem dX10_laysValues_54 : decode cX10_laysValues 54 = .ok (.bipush 97, 2) := by decide +kernel
theorem dX10_laysValues_56 : decode cX10_laysValues 56 = .ok (.iload 5, 2) := by decide +kernel
theorem dX10_laysValues_58 : decode cX10_laysValues 58 = .ok (.iadd, 1) := by decide +kernel
theorem dX10_laysValues_59 : decode cX10_laysValues 59 = .ok (.iconst 0, 1) := by decide +kernel
theorem dX10_laysValues_60 : decode cX10_laysValues 60 = .ok (.iastore, 1) := by decide +kernel
theorem dX10_laysValues_61 : decode cX10_laysValues 61 = .ok (.aload_n 0, 1) := by decide +kernel
theorem dX10_laysValues_62 : decode cX10_laysValues 62 = .ok (.getfield 48, 3) := by decide +kernel
theorem dX10_laysValues_65 : decode cX10_laysValues 65 = .ok (.sipush 225, 3) := by decide +kernel
theorem dX10_laysValues_68 : decode cX10_laysValues 68 = .ok (.iload 5, 2) := by decide +kernel
theorem dX10_laysValues_70 : decode cX10_laysValues 70 = .ok (.iadd, 1) := by decide +kernel
theorem dX10_laysValues_71 : decode cX10_laysValues 71 = .ok (.iaload, 1) := by decide +kernel
theorem dX10_laysValues_72 : decode cX10_laysValues 72 = .ok (.iconst 1, 1) := by decide +kernel
theorem dX10_laysValues_73 : decode cX10_laysValues 73 = .ok (.if_icmp .ne 6, 3) := by decide +kernel
theorem dX10_laysValues_76 : decode cX10_laysValues 76 = .ok (.goto 121, 3) := by decide +kernel
theorem dX10_laysValues_79 : decode cX10_laysValues 79 = .ok (.aload_n 0, 1) := by decide +kernel
theorem dX10_laysValues_80 : decode cX10_laysValues 80 = .ok (.getfield 318, 3) := by decide +kernel
theorem dX10_laysValues_83 : decode cX10_laysValues 83 = .ok (.ifCond .ne 19, 3) := by decide +kernel
theorem dX10_laysValues_86 : decode cX10_laysValues 86 = .ok (.aload_n 0, 1) := by decide +kernel
theorem dX10_laysValues_87 : decode cX10_laysValues 87 = .ok (.getfield 330, 3) := by decide +kernel
theorem dX10_laysValues_90 : decode cX10_laysValues 90 = .ok (.aload_n 0, 1) := by decide +kernel
theorem dX10_laysValues_91 : decode cX10_laysValues 91 = .ok (.getfield 19, 3) := by decide +kernel
theorem dX10_laysValues_94 : decode cX10_laysValues 94 = .ok (.iload_n 2, 1) := by decide +kernel
theorem dX10_laysValues_95 : decode cX10_laysValues 95 = .ok (.laload, 1) := by decide +kernel
theorem dX10_laysValues_96 : decode cX10_laysValues 96 = .ok (.l2i, 1) := by decide +kernel
theorem dX10_laysValues_97 : decode cX10_laysValues 97 = .ok (.iadd, 1) := by decide +kernel
theorem dX10_laysValues_98 : decode cX10_laysValues 98 = .ok (.istore_n 1, 1) := by decide +kernel
theorem dX10_laysValues_99 : decode cX10_laysValues 99 = .ok (.goto 46, 3) := by decide +kernel
theorem dX10_laysValues_102 : decode cX10_laysValues 102 = .ok (.iload_n 2, 1) := by decide +kernel
theorem dX10_laysValues_103 : decode cX10_laysValues 103 = .ok (.ifCond .le 42, 3) := by decide +kernel
theorem dX10_laysValues_106 : decode cX10_laysValues 106 = .ok (.iload_n 1, 1) := by decide +kernel
theorem dX10_laysValues_107 : decode cX10_laysValues 107 = .ok (.aload_n 0, 1) := by decide +kernel
theorem dX10_laysValues_108 : decode cX10_laysValues 108 = .ok (.getfield 318, 3) := by decide +kernel
theorem dX10_laysValues_111 : decode cX10_laysValues 111 = .ok (.iconst 1, 1) := by decide +kernel
theorem dX10_laysValues_112 : decode cX10_laysValues 112 = .ok (.if_icmp .ne 17, 3) := by decide +kernel
theorem dX10_laysValues_115 : decode cX10_laysValues 115 = .ok (.aload_n 0, 1) := by decide +kernel
theorem dX10_laysValues_116 : decode cX10_laysValues 116 = .ok (.getfield 19, 3) := by decide +kernel
theorem dX10_laysValues_119 : decode cX10_laysValues 119 = .ok (.iload_n 2, 1) := by decide +kernel
theorem dX10_laysValues_120 : decode cX10_laysValues 120 = .ok (.iconst 1, 1) := by decide +kernel
theorem dX10_laysValues_121 : decode cX10_laysValues 121 = .ok (.isub, 1) := by decide +kernel
theorem dX10_laysValues_122 : decode cX10_laysValues 122 = .ok (.laload, 1) := by decide +kernel
theorem dX10_laysValues_123 : decode cX10_laysValues 123 = .ok (.invokestatic 336, 3) := by decide +kernel
theorem dX10_laysValues_126 : decode cX10_laysValues 126 = .ok (.goto 17, 3) := by decide +kernel
theorem dX10_laysValues_129 : decode cX10_laysValues 129 = .ok (.aload_n 0, 1) := by decide +kernel
theorem dX10_laysValues_130 : decode cX10_laysValues 130 = .ok (.getfield 333, 3) := by decide +kernel
theorem dX10_laysValues_133 : decode cX10_laysValues 133 = .ok (.aload_n 0, 1) := by decide +kernel
theorem dX10_laysValues_134 : decode cX10_laysValues 134 = .ok (.getfield 19, 3) := by decide +kernel
theorem dX10_laysValues_137 : decode cX10_laysValues 137 = .ok (.iload_n 2, 1) := by decide +kernel
theorem dX10_laysValues_138 : decode cX10_laysValues 138 = .ok (.iconst 1, 1) := by decide +kernel
theorem dX10_laysValues_139 : decode cX10_laysValues 139 = .ok (.isub, 1) := by decide +kernel
theorem dX10_laysValues_140 : decode cX10_laysValues 140 = .ok (.laload, 1) := by decide +kernel
theorem dX10_laysValues_141 : decode cX10_laysValues 141 = .ok (.l2i, 1) := by decide +kernel
theorem dX10_laysValues_142 : decode cX10_laysValues 142 = .ok (.iadd, 1) := by decide +kernel
theorem dX10_laysValues_143 : decode cX10_laysValues 143 = .ok (.iadd, 1) := by decide +kernel
theorem dX10_laysValues_144 : decode cX10_laysValues 144 = .ok (.istore_n 1, 1) := by decide +kernel
theorem dX10_laysValues_145 : decode cX10_laysValues 145 = .ok (.aload_n 0, 1) := by decide +kernel
theorem dX10_laysValues_146 : decode cX10_laysValues 146 = .ok (.getfield 48, 3) := by decide +kernel
theorem dX10_laysValues_149 : decode cX10_laysValues 149 = .ok (.bipush 97, 2) := by decide +kernel
theorem dX10_laysValues_151 : decode cX10_laysValues 151 = .ok (.iload 5, 2) := by decide +kernel
theorem dX10_laysValues_153 : decode cX10_laysValues 153 = .ok (.iadd, 1) := by decide +kernel
theorem dX10_laysValues_154 : decode cX10_laysValues 154 = .ok (.iload_n 1, 1) := by decide +kernel
theorem dX10_laysValues_155 : decode cX10_laysValues 155 = .ok (.iastore, 1) := by decide +kernel
theorem dX10_laysValues_156 : decode cX10_laysValues 156 = .ok (.iload_n 3, 1) := by decide +kernel
theorem dX10_laysValues_157 : decode cX10_laysValues 157 = .ok (.ifCond .ne 11, 3) := by decide +kernel
theorem dX10_laysValues_160 : decode cX10_laysValues 160 = .ok (.iload_n 1, 1) := by decide +kernel
theorem dX10_laysValues_161 : decode cX10_laysValues 161 = .ok (.aload_n 0, 1) := by decide +kernel
theorem dX10_laysValues_162 : decode cX10_laysValues 162 = .ok (.getfield 330, 3) := by decide +kernel
theorem dX10_laysValues_165 : decode cX10_laysValues 165 = .ok (.if_icmp .ne 7, 3) := by decide +kernel
theorem dX10_laysValues_168 : decode cX10_laysValues 168 = .ok (.iconst 1, 1) := by decide +kernel
theorem dX10_laysValues_169 : decode cX10_laysValues 169 = .ok (.goto 4, 3) := by decide +kernel
theorem dX10_laysValues_172 : decode cX10_laysValues 172 = .ok (.iconst 0, 1) := by decide +kernel
theorem dX10_laysValues_173 : decode cX10_laysValues 173 = .ok (.istore_n 3, 1) := by decide +kernel
theorem dX10_laysValues_174 : decode cX10_laysValues 174 = .ok (.iload 4, 2) := by decide +kernel
theorem dX10_laysValues_176 : decode cX10_laysValues 176 = .ok (.ifCond .ne 11, 3) := by decide +kernel
theorem dX10_laysValues_179 : decode cX10_laysValues 179 = .ok (.iload_n 1, 1) := by decide +kernel
theorem dX10_laysValues_180 : decode cX10_laysValues 180 = .ok (.aload_n 0, 1) := by decide +kernel
theorem dX10_laysValues_181 : decode cX10_laysValues 181 = .ok (.getfield 330, 3) := by decide +kernel
theorem dX10_laysValues_184 : decode cX10_laysValues 184 = .ok (.if_icmp .ge 7, 3) := by decide +kernel
theorem dX10_laysValues_187 : decode cX10_laysValues 187 = .ok (.iconst 1, 1) := by decide +kernel
theorem dX10_laysValues_188 : decode cX10_laysValues 188 = .ok (.goto 4, 3) := by decide +kernel
theorem dX10_laysValues_191 : decode cX10_laysValues 191 = .ok (.iconst 0, 1) := by decide +kernel
theorem dX10_laysValues_192 : decode cX10_laysValues 192 = .ok (.istore 4, 2) := by decide +kernel
theorem dX10_laysValues_194 : decode cX10_laysValues 194 = .ok (.iinc 2 1, 3) := by decide +kernel
theorem dX10_laysValues_197 : decode cX10_laysValues 197 = .ok (.iinc 5 1, 3) := by decide +kernel
theorem dX10_laysValues_200 : decode cX10_laysValues 200 = .ok (.goto (-164), 3) := by decide +kernel
theorem dX10_laysValues_203 : decode cX10_laysValues 203 = .ok (.aload_n 0, 1) := by decide +kernel
theorem dX10_laysValues_204 : decode cX10_laysValues 204 = .ok (.getfield 318, 3) := by decide +kernel
theorem dX10_laysValues_207 : decode cX10_laysValues 207 = .ok (.ifCond .gt 25, 3) := by decide +kernel
theorem dX10_laysValues_210 : decode cX10_laysValues 210 = .ok (.iload_n 3, 1) := by decide +kernel
theorem dX10_laysValues_211 : decode cX10_laysValues 211 = .ok (.ifCond .eq 8, 3) := by decide +kernel
theorem dX10_laysValues_214 : decode cX10_laysValues 214 = .ok (.iload 4, 2) := by decide +kernel
theorem dX10_laysValues_216 : decode cX10_laysValues 216 = .ok (.ifCond .eq 16, 3) := by decide +kernel
theorem dX10_laysValues_219 : decode cX10_laysValues 219 = .ok (.aload_n 0, 1) := by decide +kernel
theorem dX10_laysValues_220 : decode cX10_laysValues 220 = .ok (.bipush 6, 2) := by decide +kernel
theorem dX10_laysValues_222 : decode cX10_laysValues 222 = .ok (.aload_n 0, 1) := by decide +kernel
theorem dX10_laysValues_223 : decode cX10_laysValues 223 = .ok (.getfield 327, 3) := by decide +kernel
theorem dX10_laysValues_226 : decode cX10_laysValues 226 = .ok (.invokevirtual 296, 3) := by decide +kernel
theorem dX10_laysValues_229 : decode cX10_laysValues 229 = .ok (.ifCond .eq 7, 3) := by decide +kernel
theorem dX10_laysValues_232 : decode cX10_laysValues 232 = .ok (.iconst 1, 1) := by decide +kernel
theorem dX10_laysValues_233 : decode cX10_laysValues 233 = .ok (.goto 4, 3) := by decide +kernel
theorem dX10_laysValues_236 : decode cX10_laysValues 236 = .ok (.iconst 0, 1) := by decide +kernel
theorem dX10_laysValues_237 : decode cX10_laysValues 237 = .ok (.ireturn, 1) := by decide +kernel
theorem dX10_unfolded_0 : decode cX10_unfolded 0 = .ok (.lload_n 0, 1) := by decide +kernel
theorem dX10_unfolded_1 : decode cX10_unfolded 1 = .ok (.ldc2_w 110, 3) := by decide +kernel
theorem dX10_unfolded_4 : decode cX10_unfolded 4 = .ok (.lrem, 1) := by decide +kernel
theorem dX10_unfolded_5 : decode cX10_unfolded 5 = .ok (.lconst 1, 1) := by decide +kernel
theorem dX10_unfolded_6 : decode cX10_unfolded 6 = .ok (.lcmp, 1) := by decide +kernel
theorem dX10_unfolded_7 : decode cX10_unfolded 7 = .ok (.ifCond .ne 14, 3) := by decide +kernel
theorem dX10_unfolded_10 : decode cX10_unfolded 10 = .ok (.lload_n 0, 1) := by decide +kernel
theorem dX10_unfolded_11 : decode cX10_unfolded 11 = .ok (.lconst 1, 1) := by decide +kernel
theorem dX10_unfolded_12 : decode cX10_unfolded 12 = .ok (.ladd, 1) := by decide +kernel
theorem dX10_unfolded_13 : decode cX10_unfolded 13 = .ok (.lneg, 1) := by decide +kernel
theorem dX10_unfolded_14 : decode cX10_unfolded 14 = .ok (.ldc2_w 110, 3) := by decide +kernel
theorem dX10_unfolded_17 : decode cX10_unfolded 17 = .ok (.ldiv, 1) := by decide +kernel
theorem dX10_unfolded_18 : decode cX10_unfolded 18 = .ok (.goto 8, 3) := by decide +kernel
theorem dX10_unfolded_21 : decode cX10_unfolded 21 = .ok (.lload_n 0, 1) := by decide +kernel
theorem dX10_unfolded_22 : decode cX10_unfolded 22 = .ok (.ldc2_w 110, 3) := by decide +kernel
theorem dX10_unfolded_25 : decode cX10_unfolded 25 = .ok (.ldiv, 1) := by decide +kernel
theorem dX10_unfolded_26 : decode cX10_unfolded 26 = .ok (.l2i, 1) := by decide +kernel
theorem dX10_unfolded_27 : decode cX10_unfolded 27 = .ok (.ireturn, 1) := by decide +kernel
theorem dX10_readsBlock_0 : decode cX10_readsBlock 0 = .ok (.aload_n 0, 1) := by decide +kernel
theorem dX10_readsBlock_1 : decode cX10_readsBlock 1 = .ok (.invokevirtual 339, 3) := by decide +kernel
theorem dX10_readsBlock_4 : decode cX10_readsBlock 4 = .ok (.ifCond .eq 17, 3) := by decide +kernel
theorem dX10_readsBlock_7 : decode cX10_readsBlock 7 = .ok (.aload_n 0, 1) := by decide +kernel
theorem dX10_readsBlock_8 : decode cX10_readsBlock 8 = .ok (.invokevirtual 342, 3) := by decide +kernel
theorem dX10_readsBlock_11 : decode cX10_readsBlock 11 = .ok (.ifCond .eq 10, 3) := by decide +kernel
theorem dX10_readsBlock_14 : decode cX10_readsBlock 14 = .ok (.aload_n 0, 1) := by decide +kernel
theorem dX10_readsBlock_15 : decode cX10_readsBlock 15 = .ok (.invokevirtual 345, 3) := by decide +kernel
theorem dX10_readsBlock_18 : decode cX10_readsBlock 18 = .ok (.ifCond .ne 5, 3) := by decide +kernel
theorem dX10_readsBlock_21 : decode cX10_readsBlock 21 = .ok (.iconst 0, 1) := by decide +kernel
theorem dX10_readsBlock_22 : decode cX10_readsBlock 22 = .ok (.ireturn, 1) := by decide +kernel
theorem dX10_readsBlock_23 : decode cX10_readsBlock 23 = .ok (.iconst 1, 1) := by decide +kernel
theorem dX10_readsBlock_24 : decode cX10_readsBlock 24 = .ok (.iconst 4, 1) := by decide +kernel
theorem dX10_readsBlock_25 : decode cX10_readsBlock 25 = .ok (.aload_n 0, 1) := by decide +kernel
theorem dX10_readsBlock_26 : decode cX10_readsBlock 26 = .ok (.getfield 48, 3) := by decide +kernel
theorem dX10_readsBlock_29 : decode cX10_readsBlock 29 = .ok (.iconst 0, 1) := by decide +kernel
theorem dX10_readsBlock_30 : decode cX10_readsBlock 30 = .ok (.iaload, 1) := by decide +kernel
theorem dX10_readsBlock_31 : decode cX10_readsBlock 31 = .ok (.imul, 1) := by decide +kernel
theorem dX10_readsBlock_32 : decode cX10_readsBlock 32 = .ok (.iadd, 1) := by decide +kernel
theorem dX10_readsBlock_33 : decode cX10_readsBlock 33 = .ok (.istore_n 1, 1) := by decide +kernel
theorem dX10_readsBlock_34 : decode cX10_readsBlock 34 = .ok (.aload_n 0, 1) := by decide +kernel
theorem dX10_readsBlock_35 : decode cX10_readsBlock 35 = .ok (.getfield 48, 3) := by decide +kernel
theorem dX10_readsBlock_38 : decode cX10_readsBlock 38 = .ok (.iload_n 1, 1) := by decide +kernel
theorem dX10_readsBlock_39 : decode cX10_readsBlock 39 = .ok (.iconst 0, 1) := by decide +kernel
theorem dX10_readsBlock_40 : decode cX10_readsBlock 40 = .ok (.iadd, 1) := by decide +kernel
theorem dX10_readsBlock_41 : decode cX10_readsBlock 41 = .ok (.aload_n 0, 1) := by decide +kernel
theorem dX10_readsBlock_42 : decode cX10_readsBlock 42 = .ok (.getfield 299, 3) := by decide +kernel
theorem dX10_readsBlock_45 : decode cX10_readsBlock 45 = .ok (.iastore, 1) := by decide +kernel
theorem dX10_readsBlock_46 : decode cX10_readsBlock 46 = .ok (.aload_n 0, 1) := by decide +kernel
theorem dX10_readsBlock_47 : decode cX10_readsBlock 47 = .ok (.getfield 48, 3) := by decide +kernel
theorem dX10_readsBlock_50 : decode cX10_readsBlock 50 = .ok (.iload_n 1, 1) := by decide +kernel
theorem dX10_readsBlock_51 : decode cX10_readsBlock 51 = .ok (.iconst 1, 1) := by decide +kernel
theorem dX10_readsBlock_52 : decode cX10_readsBlock 52 = .ok (.iadd, 1) := by decide +kernel
theorem dX10_readsBlock_53 : decode cX10_readsBlock 53 = .ok (.aload_n 0, 1) := by decide +kernel
theorem dX10_readsBlock_54 : decode cX10_readsBlock 54 = .ok (.getfield 318, 3) := by decide +kernel
theorem dX10_readsBlock_57 : decode cX10_readsBlock 57 = .ok (.iastore, 1) := by decide +kernel
theorem dX10_readsBlock_58 : decode cX10_readsBlock 58 = .ok (.aload_n 0, 1) := by decide +kernel
theorem dX10_readsBlock_59 : decode cX10_readsBlock 59 = .ok (.getfield 48, 3) := by decide +kernel
theorem dX10_readsBlock_62 : decode cX10_readsBlock 62 = .ok (.iload_n 1, 1) := by decide +kernel
theorem dX10_readsBlock_63 : decode cX10_readsBlock 63 = .ok (.iconst 2, 1) := by decide +kernel
theorem dX10_readsBlock_64 : decode cX10_readsBlock 64 = .ok (.iadd, 1) := by decide +kernel
theorem dX10_readsBlock_65 : decode cX10_readsBlock 65 = .ok (.aload_n 0, 1) := by decide +kernel
theorem dX10_readsBlock_66 : decode cX10_readsBlock 66 = .ok (.getfield 321, 3) := by decide +kernel
theorem dX10_readsBlock_69 : decode cX10_readsBlock 69 = .ok (.iastore, 1) := by decide +kernel
theorem dX10_readsBlock_70 : decode cX10_readsBlock 70 = .ok (.aload_n 0, 1) := by decide +kernel
theorem dX10_readsBlock_71 : decode cX10_readsBlock 71 = .ok (.getfield 48, 3) := by decide +kernel
theorem dX10_readsBlock_74 : decode cX10_readsBlock 74 = .ok (.iload_n 1, 1) := by decide +kernel
theorem dX10_readsBlock_75 : decode cX10_readsBlock 75 = .ok (.iconst 3, 1) := by decide +kernel
theorem dX10_readsBlock_76 : decode cX10_readsBlock 76 = .ok (.iadd, 1) := by decide +kernel
theorem dX10_readsBlock_77 : decode cX10_readsBlock 77 = .ok (.aload_n 0, 1) := by decide +kernel
theorem dX10_readsBlock_78 : decode cX10_readsBlock 78 = .ok (.getfield 333, 3) := by decide +kernel
theorem dX10_readsBlock_81 : decode cX10_readsBlock 81 = .ok (.iastore, 1) := by decide +kernel
theorem dX10_readsBlock_82 : decode cX10_readsBlock 82 = .ok (.aload_n 0, 1) := by decide +kernel
theorem dX10_readsBlock_83 : decode cX10_readsBlock 83 = .ok (.getfield 48, 3) := by decide +kernel
theorem dX10_readsBlock_86 : decode cX10_readsBlock 86 = .ok (.iconst 0, 1) := by decide +kernel
theorem dX10_readsBlock_87 : decode cX10_readsBlock 87 = .ok (.dup2, 1) := by decide +kernel
theorem dX10_readsBlock_88 : decode cX10_readsBlock 88 = .ok (.iaload, 1) := by decide +kernel
theorem dX10_readsBlock_89 : decode cX10_readsBlock 89 = .ok (.iconst 1, 1) := by decide +kernel
theorem dX10_readsBlock_90 : decode cX10_readsBlock 90 = .ok (.iadd, 1) := by decide +kernel
theorem dX10_readsBlock_91 : decode cX10_readsBlock 91 = .ok (.iastore, 1) := by decide +kernel
theorem dX10_readsBlock_92 : decode cX10_readsBlock 92 = .ok (.aload_n 0, 1) := by decide +kernel
theorem dX10_readsBlock_93 : decode cX10_readsBlock 93 = .ok (.dup, 1) := by decide +kernel
theorem dX10_readsBlock_94 : decode cX10_readsBlock 94 = .ok (.getfield 305, 3) := by decide +kernel
theorem dX10_readsBlock_97 : decode cX10_readsBlock 97 = .ok (.aload_n 0, 1) := by decide +kernel
theorem dX10_readsBlock_98 : decode cX10_readsBlock 98 = .ok (.getfield 299, 3) := by decide +kernel
theorem dX10_readsBlock_101 : decode cX10_readsBlock 101 = .ok (.iadd, 1) := by decide +kernel
theorem dX10_readsBlock_102 : decode cX10_readsBlock 102 = .ok (.putfield 305, 3) := by decide +kernel
theorem dX10_readsBlock_105 : decode cX10_readsBlock 105 = .ok (.aload_n 0, 1) := by decide +kernel
theorem dX10_readsBlock_106 : decode cX10_readsBlock 106 = .ok (.getfield 293, 3) := by decide +kernel
theorem dX10_readsBlock_109 : decode cX10_readsBlock 109 = .ok (.istore_n 2, 1) := by decide +kernel
theorem dX10_readsBlock_110 : decode cX10_readsBlock 110 = .ok (.bipush 32, 2) := by decide +kernel
theorem dX10_readsBlock_112 : decode cX10_readsBlock 112 = .ok (.aload_n 0, 1) := by decide +kernel
theorem dX10_readsBlock_113 : decode cX10_readsBlock 113 = .ok (.getfield 293, 3) := by decide +kernel
theorem dX10_readsBlock_116 : decode cX10_readsBlock 116 = .ok (.bipush 32, 2) := by decide +kernel
theorem dX10_readsBlock_118 : decode cX10_readsBlock 118 = .ok (.irem, 1) := by decide +kernel
theorem dX10_readsBlock_119 : decode cX10_readsBlock 119 = .ok (.isub, 1) := by decide +kernel
theorem dX10_readsBlock_120 : decode cX10_readsBlock 120 = .ok (.bipush 32, 2) := by decide +kernel
theorem dX10_readsBlock_122 : decode cX10_readsBlock 122 = .ok (.irem, 1) := by decide +kernel
theorem dX10_readsBlock_123 : decode cX10_readsBlock 123 = .ok (.istore_n 3, 1) := by decide +kernel
theorem dX10_readsBlock_124 : decode cX10_readsBlock 124 = .ok (.aload_n 0, 1) := by decide +kernel
theorem dX10_readsBlock_125 : decode cX10_readsBlock 125 = .ok (.iload_n 3, 1) := by decide +kernel
theorem dX10_readsBlock_126 : decode cX10_readsBlock 126 = .ok (.invokevirtual 308, 3) := by decide +kernel
theorem dX10_readsBlock_129 : decode cX10_readsBlock 129 = .ok (.lconst 0, 1) := by decide +kernel
theorem dX10_readsBlock_130 : decode cX10_readsBlock 130 = .ok (.lcmp, 1) := by decide +kernel
theorem dX10_readsBlock_131 : decode cX10_readsBlock 131 = .ok (.ifCond .eq 13, 3) := by decide +kernel
theorem dX10_readsBlock_134 : decode cX10_readsBlock 134 = .ok (.aload_n 0, 1) := by decide +kernel
theorem dX10_readsBlock_135 : decode cX10_readsBlock 135 = .ok (.bipush 7, 2) := by decide +kernel
theorem dX10_readsBlock_137 : decode cX10_readsBlock 137 = .ok (.iload_n 2, 1) := by decide +kernel
theorem dX10_readsBlock_138 : decode cX10_readsBlock 138 = .ok (.invokevirtual 296, 3) := by decide +kernel
theorem dX10_readsBlock_141 : decode cX10_readsBlock 141 = .ok (.ifCond .eq 7, 3) := by decide +kernel
theorem dX10_readsBlock_144 : decode cX10_readsBlock 144 = .ok (.iconst 1, 1) := by decide +kernel
theorem dX10_readsBlock_145 : decode cX10_readsBlock 145 = .ok (.goto 4, 3) := by decide +kernel
theorem dX10_readsBlock_148 : decode cX10_readsBlock 148 = .ok (.iconst 0, 1) := by decide +kernel
theorem dX10_readsBlock_149 : decode cX10_readsBlock 149 = .ok (.ireturn, 1) := by decide +kernel
theorem dX10_open_0 : decode cX10_open 0 = .ok (.iload_n 1, 1) := by decide +kernel
theorem dX10_open_1 : decode cX10_open 1 = .ok (.invokestatic 84, 3) := by decide +kernel
theorem dX10_open_4 : decode cX10_open 4 = .ok (.ifCond .ne 6, 3) := by decide +kernel
theorem dX10_open_7 : decode cX10_open 7 = .ok (.bipush (-2), 2) := by decide +kernel
theorem dX10_open_9 : decode cX10_open 9 = .ok (.ireturn, 1) := by decide +kernel
theorem dX10_open_10 : decode cX10_open 10 = .ok (.iconst 0, 1) := by decide +kernel
theorem dX10_open_11 : decode cX10_open 11 = .ok (.istore_n 2, 1) := by decide +kernel
theorem dX10_open_12 : decode cX10_open 12 = .ok (.iload_n 2, 1) := by decide +kernel
theorem dX10_open_13 : decode cX10_open 13 = .ok (.sipush 353, 3) := by decide +kernel
theorem dX10_open_16 : decode cX10_open 16 = .ok (.if_icmp .ge 16, 3) := by decide +kernel
theorem dX10_open_19 : decode cX10_open 19 = .ok (.aload_n 0, 1) := by decide +kernel
theorem dX10_open_20 : decode cX10_open 20 = .ok (.getfield 48, 3) := by decide +kernel
theorem dX10_open_23 : decode cX10_open 23 = .ok (.iload_n 2, 1) := by decide +kernel
theorem dX10_open_24 : decode cX10_open 24 = .ok (.iconst 0, 1) := by decide +kernel
theorem dX10_open_25 : decode cX10_open 25 = .ok (.iastore, 1) := by decide +kernel
theorem dX10_open_26 : decode cX10_open 26 = .ok (.iinc 2 1, 3) := by decide +kernel
theorem dX10_open_29 : decode cX10_open 29 = .ok (.goto (-17), 3) := by decide +kernel
theorem dX10_open_32 : decode cX10_open 32 = .ok (.aload_n 0, 1) := by decide +kernel
theorem dX10_open_33 : decode cX10_open 33 = .ok (.iconst 0, 1) := by decide +kernel
theorem dX10_open_34 : decode cX10_open 34 = .ok (.putfield 51, 3) := by decide +kernel
theorem dX10_open_37 : decode cX10_open 37 = .ok (.aload_n 0, 1) := by decide +kernel
theorem dX10_open_38 : decode cX10_open 38 = .ok (.iconst (-1), 1) := by decide +kernel
theorem dX10_open_39 : decode cX10_open 39 = .ok (.putfield 55, 3) := by decide +kernel
theorem dX10_open_42 : decode cX10_open 42 = .ok (.aload_n 0, 1) := by decide +kernel
theorem dX10_open_43 : decode cX10_open 43 = .ok (.iconst 0, 1) := by decide +kernel
theorem dX10_open_44 : decode cX10_open 44 = .ok (.putfield 293, 3) := by decide +kernel
theorem dX10_open_47 : decode cX10_open 47 = .ok (.aload_n 0, 1) := by decide +kernel
theorem dX10_open_48 : decode cX10_open 48 = .ok (.iconst 0, 1) := by decide +kernel
theorem dX10_open_49 : decode cX10_open 49 = .ok (.putfield 305, 3) := by decide +kernel
theorem dX10_open_52 : decode cX10_open 52 = .ok (.iconst 1, 1) := by decide +kernel
theorem dX10_open_53 : decode cX10_open 53 = .ok (.istore_n 2, 1) := by decide +kernel
theorem dX10_open_54 : decode cX10_open 54 = .ok (.iload_n 2, 1) := by decide +kernel
theorem dX10_open_55 : decode cX10_open 55 = .ok (.ifCond .eq 25, 3) := by decide +kernel
theorem dX10_open_58 : decode cX10_open 58 = .ok (.aload_n 0, 1) := by decide +kernel
theorem dX10_open_59 : decode cX10_open 59 = .ok (.getfield 293, 3) := by decide +kernel
theorem dX10_open_62 : decode cX10_open 62 = .ok (.bipush 32, 2) := by decide +kernel
theorem dX10_open_64 : decode cX10_open 64 = .ok (.aload_n 0, 1) := by decide +kernel
theorem dX10_open_65 : decode cX10_open 65 = .ok (.getfield 287, 3) := by decide +kernel
theorem dX10_open_68 : decode cX10_open 68 = .ok (.imul, 1) := by decide +kernel
theorem dX10_open_69 : decode cX10_open 69 = .ok (.if_icmp .ge 11, 3) := by decide +kernel
theorem dX10_open_72 : decode cX10_open 72 = .ok (.aload_n 0, 1) := by decide +kernel
theorem dX10_open_73 : decode cX10_open 73 = .ok (.invokevirtual 348, 3) := by decide +kernel
theorem dX10_open_76 : decode cX10_open 76 = .ok (.istore_n 2, 1) := by decide +kernel
theorem dX10_open_77 : decode cX10_open 77 = .ok (.goto (-23), 3) := by decide +kernel
theorem dX10_open_80 : decode cX10_open 80 = .ok (.aload_n 0, 1) := by decide +kernel
theorem dX10_open_81 : decode cX10_open 81 = .ok (.iconst 0, 1) := by decide +kernel
theorem dX10_open_82 : decode cX10_open 82 = .ok (.putfield 287, 3) := by decide +kernel
theorem dX10_open_85 : decode cX10_open 85 = .ok (.iload_n 2, 1) := by decide +kernel
theorem dX10_open_86 : decode cX10_open 86 = .ok (.ifCond .ne 5, 3) := by decide +kernel
theorem dX10_open_89 : decode cX10_open 89 = .ok (.iconst (-1), 1) := by decide +kernel
theorem dX10_open_90 : decode cX10_open 90 = .ok (.ireturn, 1) := by decide +kernel
theorem dX10_open_91 : decode cX10_open 91 = .ok (.aload_n 0, 1) := by decide +kernel
theorem dX10_open_92 : decode cX10_open 92 = .ok (.invokevirtual 197, 3) := by decide +kernel
theorem dX10_open_95 : decode cX10_open 95 = .ok (.iconst 0, 1) := by decide +kernel
theorem dX10_open_96 : decode cX10_open 96 = .ok (.istore_n 3, 1) := by decide +kernel
theorem dX10_open_97 : decode cX10_open 97 = .ok (.iload_n 3, 1) := by decide +kernel
theorem dX10_open_98 : decode cX10_open 98 = .ok (.sipush 353, 3) := by decide +kernel
theorem dX10_open_101 : decode cX10_open 101 = .ok (.if_icmp .ge 26, 3) := by decide +kernel
theorem dX10_open_104 : decode cX10_open 104 = .ok (.aload_n 0, 1) := by decide +kernel
theorem dX10_open_105 : decode cX10_open 105 = .ok (.getfield 7, 3) := by decide +kernel
theorem dX10_open_108 : decode cX10_open 108 = .ok (.iload_n 1, 1) := by decide +kernel
theorem dX10_open_109 : decode cX10_open 109 = .ok (.invokestatic 69, 3) := by decide +kernel
theorem dX10_open_112 : decode cX10_open 112 = .ok (.iload_n 3, 1) := by decide +kernel
theorem dX10_open_113 : decode cX10_open 113 = .ok (.iadd, 1) := by decide +kernel
theorem dX10_open_114 : decode cX10_open 114 = .ok (.aload_n 0, 1) := by decide +kernel
theorem dX10_open_115 : decode cX10_open 115 = .ok (.getfield 48, 3) := by decide +kernel
theorem dX10_open_118 : decode cX10_open 118 = .ok (.iload_n 3, 1) := by decide +kernel
theorem dX10_open_119 : decode cX10_open 119 = .ok (.iaload, 1) := by decide +kernel
theorem dX10_open_120 : decode cX10_open 120 = .ok (.iastore, 1) := by decide +kernel
theorem dX10_open_121 : decode cX10_open 121 = .ok (.iinc 3 1, 3) := by decide +kernel
theorem dX10_open_124 : decode cX10_open 124 = .ok (.goto (-27), 3) := by decide +kernel
theorem dX10_open_127 : decode cX10_open 127 = .ok (.aload_n 0, 1) := by decide +kernel
theorem dX10_open_128 : decode cX10_open 128 = .ok (.getfield 305, 3) := by decide +kernel
theorem dX10_open_131 : decode cX10_open 131 = .ok (.ireturn, 1) := by decide +kernel
theorem dX10_fault_0 : decode cX10_fault 0 = .ok (.iload_n 1, 1) := by decide +kernel
theorem dX10_fault_1 : decode cX10_fault 1 = .ok (.ifCond .ne 10, 3) := by decide +kernel
theorem dX10_fault_4 : decode cX10_fault 4 = .ok (.aload_n 0, 1) := by decide +kernel
theorem dX10_fault_5 : decode cX10_fault 5 = .ok (.getfield 51, 3) := by decide +kernel
theorem dX10_fault_8 : decode cX10_fault 8 = .ok (.goto 16, 3) := by decide +kernel
theorem dX10_fault_11 : decode cX10_fault 11 = .ok (.iload_n 1, 1) := by decide +kernel
theorem dX10_fault_12 : decode cX10_fault 12 = .ok (.iconst 1, 1) := by decide +kernel
theorem dX10_fault_13 : decode cX10_fault 13 = .ok (.if_icmp .ne 10, 3) := by decide +kernel
theorem dX10_fault_16 : decode cX10_fault 16 = .ok (.aload_n 0, 1) := by decide +kernel
theorem dX10_fault_17 : decode cX10_fault 17 = .ok (.getfield 55, 3) := by decide +kernel
theorem dX10_fault_20 : decode cX10_fault 20 = .ok (.goto 4, 3) := by decide +kernel
theorem dX10_fault_23 : decode cX10_fault 23 = .ok (.iconst (-1), 1) := by decide +kernel
theorem dX10_fault_24 : decode cX10_fault 24 = .ok (.ireturn, 1) := by decide +kernel
theorem dX10_exceptionsOf_0 : decode cX10_exceptionsOf 0 = .ok (.aload_n 0, 1) := by decide +kernel
theorem dX10_exceptionsOf_1 : decode cX10_exceptionsOf 1 = .ok (.iload_n 1, 1) := by decide +kernel
theorem dX10_exceptionsOf_2 : decode cX10_exceptionsOf 2 = .ok (.iload_n 2, 1) := by decide +kernel
theorem dX10_exceptionsOf_3 : decode cX10_exceptionsOf 3 = .ok (.invokevirtual 174, 3) := by decide +kernel
theorem dX10_exceptionsOf_6 : decode cX10_exceptionsOf 6 = .ok (.aload_n 0, 1) := by decide +kernel
theorem dX10_exceptionsOf_7 : decode cX10_exceptionsOf 7 = .ok (.aload_n 0, 1) := by decide +kernel
theorem dX10_exceptionsOf_8 : decode cX10_exceptionsOf 8 = .ok (.iload_n 1, 1) := by decide +kernel
theorem dX10_exceptionsOf_9 : decode cX10_exceptionsOf 9 = .ok (.iload_n 2, 1) := by decide +kernel
theorem dX10_exceptionsOf_10 : decode cX10_exceptionsOf 10 = .ok (.iconst 2, 1) := by decide +kernel
theorem dX10_exceptionsOf_11 : decode cX10_exceptionsOf 11 = .ok (.invokevirtual 73, 3) := by decide +kernel
theorem dX10_exceptionsOf_14 : decode cX10_exceptionsOf 14 = .ok (.invokevirtual 132, 3) := by decide +kernel
theorem dX10_exceptionsOf_17 : decode cX10_exceptionsOf 17 = .ok (.ireturn, 1) := by decide +kernel
theorem dX10_waste_0 : decode cX10_waste 0 = .ok (.aload_n 0, 1) := by decide +kernel
theorem dX10_waste_1 : decode cX10_waste 1 = .ok (.iload_n 1, 1) := by decide +kernel
theorem dX10_waste_2 : decode cX10_waste 2 = .ok (.invokevirtual 216, 3) := by decide +kernel
theorem dX10_waste_5 : decode cX10_waste 5 = .ok (.istore_n 2, 1) := by decide +kernel
theorem dX10_waste_6 : decode cX10_waste 6 = .ok (.iconst 0, 1) := by decide +kernel
theorem dX10_waste_7 : decode cX10_waste 7 = .ok (.istore_n 3, 1) := by decide +kernel
theorem dX10_waste_8 : decode cX10_waste 8 = .ok (.iload_n 3, 1) := by decide +kernel
theorem dX10_waste_9 : decode cX10_waste 9 = .ok (.aload_n 0, 1) := by decide +kernel
theorem dX10_waste_10 : decode cX10_waste 10 = .ok (.iload_n 1, 1) := by decide +kernel
theorem dX10_waste_11 : decode cX10_waste 11 = .ok (.invokevirtual 77, 3) := by decide +kernel
theorem dX10_waste_14 : decode cX10_waste 14 = .ok (.if_icmp .ge 30, 3) := by decide +kernel
theorem dX10_waste_17 : decode cX10_waste 17 = .ok (.iload_n 2, 1) := by decide +kernel
theorem dX10_waste_18 : decode cX10_waste 18 = .ok (.aload_n 0, 1) := by decide +kernel
theorem dX10_waste_19 : decode cX10_waste 19 = .ok (.iload_n 1, 1) := by decide +kernel
theorem dX10_waste_20 : decode cX10_waste 20 = .ok (.aload_n 0, 1) := by decide +kernel
theorem dX10_waste_21 : decode cX10_waste 21 = .ok (.iload_n 1, 1) := by decide +kernel
theorem dX10_waste_22 : decode cX10_waste 22 = .ok (.iload_n 3, 1) := by decide +kernel
theorem dX10_waste_23 : decode cX10_waste 23 = .ok (.invokevirtual 80, 3) := by decide +kernel
theorem dX10_waste_26 : decode cX10_waste 26 = .ok (.aload_n 0, 1) := by decide +kernel
theorem dX10_waste_27 : decode cX10_waste 27 = .ok (.iload_n 1, 1) := by decide +kernel
theorem dX10_waste_28 : decode cX10_waste 28 = .ok (.iload_n 3, 1) := by decide +kernel
theorem dX10_waste_29 : decode cX10_waste 29 = .ok (.iconst 0, 1) := by decide +kernel
theorem dX10_waste_30 : decode cX10_waste 30 = .ok (.invokevirtual 73, 3) := by decide +kernel
theorem dX10_waste_33 : decode cX10_waste 33 = .ok (.invokevirtual 249, 3) := by decide +kernel
theorem dX10_waste_36 : decode cX10_waste 36 = .ok (.isub, 1) := by decide +kernel
theorem dX10_waste_37 : decode cX10_waste 37 = .ok (.istore_n 2, 1) := by decide +kernel
theorem dX10_waste_38 : decode cX10_waste 38 = .ok (.iinc 3 1, 3) := by decide +kernel
theorem dX10_waste_41 : decode cX10_waste 41 = .ok (.goto (-33), 3) := by decide +kernel
theorem dX10_waste_44 : decode cX10_waste 44 = .ok (.iload_n 2, 1) := by decide +kernel
theorem dX10_waste_45 : decode cX10_waste 45 = .ok (.ireturn, 1) := by decide +kernel
theorem dX10_column_0 : decode cX10_column 0 = .ok (.iload_n 1, 1) := by decide +kernel
theorem dX10_column_1 : decode cX10_column 1 = .ok (.invokestatic 84, 3) := by decide +kernel
theorem dX10_column_4 : decode cX10_column 4 = .ok (.ifCond .ne 5, 3) := by decide +kernel
theorem dX10_column_7 : decode cX10_column 7 = .ok (.iconst (-1), 1) := by decide +kernel
theorem dX10_column_8 : decode cX10_column 8 = .ok (.ireturn, 1) := by decide +kernel
theorem dX10_column_9 : decode cX10_column 9 = .ok (.iconst 0, 1) := by decide +kernel
theorem dX10_column_10 : decode cX10_column 10 = .ok (.istore_n 3, 1) := by decide +kernel
theorem dX10_column_11 : decode cX10_column 11 = .ok (.iload_n 2, 1) := by decide +kernel
theorem dX10_column_12 : decode cX10_column 12 = .ok (.tableswitch 139 0 6 #[44, 50, 56, 62, 68, 102, 108], 44) := by decide +kernel
theorem dX10_column_56 : decode cX10_column 56 = .ok (.aload_n 0, 1) := by decide +kernel
theorem dX10_column_57 : decode cX10_column 57 = .ok (.iload_n 1, 1) := by decide +kernel
theorem dX10_column_58 : decode cX10_column 58 = .ok (.invokevirtual 77, 3) := by decide +kernel
theorem dX10_column_61 : decode cX10_column 61 = .ok (.ireturn, 1) := by decide +kernel
theorem dX10_column_62 : decode cX10_column 62 = .ok (.aload_n 0, 1) := by decide +kernel
theorem dX10_column_63 : decode cX10_column 63 = .ok (.iload_n 1, 1) := by decide +kernel
theorem dX10_column_64 : decode cX10_column 64 = .ok (.invokevirtual 88, 3) := by decide +kernel
theorem dX10_column_67 : decode cX10_column 67 = .ok (.ireturn, 1) := by decide +kernel
theorem dX10_column_68 : decode cX10_column 68 = .ok (.aload_n 0, 1) := by decide +kernel
theorem dX10_column_69 : decode cX10_column 69 = .ok (.iload_n 1, 1) := by decide +kernel
theorem dX10_column_70 : decode cX10_column 70 = .ok (.invokevirtual 240, 3) := by decide +kernel
theorem dX10_column_73 : decode cX10_column 73 = .ok (.ireturn, 1) := by decide +kernel
theorem dX10_column_74 : decode cX10_column 74 = .ok (.aload_n 0, 1) := by decide +kernel
theorem dX10_column_75 : decode cX10_column 75 = .ok (.iload_n 1, 1) := by decide +kernel
theorem dX10_column_76 : decode cX10_column 76 = .ok (.invokevirtual 216, 3) := by decide +kernel
theorem dX10_column_79 : decode cX10_column 79 = .ok (.ireturn, 1) := by decide +kernel
theorem dX10_column_80 : decode cX10_column 80 = .ok (.iconst 0, 1) := by decide +kernel
theorem dX10_column_81 : decode cX10_column 81 = .ok (.istore 4, 2) := by decide +kernel
theorem dX10_column_83 : decode cX10_column 83 = .ok (.iload 4, 2) := by decide +kernel
theorem dX10_column_85 : decode cX10_column 85 = .ok (.aload_n 0, 1) := by decide +kernel
theorem dX10_column_86 : decode cX10_column 86 = .ok (.iload_n 1, 1) := by decide +kernel
theorem dX10_column_87 : decode cX10_column 87 = .ok (.invokevirtual 77, 3) := by decide +kernel
theorem dX10_column_90 : decode cX10_column 90 = .ok (.if_icmp .ge 22, 3) := by decide +kernel
theorem dX10_column_93 : decode cX10_column 93 = .ok (.iload_n 3, 1) := by decide +kernel
theorem dX10_column_94 : decode cX10_column 94 = .ok (.aload_n 0, 1) := by decide +kernel
theorem dX10_column_95 : decode cX10_column 95 = .ok (.iload_n 1, 1) := by decide +kernel
theorem dX10_column_96 : decode cX10_column 96 = .ok (.iload 4, 2) := by decide +kernel
theorem dX10_column_98 : decode cX10_column 98 = .ok (.invokevirtual 177, 3) := by decide +kernel
theorem dX10_column_101 : decode cX10_column 101 = .ok (.invokestatic 284, 3) := by decide +kernel
theorem dX10_column_104 : decode cX10_column 104 = .ok (.iadd, 1) := by decide +kernel
theorem dX10_column_105 : decode cX10_column 105 = .ok (.istore_n 3, 1) := by decide +kernel
theorem dX10_column_106 : decode cX10_column 106 = .ok (.iinc 4 1, 3) := by decide +kernel
theorem dX10_column_109 : decode cX10_column 109 = .ok (.goto (-26), 3) := by decide +kernel
theorem dX10_column_112 : decode cX10_column 112 = .ok (.iload_n 3, 1) := by decide +kernel
theorem dX10_column_113 : decode cX10_column 113 = .ok (.ireturn, 1) := by decide +kernel
theorem dX10_column_114 : decode cX10_column 114 = .ok (.aload_n 0, 1) := by decide +kernel
theorem dX10_column_115 : decode cX10_column 115 = .ok (.iload_n 1, 1) := by decide +kernel
theorem dX10_column_116 : decode cX10_column 116 = .ok (.invokevirtual 351, 3) := by decide +kernel
theorem dX10_column_119 : decode cX10_column 119 = .ok (.ireturn, 1) := by decide +kernel
theorem dX10_column_120 : decode cX10_column 120 = .ok (.iconst 0, 1) := by decide +kernel
theorem dX10_column_121 : decode cX10_column 121 = .ok (.istore 4, 2) := by decide +kernel
theorem dX10_column_123 : decode cX10_column 123 = .ok (.iload 4, 2) := by decide +kernel
theorem dX10_column_125 : decode cX10_column 125 = .ok (.aload_n 0, 1) := by decide +kernel
theorem dX10_column_126 : decode cX10_column 126 = .ok (.iload_n 1, 1) := by decide +kernel
theorem dX10_column_127 : decode cX10_column 127 = .ok (.invokevirtual 77, 3) := by decide +kernel
theorem dX10_column_130 : decode cX10_column 130 = .ok (.if_icmp .ge 19, 3) := by decide +kernel
theorem dX10_column_133 : decode cX10_column 133 = .ok (.iload_n 3, 1) := by decide +kernel
theorem dX10_column_134 : decode cX10_column 134 = .ok (.aload_n 0, 1) := by decide +kernel
theorem dX10_column_135 : decode cX10_column 135 = .ok (.iload_n 1, 1) := by decide +kernel
theorem dX10_column_136 : decode cX10_column 136 = .ok (.iload 4, 2) := by decide +kernel
theorem dX10_column_138 : decode cX10_column 138 = .ok (.invokevirtual 354, 3) := by decide +kernel
theorem dX10_column_141 : decode cX10_column 141 = .ok (.iadd, 1) := by decide +kernel
theorem dX10_column_142 : decode cX10_column 142 = .ok (.istore_n 3, 1) := by decide +kernel
theorem dX10_column_143 : decode cX10_column 143 = .ok (.iinc 4 1, 3) := by decide +kernel
theorem dX10_column_146 : decode cX10_column 146 = .ok (.goto (-23), 3) := by decide +kernel
theorem dX10_column_149 : decode cX10_column 149 = .ok (.iload_n 3, 1) := by decide +kernel
theorem dX10_column_150 : decode cX10_column 150 = .ok (.ireturn, 1) := by decide +kernel
theorem dX10_column_151 : decode cX10_column 151 = .ok (.iconst (-1), 1) := by decide +kernel
theorem dX10_column_152 : decode cX10_column 152 = .ok (.ireturn, 1) := by decide +kernel
theorem dX10_isLike_0 : decode cX10_isLike 0 = .ok (.iload_n 3, 1) := by decide +kernel
theorem dX10_isLike_1 : decode cX10_isLike 1 = .ok (.iconst (-1), 1) := by decide +kernel
theorem dX10_isLike_2 : decode cX10_isLike 2 = .ok (.if_icmp .eq 14, 3) := by decide +kernel
theorem dX10_isLike_5 : decode cX10_isLike 5 = .ok (.aload_n 0, 1) := by decide +kernel
theorem dX10_isLike_6 : decode cX10_isLike 6 = .ok (.iload_n 1, 1) := by decide +kernel
theorem dX10_isLike_7 : decode cX10_isLike 7 = .ok (.iload_n 2, 1) := by decide +kernel
theorem dX10_isLike_8 : decode cX10_isLike 8 = .ok (.iconst 1, 1) := by decide +kernel
theorem dX10_isLike_9 : decode cX10_isLike 9 = .ok (.invokevirtual 73, 3) := by decide +kernel
theorem dX10_isLike_12 : decode cX10_isLike 12 = .ok (.iload_n 3, 1) := by decide +kernel
theorem dX10_isLike_13 : decode cX10_isLike 13 = .ok (.if_icmp .ne 25, 3) := by decide +kernel
theorem dX10_isLike_16 : decode cX10_isLike 16 = .ok (.iload 4, 2) := by decide +kernel
theorem dX10_isLike_18 : decode cX10_isLike 18 = .ok (.iconst (-1), 1) := by decide +kernel
theorem dX10_isLike_19 : decode cX10_isLike 19 = .ok (.if_icmp .eq 15, 3) := by decide +kernel
theorem dX10_isLike_22 : decode cX10_isLike 22 = .ok (.aload_n 0, 1) := by decide +kernel
theorem dX10_isLike_23 : decode cX10_isLike 23 = .ok (.iload_n 1, 1) := by decide +kernel
theorem dX10_isLike_24 : decode cX10_isLike 24 = .ok (.iload_n 2, 1) := by decide +kernel
theorem dX10_isLike_25 : decode cX10_isLike 25 = .ok (.iconst 2, 1) := by decide +kernel
theorem dX10_isLike_26 : decode cX10_isLike 26 = .ok (.invokevirtual 73, 3) := by decide +kernel
theorem dX10_isLike_29 : decode cX10_isLike 29 = .ok (.iload 4, 2) := by decide +kernel
theorem dX10_isLike_31 : decode cX10_isLike 31 = .ok (.if_icmp .ne 7, 3) := by decide +kernel
theorem dX10_isLike_34 : decode cX10_isLike 34 = .ok (.iconst 1, 1) := by decide +kernel
theorem dX10_isLike_35 : decode cX10_isLike 35 = .ok (.goto 4, 3) := by decide +kernel
theorem dX10_isLike_38 : decode cX10_isLike 38 = .ok (.iconst 0, 1) := by decide +kernel
theorem dX10_isLike_39 : decode cX10_isLike 39 = .ok (.ireturn, 1) := by decide +kernel
theorem dX10_like_0 : decode cX10_like 0 = .ok (.iload_n 1, 1) := by decide +kernel
theorem dX10_like_1 : decode cX10_like 1 = .ok (.invokestatic 84, 3) := by decide +kernel
theorem dX10_like_4 : decode cX10_like 4 = .ok (.ifCond .eq 22, 3) := by decide +kernel
theorem dX10_like_7 : decode cX10_like 7 = .ok (.iload_n 2, 1) := by decide +kernel
theorem dX10_like_8 : decode cX10_like 8 = .ok (.iconst (-1), 1) := by decide +kernel
theorem dX10_like_9 : decode cX10_like 9 = .ok (.iconst 2, 1) := by decide +kernel
theorem dX10_like_10 : decode cX10_like 10 = .ok (.invokestatic 65, 3) := by decide +kernel
theorem dX10_like_13 : decode cX10_like 13 = .ok (.ifCond .eq 13, 3) := by decide +kernel
theorem dX10_like_16 : decode cX10_like 16 = .ok (.iload_n 3, 1) := by decide +kernel
theorem dX10_like_17 : decode cX10_like 17 = .ok (.iconst (-1), 1) := by decide +kernel
theorem dX10_like_18 : decode cX10_like 18 = .ok (.bipush 32, 2) := by decide +kernel
theorem dX10_like_20 : decode cX10_like 20 = .ok (.invokestatic 65, 3) := by decide +kernel
theorem dX10_like_23 : decode cX10_like 23 = .ok (.ifCond .ne 5, 3) := by decide +kernel
theorem dX10_like_26 : decode cX10_like 26 = .ok (.iconst (-1), 1) := by decide +kernel
theorem dX10_like_27 : decode cX10_like 27 = .ok (.ireturn, 1) := by decide +kernel
theorem dX10_like_28 : decode cX10_like 28 = .ok (.iconst 0, 1) := by decide +kernel
theorem dX10_like_29 : decode cX10_like 29 = .ok (.istore 4, 2) := by decide +kernel
theorem dX10_like_31 : decode cX10_like 31 = .ok (.iconst 0, 1) := by decide +kernel
theorem dX10_like_32 : decode cX10_like 32 = .ok (.istore 5, 2) := by decide +kernel
theorem dX10_like_34 : decode cX10_like 34 = .ok (.iload 5, 2) := by decide +kernel
theorem dX10_like_36 : decode cX10_like 36 = .ok (.aload_n 0, 1) := by decide +kernel
theorem dX10_like_37 : decode cX10_like 37 = .ok (.iload_n 1, 1) := by decide +kernel
theorem dX10_like_38 : decode cX10_like 38 = .ok (.invokevirtual 77, 3) := by decide +kernel
theorem dX10_like_41 : decode cX10_like 41 = .ok (.if_icmp .ge 31, 3) := by decide +kernel
theorem dX10_like_44 : decode cX10_like 44 = .ok (.iload 4, 2) := by decide +kernel
theorem dX10_like_46 : decode cX10_like 46 = .ok (.aload_n 0, 1) := by decide +kernel
theorem dX10_like_47 : decode cX10_like 47 = .ok (.iload_n 1, 1) := by decide +kernel
theorem dX10_like_48 : decode cX10_like 48 = .ok (.iload 5, 2) := by decide +kernel
theorem dX10_like_50 : decode cX10_like 50 = .ok (.iload_n 2, 1) := by decide +kernel
theorem dX10_like_51 : decode cX10_like 51 = .ok (.iload_n 3, 1) := by decide +kernel
theorem dX10_like_52 : decode cX10_like 52 = .ok (.invokevirtual 357, 3) := by decide +kernel
theorem dX10_like_55 : decode cX10_like 55 = .ok (.ifCond .eq 7, 3) := by decide +kernel
theorem dX10_like_58 : decode cX10_like 58 = .ok (.iconst 1, 1) := by decide +kernel
theorem dX10_like_59 : decode cX10_like 59 = .ok (.goto 4, 3) := by decide +kernel
theorem dX10_like_62 : decode cX10_like 62 = .ok (.iconst 0, 1) := by decide +kernel
theorem dX10_like_63 : decode cX10_like 63 = .ok (.iadd, 1) := by decide +kernel
theorem dX10_like_64 : decode cX10_like 64 = .ok (.istore 4, 2) := by decide +kernel
theorem dX10_like_66 : decode cX10_like 66 = .ok (.iinc 5 1, 3) := by decide +kernel
theorem dX10_like_69 : decode cX10_like 69 = .ok (.goto (-35), 3) := by decide +kernel
theorem dX10_like_72 : decode cX10_like 72 = .ok (.iload 4, 2) := by decide +kernel
theorem dX10_like_74 : decode cX10_like 74 = .ok (.ireturn, 1) := by decide +kernel
theorem dX10_filled_0 : decode cX10_filled 0 = .ok (.iload_n 1, 1) := by decide +kernel
theorem dX10_filled_1 : decode cX10_filled 1 = .ok (.invokestatic 84, 3) := by decide +kernel
theorem dX10_filled_4 : decode cX10_filled 4 = .ok (.ifCond .ne 5, 3) := by decide +kernel
theorem dX10_filled_7 : decode cX10_filled 7 = .ok (.iconst (-1), 1) := by decide +kernel
theorem dX10_filled_8 : decode cX10_filled 8 = .ok (.ireturn, 1) := by decide +kernel
theorem dX10_filled_9 : decode cX10_filled 9 = .ok (.iconst 0, 1) := by decide +kernel
theorem dX10_filled_10 : decode cX10_filled 10 = .ok (.istore_n 2, 1) := by decide +kernel
theorem dX10_filled_11 : decode cX10_filled 11 = .ok (.iconst 0, 1) := by decide +kernel
theorem dX10_filled_12 : decode cX10_filled 12 = .ok (.istore_n 3, 1) := by decide +kernel
theorem dX10_filled_13 : decode cX10_filled 13 = .ok (.iload_n 3, 1) := by decide +kernel
theorem dX10_filled_14 : decode cX10_filled 14 = .ok (.aload_n 0, 1) := by decide +kernel
theorem dX10_filled_15 : decode cX10_filled 15 = .ok (.iload_n 1, 1) := by decide +kernel
theorem dX10_filled_16 : decode cX10_filled 16 = .ok (.invokevirtual 77, 3) := by decide +kernel
theorem dX10_filled_19 : decode cX10_filled 19 = .ok (.if_icmp .ge 31, 3) := by decide +kernel
theorem dX10_filled_22 : decode cX10_filled 22 = .ok (.iload_n 2, 1) := by decide +kernel
theorem dX10_filled_23 : decode cX10_filled 23 = .ok (.bipush 32, 2) := by decide +kernel
theorem dX10_filled_25 : decode cX10_filled 25 = .ok (.aload_n 0, 1) := by decide +kernel
theorem dX10_filled_26 : decode cX10_filled 26 = .ok (.iload_n 1, 1) := by decide +kernel
theorem dX10_filled_27 : decode cX10_filled 27 = .ok (.iload_n 3, 1) := by decide +kernel
theorem dX10_filled_28 : decode cX10_filled 28 = .ok (.invokevirtual 177, 3) := by decide +kernel
theorem dX10_filled_31 : decode cX10_filled 31 = .ok (.invokestatic 284, 3) := by decide +kernel
theorem dX10_filled_34 : decode cX10_filled 34 = .ok (.imul, 1) := by decide +kernel
theorem dX10_filled_35 : decode cX10_filled 35 = .ok (.aload_n 0, 1) := by decide +kernel
theorem dX10_filled_36 : decode cX10_filled 36 = .ok (.iload_n 1, 1) := by decide +kernel
theorem dX10_filled_37 : decode cX10_filled 37 = .ok (.iload_n 3, 1) := by decide +kernel
theorem dX10_filled_38 : decode cX10_filled 38 = .ok (.invokevirtual 177, 3) := by decide +kernel
theorem dX10_filled_41 : decode cX10_filled 41 = .ok (.isub, 1) := by decide +kernel
theorem dX10_filled_42 : decode cX10_filled 42 = .ok (.iadd, 1) := by decide +kernel
theorem dX10_filled_43 : decode cX10_filled 43 = .ok (.istore_n 2, 1) := by decide +kernel
theorem dX10_filled_44 : decode cX10_filled 44 = .ok (.iinc 3 1, 3) := by decide +kernel
theorem dX10_filled_47 : decode cX10_filled 47 = .ok (.goto (-34), 3) := by decide +kernel
theorem dX10_filled_50 : decode cX10_filled 50 = .ok (.iload_n 2, 1) := by decide +kernel
theorem dX10_filled_51 : decode cX10_filled 51 = .ok (.ireturn, 1) := by decide +kernel
theorem dX10_empties_0 : decode cX10_empties 0 = .ok (.iload_n 1, 1) := by decide +kernel
theorem dX10_empties_1 : decode cX10_empties 1 = .ok (.invokestatic 84, 3) := by decide +kernel
theorem dX10_empties_4 : decode cX10_empties 4 = .ok (.ifCond .eq 21, 3) := by decide +kernel
theorem dX10_empties_7 : decode cX10_empties 7 = .ok (.iload_n 2, 1) := by decide +kernel
theorem dX10_empties_8 : decode cX10_empties 8 = .ok (.ifCond .lt 17, 3) := by decide +kernel
theorem dX10_empties_11 : decode cX10_empties 11 = .ok (.iload_n 2, 1) := by decide +kernel
theorem dX10_empties_12 : decode cX10_empties 12 = .ok (.iload_n 3, 1) := by decide +kernel
theorem dX10_empties_13 : decode cX10_empties 13 = .ok (.if_icmp .gt 12, 3) := by decide +kernel
theorem dX10_empties_16 : decode cX10_empties 16 = .ok (.iload_n 3, 1) := by decide +kernel
theorem dX10_empties_17 : decode cX10_empties 17 = .ok (.aload_n 0, 1) := by decide +kernel
theorem dX10_empties_18 : decode cX10_empties 18 = .ok (.iload_n 1, 1) := by decide +kernel
theorem dX10_empties_19 : decode cX10_empties 19 = .ok (.invokevirtual 88, 3) := by decide +kernel
theorem dX10_empties_22 : decode cX10_empties 22 = .ok (.if_icmp .le 5, 3) := by decide +kernel
theorem dX10_empties_25 : decode cX10_empties 25 = .ok (.iconst (-1), 1) := by decide +kernel
theorem dX10_empties_26 : decode cX10_empties 26 = .ok (.ireturn, 1) := by decide +kernel
theorem dX10_empties_27 : decode cX10_empties 27 = .ok (.iconst 0, 1) := by decide +kernel
theorem dX10_empties_28 : decode cX10_empties 28 = .ok (.istore 4, 2) := by decide +kernel
theorem dX10_empties_30 : decode cX10_empties 30 = .ok (.iload_n 2, 1) := by decide +kernel
theorem dX10_empties_31 : decode cX10_empties 31 = .ok (.istore 5, 2) := by decide +kernel
theorem dX10_empties_33 : decode cX10_empties 33 = .ok (.iload 5, 2) := by decide +kernel
theorem dX10_empties_35 : decode cX10_empties 35 = .ok (.iload_n 3, 1) := by decide +kernel
theorem dX10_empties_36 : decode cX10_empties 36 = .ok (.if_icmp .ge 29, 3) := by decide +kernel
theorem dX10_empties_39 : decode cX10_empties 39 = .ok (.iload 4, 2) := by decide +kernel
theorem dX10_empties_41 : decode cX10_empties 41 = .ok (.aload_n 0, 1) := by decide +kernel
theorem dX10_empties_42 : decode cX10_empties 42 = .ok (.iload_n 1, 1) := by decide +kernel
theorem dX10_empties_43 : decode cX10_empties 43 = .ok (.iload 5, 2) := by decide +kernel
theorem dX10_empties_45 : decode cX10_empties 45 = .ok (.invokevirtual 97, 3) := by decide +kernel
theorem dX10_empties_48 : decode cX10_empties 48 = .ok (.ifCond .eq 7, 3) := by decide +kernel
theorem dX10_empties_51 : decode cX10_empties 51 = .ok (.iconst 1, 1) := by decide +kernel
theorem dX10_empties_52 : decode cX10_empties 52 = .ok (.goto 4, 3) := by decide +kernel
theorem dX10_empties_55 : decode cX10_empties 55 = .ok (.iconst 0, 1) := by decide +kernel
theorem dX10_empties_56 : decode cX10_empties 56 = .ok (.iadd, 1) := by decide +kernel
theorem dX10_empties_57 : decode cX10_empties 57 = .ok (.istore 4, 2) := by decide +kernel
theorem dX10_empties_59 : decode cX10_empties 59 = .ok (.iinc 5 1, 3) := by decide +kernel
theorem dX10_empties_62 : decode cX10_empties 62 = .ok (.goto (-29), 3) := by decide +kernel
theorem dX10_empties_65 : decode cX10_empties 65 = .ok (.iload 4, 2) := by decide +kernel
theorem dX10_empties_67 : decode cX10_empties 67 = .ok (.ireturn, 1) := by decide +kernel
theorem dX10_block_0 : decode cX10_block 0 = .ok (.aload_n 0, 1) := by decide +kernel
theorem dX10_block_1 : decode cX10_block 1 = .ok (.iload_n 1, 1) := by decide +kernel
theorem dX10_block_2 : decode cX10_block 2 = .ok (.iload_n 2, 1) := by decide +kernel
theorem dX10_block_3 : decode cX10_block 3 = .ok (.invokevirtual 225, 3) := by decide +kernel
theorem dX10_block_6 : decode cX10_block 6 = .ok (.ifCond .ne 5, 3) := by decide +kernel
theorem dX10_block_9 : decode cX10_block 9 = .ok (.iconst (-1), 1) := by decide +kernel
theorem dX10_block_10 : decode cX10_block 10 = .ok (.ireturn, 1) := by decide +kernel
theorem dX10_block_11 : decode cX10_block 11 = .ok (.aload_n 0, 1) := by decide +kernel
theorem dX10_block_12 : decode cX10_block 12 = .ok (.iload_n 1, 1) := by decide +kernel
theorem dX10_block_13 : decode cX10_block 13 = .ok (.iload_n 2, 1) := by decide +kernel
theorem dX10_block_14 : decode cX10_block 14 = .ok (.invokevirtual 160, 3) := by decide +kernel
theorem dX10_block_17 : decode cX10_block 17 = .ok (.iload_n 3, 1) := by decide +kernel
theorem dX10_block_18 : decode cX10_block 18 = .ok (.tableswitch 103 0 7 #[46, 51, 56, 64, 72, 79, 86, 96], 46) := by decide +kernel
theorem dX10_block_64 : decode cX10_block 64 = .ok (.aload_n 0, 1) := by decide +kernel
theorem dX10_block_65 : decode cX10_block 65 = .ok (.getfield 91, 3) := by decide +kernel
theorem dX10_block_68 : decode cX10_block 68 = .ok (.ireturn, 1) := by decide +kernel
theorem dX10_block_69 : decode cX10_block 69 = .ok (.aload_n 0, 1) := by decide +kernel
theorem dX10_block_70 : decode cX10_block 70 = .ok (.getfield 94, 3) := by decide +kernel
theorem dX10_block_73 : decode cX10_block 73 = .ok (.ireturn, 1) := by decide +kernel
theorem dX10_block_74 : decode cX10_block 74 = .ok (.aload_n 0, 1) := by decide +kernel
theorem dX10_block_75 : decode cX10_block 75 = .ok (.iload_n 1, 1) := by decide +kernel
theorem dX10_block_76 : decode cX10_block 76 = .ok (.iload_n 2, 1) := by decide +kernel
theorem dX10_block_77 : decode cX10_block 77 = .ok (.iconst 1, 1) := by decide +kernel
theorem dX10_block_78 : decode cX10_block 78 = .ok (.invokevirtual 73, 3) := by decide +kernel
theorem dX10_block_81 : decode cX10_block 81 = .ok (.ireturn, 1) := by decide +kernel
theorem dX10_block_82 : decode cX10_block 82 = .ok (.aload_n 0, 1) := by decide +kernel
theorem dX10_block_83 : decode cX10_block 83 = .ok (.iload_n 1, 1) := by decide +kernel
theorem dX10_block_84 : decode cX10_block 84 = .ok (.iload_n 2, 1) := by decide +kernel
theorem dX10_block_85 : decode cX10_block 85 = .ok (.iconst 2, 1) := by decide +kernel
theorem dX10_block_86 : decode cX10_block 86 = .ok (.invokevirtual 73, 3) := by decide +kernel
theorem dX10_block_89 : decode cX10_block 89 = .ok (.ireturn, 1) := by decide +kernel
theorem dX10_block_90 : decode cX10_block 90 = .ok (.aload_n 0, 1) := by decide +kernel
theorem dX10_block_91 : decode cX10_block 91 = .ok (.iload_n 1, 1) := by decide +kernel
theorem dX10_block_92 : decode cX10_block 92 = .ok (.iload_n 2, 1) := by decide +kernel
theorem dX10_block_93 : decode cX10_block 93 = .ok (.invokevirtual 354, 3) := by decide +kernel
theorem dX10_block_96 : decode cX10_block 96 = .ok (.ireturn, 1) := by decide +kernel
theorem dX10_block_97 : decode cX10_block 97 = .ok (.aload_n 0, 1) := by decide +kernel
theorem dX10_block_98 : decode cX10_block 98 = .ok (.iload_n 1, 1) := by decide +kernel
theorem dX10_block_99 : decode cX10_block 99 = .ok (.iload_n 2, 1) := by decide +kernel
theorem dX10_block_100 : decode cX10_block 100 = .ok (.invokevirtual 177, 3) := by decide +kernel
theorem dX10_block_103 : decode cX10_block 103 = .ok (.ireturn, 1) := by decide +kernel
theorem dX10_block_104 : decode cX10_block 104 = .ok (.aload_n 0, 1) := by decide +kernel
theorem dX10_block_105 : decode cX10_block 105 = .ok (.iload_n 1, 1) := by decide +kernel
theorem dX10_block_106 : decode cX10_block 106 = .ok (.iload_n 2, 1) := by decide +kernel
theorem dX10_block_107 : decode cX10_block 107 = .ok (.invokevirtual 177, 3) := by decide +kernel
theorem dX10_block_110 : decode cX10_block 110 = .ok (.invokestatic 284, 3) := by decide +kernel
theorem dX10_block_113 : decode cX10_block 113 = .ok (.ireturn, 1) := by decide +kernel
theorem dX10_block_114 : decode cX10_block 114 = .ok (.aload_n 0, 1) := by decide +kernel
theorem dX10_block_115 : decode cX10_block 115 = .ok (.iload_n 1, 1) := by decide +kernel
theorem dX10_block_116 : decode cX10_block 116 = .ok (.iload_n 2, 1) := by decide +kernel
theorem dX10_block_117 : decode cX10_block 117 = .ok (.invokevirtual 80, 3) := by decide +kernel
theorem dX10_block_120 : decode cX10_block 120 = .ok (.ireturn, 1) := by decide +kernel
theorem dX10_block_121 : decode cX10_block 121 = .ok (.iconst (-1), 1) := by decide +kernel
theorem dX10_block_122 : decode cX10_block 122 = .ok (.ireturn, 1) := by decide +kernel
theorem dX10_base_0 : decode cX10_base 0 = .ok (.aload_n 0, 1) := by decide +kernel
theorem dX10_base_1 : decode cX10_base 1 = .ok (.iload_n 1, 1) := by decide +kernel
theorem dX10_base_2 : decode cX10_base 2 = .ok (.iload_n 2, 1) := by decide +kernel
theorem dX10_base_3 : decode cX10_base 3 = .ok (.invokevirtual 225, 3) := by decide +kernel
theorem dX10_base_6 : decode cX10_base 6 = .ok (.ifCond .eq 12, 3) := by decide +kernel
theorem dX10_base_9 : decode cX10_base 9 = .ok (.iload_n 3, 1) := by decide +kernel
theorem dX10_base_10 : decode cX10_base 10 = .ok (.iconst 0, 1) := by decide +kernel
theorem dX10_base_11 : decode cX10_base 11 = .ok (.iconst 1, 1) := by decide +kernel
theorem dX10_base_12 : decode cX10_base 12 = .ok (.invokestatic 65, 3) := by decide +kernel
theorem dX10_base_15 : decode cX10_base 15 = .ok (.ifCond .ne 5, 3) := by decide +kernel
theorem dX10_base_18 : decode cX10_base 18 = .ok (.iconst 0, 1) := by decide +kernel
theorem dX10_base_19 : decode cX10_base 19 = .ok (.ireturn, 1) := by decide +kernel
theorem dX10_base_20 : decode cX10_base 20 = .ok (.iload_n 3, 1) := by decide +kernel
theorem dX10_base_21 : decode cX10_base 21 = .ok (.ifCond .ne 12, 3) := by decide +kernel
theorem dX10_base_24 : decode cX10_base 24 = .ok (.aload_n 0, 1) := by decide +kernel
theorem dX10_base_25 : decode cX10_base 25 = .ok (.iload_n 1, 1) := by decide +kernel
theorem dX10_base_26 : decode cX10_base 26 = .ok (.iload_n 2, 1) := by decide +kernel
theorem dX10_base_27 : decode cX10_base 27 = .ok (.invokevirtual 277, 3) := by decide +kernel
theorem dX10_base_30 : decode cX10_base 30 = .ok (.goto 10, 3) := by decide +kernel

