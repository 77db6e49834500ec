theorem dL_areLights_199 : decode cL_areLights 199 = .ok (.if_icmp .ne 7, 3) := by decide +kernel
theorem dL_areLights_202 : decode cL_areLights 202 = .ok (.iconst 1, 1) := by decide +kernel
theorem dL_areLights_203 : decode cL_areLights 203 = .ok (.goto 4, 3) := by decide +kernel
theorem dL_areLights_206 : decode cL_areLights 206 = .ok (.iconst 0, 1) := by decide +kernel
theorem dL_areLights_207 : decode cL_areLights 207 = .ok (.istore_n 3, 1) := by decide +kernel
theorem dL_areLights_208 : decode cL_areLights 208 = .ok (.iinc 4 1, 3) := by decide +kernel
theorem dL_areLights_211 : decode cL_areLights 211 = .ok (.goto (-98), 3) := by decide +kernel
theorem dL_areLights_214 : decode cL_areLights 214 = .ok (.aload_n 0, 1) := by decide +kernel
theorem dL_areLights_215 : decode cL_areLights 215 = .ok (.invokevirtual 273, 3) := by decide +kernel
theorem dL_areLights_218 : decode cL_areLights 218 = .ok (.istore 4, 2) := by decide +kernel
theorem dL_areLights_220 : decode cL_areLights 220 = .ok (.iload_n 3, 1) := by decide +kernel
theorem dL_areLights_221 : decode cL_areLights 221 = .ok (.ifCond .eq 94, 3) := by decide +kernel
theorem dL_areLights_224 : decode cL_areLights 224 = .ok (.aload_n 0, 1) := by decide +kernel
theorem dL_areLights_225 : decode cL_areLights 225 = .ok (.invokevirtual 276, 3) := by decide +kernel
theorem dL_areLights_228 : decode cL_areLights 228 = .ok (.iload_n 1, 1) := by decide +kernel
theorem dL_areLights_229 : decode cL_areLights 229 = .ok (.if_icmp .ne 86, 3) := by decide +kernel
theorem dL_areLights_232 : decode cL_areLights 232 = .ok (.aload_n 0, 1) := by decide +kernel
theorem dL_areLights_233 : decode cL_areLights 233 = .ok (.invokevirtual 279, 3) := by decide +kernel
theorem dL_areLights_236 : decode cL_areLights 236 = .ok (.iload 4, 2) := by decide +kernel
theorem dL_areLights_238 : decode cL_areLights 238 = .ok (.if_icmp .ne 77, 3) := by decide +kernel
theorem dL_areLights_241 : decode cL_areLights 241 = .ok (.iload 4, 2) := by decide +kernel
theorem dL_areLights_243 : decode cL_areLights 243 = .ok (.aload_n 0, 1) := by decide +kernel
theorem dL_areLights_244 : decode cL_areLights 244 = .ok (.invokevirtual 185, 3) := by decide +kernel
theorem dL_areLights_247 : decode cL_areLights 247 = .ok (.if_icmp .gt 68, 3) := by decide +kernel
theorem dL_areLights_250 : decode cL_areLights 250 = .ok (.iload 4, 2) := by decide +kernel
theorem dL_areLights_252 : decode cL_areLights 252 = .ok (.ifCond .le 7, 3) := by decide +kernel
theorem dL_areLights_255 : decode cL_areLights 255 = .ok (.iconst 1, 1) := by decide +kernel
theorem dL_areLights_256 : decode cL_areLights 256 = .ok (.goto 4, 3) := by decide +kernel
theorem dL_areLights_259 : decode cL_areLights 259 = .ok (.iconst 0, 1) := by decide +kernel
theorem dL_areLights_260 : decode cL_areLights 260 = .ok (.iload_n 1, 1) := by decide +kernel
theorem dL_areLights_261 : decode cL_areLights 261 = .ok (.ifCond .le 7, 3) := by decide +kernel
theorem dL_areLights_264 : decode cL_areLights 264 = .ok (.iconst 1, 1) := by decide +kernel
theorem dL_areLights_265 : decode cL_areLights 265 = .ok (.goto 4, 3) := by decide +kernel
theorem dL_areLights_268 : decode cL_areLights 268 = .ok (.iconst 0, 1) := by decide +kernel
theorem dL_areLights_269 : decode cL_areLights 269 = .ok (.if_icmp .ne 46, 3) := by decide +kernel
theorem dL_areLights_272 : decode cL_areLights 272 = .ok (.aload_n 0, 1) := by decide +kernel
theorem dL_areLights_273 : decode cL_areLights 273 = .ok (.invokevirtual 282, 3) := by decide +kernel
theorem dL_areLights_276 : decode cL_areLights 276 = .ok (.aload_n 0, 1) := by decide +kernel
theorem dL_areLights_277 : decode cL_areLights 277 = .ok (.invokevirtual 167, 3) := by decide +kernel
theorem dL_areLights_280 : decode cL_areLights 280 = .ok (.if_icmp .ne 35, 3) := by decide +kernel
theorem dL_areLights_283 : decode cL_areLights 283 = .ok (.aload_n 0, 1) := by decide +kernel
theorem dL_areLights_284 : decode cL_areLights 284 = .ok (.invokestatic 285, 3) := by decide +kernel
theorem dL_areLights_287 : decode cL_areLights 287 = .ok (.aload_n 0, 1) := by decide +kernel
theorem dL_areLights_288 : decode cL_areLights 288 = .ok (.invokevirtual 182, 3) := by decide +kernel
theorem dL_areLights_291 : decode cL_areLights 291 = .ok (.ifCond .ne 8, 3) := by decide +kernel
theorem dL_areLights_294 : decode cL_areLights 294 = .ok (.ldc 79, 2) := by decide +kernel
theorem dL_areLights_296 : decode cL_areLights 296 = .ok (.goto 11, 3) := by decide +kernel
theorem dL_areLights_299 : decode cL_areLights 299 = .ok (.iload_n 2, 1) := by decide +kernel
theorem dL_areLights_300 : decode cL_areLights 300 = .ok (.i2f, 1) := by decide +kernel
theorem dL_areLights_301 : decode cL_areLights 301 = .ok (.aload_n 0, 1) := by decide +kernel
theorem dL_areLights_302 : decode cL_areLights 302 = .ok (.invokevirtual 182, 3) := by decide +kernel
theorem dL_areLights_305 : decode cL_areLights 305 = .ok (.i2f, 1) := by decide +kernel
theorem dL_areLights_306 : decode cL_areLights 306 = .ok (.fdiv, 1) := by decide +kernel
theorem dL_areLights_307 : decode cL_areLights 307 = .ok (.fcmp .l, 1) := by decide +kernel
theorem dL_areLights_308 : decode cL_areLights 308 = .ok (.ifCond .ne 7, 3) := by decide +kernel
theorem dL_areLights_311 : decode cL_areLights 311 = .ok (.iconst 1, 1) := by decide +kernel
theorem dL_areLights_312 : decode cL_areLights 312 = .ok (.goto 4, 3) := by decide +kernel
theorem dL_areLights_315 : decode cL_areLights 315 = .ok (.iconst 0, 1) := by decide +kernel
theorem dL_areLights_316 : decode cL_areLights 316 = .ok (.ireturn, 1) := by decide +kernel
theorem dL_areShips_0 : decode cL_areShips 0 = .ok (.aload_n 0, 1) := by decide +kernel
theorem dL_areShips_1 : decode cL_areShips 1 = .ok (.invokevirtual 182, 3) := by decide +kernel
theorem dL_areShips_4 : decode cL_areShips 4 = .ok (.istore_n 1, 1) := by decide +kernel
theorem dL_areShips_5 : decode cL_areShips 5 = .ok (.aload_n 0, 1) := by decide +kernel
theorem dL_areShips_6 : decode cL_areShips 6 = .ok (.iload_n 1, 1) := by decide +kernel
theorem dL_areShips_7 : decode cL_areShips 7 = .ok (.invokestatic 288, 3) := by decide +kernel
theorem dL_areShips_10 : decode cL_areShips 10 = .ok (.sipush (-1000), 3) := by decide +kernel
theorem dL_areShips_13 : decode cL_areShips 13 = .ok (.if_icmp .ne 18, 3) := by decide +kernel
theorem dL_areShips_16 : decode cL_areShips 16 = .ok (.aload_n 0, 1) := by decide +kernel
theorem dL_areShips_17 : decode cL_areShips 17 = .ok (.iconst (-1), 1) := by decide +kernel
theorem dL_areShips_18 : decode cL_areShips 18 = .ok (.invokestatic 288, 3) := by decide +kernel
theorem dL_areShips_21 : decode cL_areShips 21 = .ok (.sipush (-1000), 3) := by decide +kernel
theorem dL_areShips_24 : decode cL_areShips 24 = .ok (.if_icmp .ne 7, 3) := by decide +kernel
theorem dL_areShips_27 : decode cL_areShips 27 = .ok (.iconst 1, 1) := by decide +kernel
theorem dL_areShips_28 : decode cL_areShips 28 = .ok (.goto 4, 3) := by decide +kernel
theorem dL_areShips_31 : decode cL_areShips 31 = .ok (.iconst 0, 1) := by decide +kernel
theorem dL_areShips_32 : decode cL_areShips 32 = .ok (.istore_n 2, 1) := by decide +kernel
theorem dL_areShips_33 : decode cL_areShips 33 = .ok (.iconst 0, 1) := by decide +kernel
theorem dL_areShips_34 : decode cL_areShips 34 = .ok (.istore_n 3, 1) := by decide +kernel
theorem dL_areShips_35 : decode cL_areShips 35 = .ok (.iload_n 2, 1) := by decide +kernel
theorem dL_areShips_36 : decode cL_areShips 36 = .ok (.ifCond .eq 239, 3) := by decide +kernel
theorem dL_areShips_39 : decode cL_areShips 39 = .ok (.iload_n 3, 1) := by decide +kernel
theorem dL_areShips_40 : decode cL_areShips 40 = .ok (.iload_n 1, 1) := by decide +kernel
theorem dL_areShips_41 : decode cL_areShips 41 = .ok (.if_icmp .ge 234, 3) := by decide +kernel
theorem dL_areShips_44 : decode cL_areShips 44 = .ok (.aload_n 0, 1) := by decide +kernel
theorem dL_areShips_45 : decode cL_areShips 45 = .ok (.iload_n 3, 1) := by decide +kernel
theorem dL_areShips_46 : decode cL_areShips 46 = .ok (.invokevirtual 205, 3) := by decide +kernel
theorem dL_areShips_49 : decode cL_areShips 49 = .ok (.istore 4, 2) := by decide +kernel
theorem dL_areShips_51 : decode cL_areShips 51 = .ok (.aload_n 0, 1) := by decide +kernel
theorem dL_areShips_52 : decode cL_areShips 52 = .ok (.iload_n 3, 1) := by decide +kernel
theorem dL_areShips_53 : decode cL_areShips 53 = .ok (.invokevirtual 202, 3) := by decide +kernel
theorem dL_areShips_56 : decode cL_areShips 56 = .ok (.istore 5, 2) := by decide +kernel
theorem dL_areShips_58 : decode cL_areShips 58 = .ok (.aload_n 0, 1) := by decide +kernel
theorem dL_areShips_59 : decode cL_areShips 59 = .ok (.iload_n 3, 1) := by decide +kernel
theorem dL_areShips_60 : decode cL_areShips 60 = .ok (.iload 4, 2) := by decide +kernel
theorem dL_areShips_62 : decode cL_areShips 62 = .ok (.iload 5, 2) := by decide +kernel
theorem dL_areShips_64 : decode cL_areShips 64 = .ok (.invokestatic 290, 3) := by decide +kernel
theorem dL_areShips_67 : decode cL_areShips 67 = .ok (.ifCond .ne 103, 3) := by decide +kernel
theorem dL_areShips_70 : decode cL_areShips 70 = .ok (.aload_n 0, 1) := by decide +kernel
theorem dL_areShips_71 : decode cL_areShips 71 = .ok (.iload_n 3, 1) := by decide +kernel
theorem dL_areShips_72 : decode cL_areShips 72 = .ok (.iload 4, 2) := by decide +kernel
theorem dL_areShips_74 : decode cL_areShips 74 = .ok (.iload 5, 2) := by decide +kernel
theorem dL_areShips_76 : decode cL_areShips 76 = .ok (.invokestatic 292, 3) := by decide +kernel
theorem dL_areShips_79 : decode cL_areShips 79 = .ok (.ifCond .ne 91, 3) := by decide +kernel
theorem dL_areShips_82 : decode cL_areShips 82 = .ok (.aload_n 0, 1) := by decide +kernel
theorem dL_areShips_83 : decode cL_areShips 83 = .ok (.iload_n 3, 1) := by decide +kernel
theorem dL_areShips_84 : decode cL_areShips 84 = .ok (.invokestatic 208, 3) := by decide +kernel
theorem dL_areShips_87 : decode cL_areShips 87 = .ok (.sipush (-1000), 3) := by decide +kernel
theorem dL_areShips_90 : decode cL_areShips 90 = .ok (.if_icmp .ne 7, 3) := by decide +kernel
theorem dL_areShips_93 : decode cL_areShips 93 = .ok (.iconst 1, 1) := by decide +kernel
theorem dL_areShips_94 : decode cL_areShips 94 = .ok (.goto 4, 3) := by decide +kernel
theorem dL_areShips_97 : decode cL_areShips 97 = .ok (.iconst 0, 1) := by decide +kernel
theorem dL_areShips_98 : decode cL_areShips 98 = .ok (.aload_n 0, 1) := by decide +kernel
theorem dL_areShips_99 : decode cL_areShips 99 = .ok (.iload_n 3, 1) := by decide +kernel
theorem dL_areShips_100 : decode cL_areShips 100 = .ok (.invokestatic 210, 3) := by decide +kernel
theorem dL_areShips_103 : decode cL_areShips 103 = .ok (.sipush (-1000), 3) := by decide +kernel
theorem dL_areShips_106 : decode cL_areShips 106 = .ok (.if_icmp .ne 7, 3) := by decide +kernel
theorem dL_areShips_109 : decode cL_areShips 109 = .ok (.iconst 1, 1) := by decide +kernel
theorem dL_areShips_110 : decode cL_areShips 110 = .ok (.goto 4, 3) := by decide +kernel
theorem dL_areShips_113 : decode cL_areShips 113 = .ok (.iconst 0, 1) := by decide +kernel
theorem dL_areShips_114 : decode cL_areShips 114 = .ok (.if_icmp .ne 56, 3) := by decide +kernel
theorem dL_areShips_117 : decode cL_areShips 117 = .ok (.aload_n 0, 1) := by decide +kernel
theorem dL_areShips_118 : decode cL_areShips 118 = .ok (.iload_n 3, 1) := by decide +kernel
theorem dL_areShips_119 : decode cL_areShips 119 = .ok (.invokevirtual 215, 3) := by decide +kernel
theorem dL_areShips_122 : decode cL_areShips 122 = .ok (.ifCond .eq 14, 3) := by decide +kernel
theorem dL_areShips_125 : decode cL_areShips 125 = .ok (.aload_n 0, 1) := by decide +kernel
theorem dL_areShips_126 : decode cL_areShips 126 = .ok (.iload_n 3, 1) := by decide +kernel
theorem dL_areShips_127 : decode cL_areShips 127 = .ok (.invokestatic 210, 3) := by decide +kernel
theorem dL_areShips_130 : decode cL_areShips 130 = .ok (.sipush (-1000), 3) := by decide +kernel
theorem dL_areShips_133 : decode cL_areShips 133 = .ok (.if_icmp .ne 37, 3) := by decide +kernel
theorem dL_areShips_136 : decode cL_areShips 136 = .ok (.aload_n 0, 1) := by decide +kernel
theorem dL_areShips_137 : decode cL_areShips 137 = .ok (.iload_n 3, 1) := by decide +kernel
theorem dL_areShips_138 : decode cL_areShips 138 = .ok (.invokestatic 210, 3) := by decide +kernel
theorem dL_areShips_141 : decode cL_areShips 141 = .ok (.iload 5, 2) := by decide +kernel
theorem dL_areShips_143 : decode cL_areShips 143 = .ok (.if_icmp .ne 13, 3) := by decide +kernel
theorem dL_areShips_146 : decode cL_areShips 146 = .ok (.aload_n 0, 1) := by decide +kernel
theorem dL_areShips_147 : decode cL_areShips 147 = .ok (.iload_n 3, 1) := by decide +kernel
theorem dL_areShips_148 : decode cL_areShips 148 = .ok (.invokestatic 208, 3) := by decide +kernel
theorem dL_areShips_151 : decode cL_areShips 151 = .ok (.iload 4, 2) := by decide +kernel
theorem dL_areShips_153 : decode cL_areShips 153 = .ok (.if_icmp .eq 17, 3) := by decide +kernel
theorem dL_areShips_156 : decode cL_areShips 156 = .ok (.aload_n 0, 1) := by decide +kernel
theorem dL_areShips_157 : decode cL_areShips 157 = .ok (.iload_n 3, 1) := by decide +kernel
theorem dL_areShips_158 : decode cL_areShips 158 = .ok (.invokevirtual 294, 3) := by decide +kernel
theorem dL_areShips_161 : decode cL_areShips 161 = .ok (.bipush 6, 2) := by decide +kernel
theorem dL_areShips_163 : decode cL_areShips 163 = .ok (.if_icmp .lt 7, 3) := by decide +kernel
theorem dL_areShips_166 : decode cL_areShips 166 = .ok (.iconst 1, 1) := by decide +kernel
theorem dL_areShips_167 : decode cL_areShips 167 = .ok (.goto 4, 3) := by decide +kernel
theorem dL_areShips_170 : decode cL_areShips 170 = .ok (.iconst 0, 1) := by decide +kernel
theorem dL_areShips_171 : decode cL_areShips 171 = .ok (.istore_n 2, 1) := by decide +kernel
theorem dL_areShips_172 : decode cL_areShips 172 = .ok (.iconst 0, 1) := by decide +kernel
theorem dL_areShips_173 : decode cL_areShips 173 = .ok (.istore 6, 2) := by decide +kernel
theorem dL_areShips_175 : decode cL_areShips 175 = .ok (.iload_n 2, 1) := by decide +kernel
theorem dL_areShips_176 : decode cL_areShips 176 = .ok (.ifCond .eq 75, 3) := by decide +kernel
theorem dL_areShips_179 : decode cL_areShips 179 = .ok (.iload 6, 2) := by decide +kernel
theorem dL_areShips_181 : decode cL_areShips 181 = .ok (.bipush 64, 2) := by decide +kernel
theorem dL_areShips_183 : decode cL_areShips 183 = .ok (.if_icmp .ge 68, 3) := by decide +kernel
theorem dL_areShips_186 : decode cL_areShips 186 = .ok (.aload_n 0, 1) := by decide +kernel
theorem dL_areShips_187 : decode cL_areShips 187 = .ok (.iload_n 3, 1) := by decide +kernel
theorem dL_areShips_188 : decode cL_areShips 188 = .ok (.iload 6, 2) := by decide +kernel
theorem dL_areShips_190 : decode cL_areShips 190 = .ok (.bipush 8, 2) := by decide +kernel
theorem dL_areShips_192 : decode cL_areShips 192 = .ok (.irem, 1) := by decide +kernel
theorem dL_areShips_193 : decode cL_areShips 193 = .ok (.iload 6, 2) := by decide +kernel
theorem dL_areShips_195 : decode cL_areShips 195 = .ok (.bipush 8, 2) := by decide +kernel
theorem dL_areShips_197 : decode cL_areShips 197 = .ok (.idiv, 1) := by decide +kernel
theorem dL_areShips_198 : decode cL_areShips 198 = .ok (.invokestatic 292, 3) := by decide +kernel
theorem dL_areShips_201 : decode cL_areShips 201 = .ok (.aload_n 0, 1) := by decide +kernel
theorem dL_areShips_202 : decode cL_areShips 202 = .ok (.iload_n 3, 1) := by decide +kernel
theorem dL_areShips_203 : decode cL_areShips 203 = .ok (.iload 6, 2) := by decide +kernel
theorem dL_areShips_205 : decode cL_areShips 205 = .ok (.bipush 8, 2) := by decide +kernel
theorem dL_areShips_207 : decode cL_areShips 207 = .ok (.irem, 1) := by decide +kernel
theorem dL_areShips_208 : decode cL_areShips 208 = .ok (.iload 6, 2) := by decide +kernel
theorem dL_areShips_210 : decode cL_areShips 210 = .ok (.bipush 8, 2) := by decide +kernel
theorem dL_areShips_212 : decode cL_areShips 212 = .ok (.idiv, 1) := by decide +kernel
theorem dL_areShips_213 : decode cL_areShips 213 = .ok (.invokestatic 290, 3) := by decide +kernel
theorem dL_areShips_216 : decode cL_areShips 216 = .ok (.if_icmp .ne 27, 3) := by decide +kernel
theorem dL_areShips_219 : decode cL_areShips 219 = .ok (.aload_n 0, 1) := by decide +kernel
theorem dL_areShips_220 : decode cL_areShips 220 = .ok (.iload_n 3, 1) := by decide +kernel
theorem dL_areShips_221 : decode cL_areShips 221 = .ok (.iload 6, 2) := by decide +kernel
theorem dL_areShips_223 : decode cL_areShips 223 = .ok (.bipush 8, 2) := by decide +kernel
theorem dL_areShips_225 : decode cL_areShips 225 = .ok (.irem, 1) := by decide +kernel
theorem dL_areShips_226 : decode cL_areShips 226 = .ok (.iload 6, 2) := by decide +kernel
theorem dL_areShips_228 : decode cL_areShips 228 = .ok (.bipush 8, 2) := by decide +kernel
theorem dL_areShips_230 : decode cL_areShips 230 = .ok (.idiv, 1) := by decide +kernel
theorem dL_areShips_231 : decode cL_areShips 231 = .ok (.invokestatic 290, 3) := by decide +kernel
theorem dL_areShips_234 : decode cL_areShips 234 = .ok (.bipush 64, 2) := by decide +kernel
theorem dL_areShips_236 : decode cL_areShips 236 = .ok (.if_icmp .ge 7, 3) := by decide +kernel
theorem dL_areShips_239 : decode cL_areShips 239 = .ok (.iconst 1, 1) := by decide +kernel
theorem dL_areShips_240 : decode cL_areShips 240 = .ok (.goto 4, 3) := by decide +kernel
theorem dL_areShips_243 : decode cL_areShips 243 = .ok (.iconst 0, 1) := by decide +kernel
theorem dL_areShips_244 : decode cL_areShips 244 = .ok (.istore_n 2, 1) := by decide +kernel
theorem dL_areShips_245 : decode cL_areShips 245 = .ok (.iinc 6 5, 3) := by decide +kernel
theorem dL_areShips_248 : decode cL_areShips 248 = .ok (.goto (-73), 3) := by decide +kernel
theorem dL_areShips_251 : decode cL_areShips 251 = .ok (.iload_n 2, 1) := by decide +kernel
theorem dL_areShips_252 : decode cL_areShips 252 = .ok (.ifCond .eq 15, 3) := by decide +kernel
theorem dL_areShips_255 : decode cL_areShips 255 = .ok (.aload_n 0, 1) := by decide +kernel
theorem dL_areShips_256 : decode cL_areShips 256 = .ok (.iload_n 3, 1) := by decide +kernel
theorem dL_areShips_257 : decode cL_areShips 257 = .ok (.invokestatic 297, 3) := by decide +kernel
theorem dL_areShips_260 : decode cL_areShips 260 = .ok (.ifCond .eq 7, 3) := by decide +kernel
theorem dL_areShips_263 : decode cL_areShips 263 = .ok (.iconst 1, 1) := by decide +kernel
theorem dL_areShips_264 : decode cL_areShips 264 = .ok (.goto 4, 3) := by decide +kernel
theorem dL_areShips_267 : decode cL_areShips 267 = .ok (.iconst 0, 1) := by decide +kernel
theorem dL_areShips_268 : decode cL_areShips 268 = .ok (.istore_n 2, 1) := by decide +kernel
theorem dL_areShips_269 : decode cL_areShips 269 = .ok (.iinc 3 1, 3) := by decide +kernel
theorem dL_areShips_272 : decode cL_areShips 272 = .ok (.goto (-237), 3) := by decide +kernel
theorem dL_areShips_275 : decode cL_areShips 275 = .ok (.iconst 1, 1) := by decide +kernel
theorem dL_areShips_276 : decode cL_areShips 276 = .ok (.istore_n 3, 1) := by decide +kernel
theorem dL_areShips_277 : decode cL_areShips 277 = .ok (.iload_n 2, 1) := by decide +kernel
theorem dL_areShips_278 : decode cL_areShips 278 = .ok (.ifCond .eq 56, 3) := by decide +kernel
theorem dL_areShips_281 : decode cL_areShips 281 = .ok (.iload_n 3, 1) := by decide +kernel
theorem dL_areShips_282 : decode cL_areShips 282 = .ok (.iload_n 1, 1) := by decide +kernel
theorem dL_areShips_283 : decode cL_areShips 283 = .ok (.if_icmp .ge 51, 3) := by decide +kernel
theorem dL_areShips_286 : decode cL_areShips 286 = .ok (.aload_n 0, 1) := by decide +kernel
theorem dL_areShips_287 : decode cL_areShips 287 = .ok (.iload_n 3, 1) := by decide +kernel
theorem dL_areShips_288 : decode cL_areShips 288 = .ok (.iconst 1, 1) := by decide +kernel
theorem dL_areShips_289 : decode cL_areShips 289 = .ok (.isub, 1) := by decide +kernel
theorem dL_areShips_290 : decode cL_areShips 290 = .ok (.invokestatic 288, 3) := by decide +kernel
theorem dL_areShips_293 : decode cL_areShips 293 = .ok (.istore 4, 2) := by decide +kernel
theorem dL_areShips_295 : decode cL_areShips 295 = .ok (.aload_n 0, 1) := by decide +kernel
theorem dL_areShips_296 : decode cL_areShips 296 = .ok (.iload_n 3, 1) := by decide +kernel
theorem dL_areShips_297 : decode cL_areShips 297 = .ok (.invokestatic 288, 3) := by decide +kernel
theorem dL_areShips_300 : decode cL_areShips 300 = .ok (.istore 5, 2) := by decide +kernel
theorem dL_areShips_302 : decode cL_areShips 302 = .ok (.aload_n 0, 1) := by decide +kernel
theorem dL_areShips_303 : decode cL_areShips 303 = .ok (.iload 4, 2) := by decide +kernel
theorem dL_areShips_305 : decode cL_areShips 305 = .ok (.invokevirtual 212, 3) := by decide +kernel
theorem dL_areShips_308 : decode cL_areShips 308 = .ok (.aload_n 0, 1) := by decide +kernel
theorem dL_areShips_309 : decode cL_areShips 309 = .ok (.iload 5, 2) := by decide +kernel
theorem dL_areShips_311 : decode cL_areShips 311 = .ok (.invokevirtual 212, 3) := by decide +kernel
theorem dL_areShips_314 : decode cL_areShips 314 = .ok (.isub, 1) := by decide +kernel
theorem dL_areShips_315 : decode cL_areShips 315 = .ok (.istore 6, 2) := by decide +kernel
theorem dL_areShips_317 : decode cL_areShips 317 = .ok (.iload 6, 2) := by decide +kernel
theorem dL_areShips_319 : decode cL_areShips 319 = .ok (.ifCond .lt 7, 3) := by decide +kernel
theorem dL_areShips_322 : decode cL_areShips 322 = .ok (.iconst 1, 1) := by decide +kernel
theorem dL_areShips_323 : decode cL_areShips 323 = .ok (.goto 4, 3) := by decide +kernel
theorem dL_areShips_326 : decode cL_areShips 326 = .ok (.iconst 0, 1) := by decide +kernel
theorem dL_areShips_327 : decode cL_areShips 327 = .ok (.istore_n 2, 1) := by decide +kernel
theorem dL_areShips_328 : decode cL_areShips 328 = .ok (.iinc 3 1, 3) := by decide +kernel
theorem dL_areShips_331 : decode cL_areShips 331 = .ok (.goto (-54), 3) := by decide +kernel
theorem dL_areShips_334 : decode cL_areShips 334 = .ok (.iload_n 2, 1) := by decide +kernel
theorem dL_areShips_335 : decode cL_areShips 335 = .ok (.ireturn, 1) := by decide +kernel
theorem dL_isArrived_0 : decode cL_isArrived 0 = .ok (.aload_n 0, 1) := by decide +kernel
theorem dL_isArrived_1 : decode cL_isArrived 1 = .ok (.invokestatic 300, 3) := by decide +kernel
theorem dL_isArrived_4 : decode cL_isArrived 4 = .ok (.lstore_n 2, 1) := by decide +kernel
theorem dL_isArrived_5 : decode cL_isArrived 5 = .ok (.aload_n 0, 1) := by decide +kernel
theorem dL_isArrived_6 : decode cL_isArrived 6 = .ok (.iload_n 1, 1) := by decide +kernel
theorem dL_isArrived_7 : decode cL_isArrived 7 = .ok (.invokestatic 304, 3) := by decide +kernel
theorem dL_isArrived_10 : decode cL_isArrived 10 = .ok (.istore 4, 2) := by decide +kernel
theorem dL_isArrived_12 : decode cL_isArrived 12 = .ok (.aload_n 0, 1) := by decide +kernel
theorem dL_isArrived_13 : decode cL_isArrived 13 = .ok (.iload_n 1, 1) := by decide +kernel
theorem dL_isArrived_14 : decode cL_isArrived 14 = .ok (.invokestatic 208, 3) := by decide +kernel
theorem dL_isArrived_17 : decode cL_isArrived 17 = .ok (.istore 5, 2) := by decide +kernel
theorem dL_isArrived_19 : decode cL_isArrived 19 = .ok (.aload_n 0, 1) := by decide +kernel
theorem dL_isArrived_20 : decode cL_isArrived 20 = .ok (.iload_n 1, 1) := by decide +kernel
theorem dL_isArrived_21 : decode cL_isArrived 21 = .ok (.invokestatic 210, 3) := by decide +kernel
theorem dL_isArrived_24 : decode cL_isArrived 24 = .ok (.istore 6, 2) := by decide +kernel
theorem dL_isArrived_26 : decode cL_isArrived 26 = .ok (.iload 4, 2) := by decide +kernel
theorem dL_isArrived_28 : decode cL_isArrived 28 = .ok (.sipush (-1000), 3) := by decide +kernel
theorem dL_isArrived_31 : decode cL_isArrived 31 = .ok (.if_icmp .ne 18, 3) := by decide +kernel
theorem dL_isArrived_34 : decode cL_isArrived 34 = .ok (.aload_n 0, 1) := by decide +kernel
theorem dL_isArrived_35 : decode cL_isArrived 35 = .ok (.invokestatic 300, 3) := by decide +kernel
theorem dL_isArrived_38 : decode cL_isArrived 38 = .ok (.lload_n 2, 1) := by decide +kernel
theorem dL_isArrived_39 : decode cL_isArrived 39 = .ok (.lcmp, 1) := by decide +kernel
theorem dL_isArrived_40 : decode cL_isArrived 40 = .ok (.ifCond .ne 7, 3) := by decide +kernel
theorem dL_isArrived_43 : decode cL_isArrived 43 = .ok (.iconst 1, 1) := by decide +kernel
theorem dL_isArrived_44 : decode cL_isArrived 44 = .ok (.goto 4, 3) := by decide +kernel
theorem dL_isArrived_47 : decode cL_isArrived 47 = .ok (.iconst 0, 1) := by decide +kernel
theorem dL_isArrived_48 : decode cL_isArrived 48 = .ok (.ireturn, 1) := by decide +kernel
theorem dL_isArrived_49 : decode cL_isArrived 49 = .ok (.iload 4, 2) := by decide +kernel
theorem dL_isArrived_51 : decode cL_isArrived 51 = .ok (.ifCond .le 23, 3) := by decide +kernel
theorem dL_isArrived_54 : decode cL_isArrived 54 = .ok (.iload 4, 2) := by decide +kernel
theorem dL_isArrived_56 : decode cL_isArrived 56 = .ok (.bipush 48, 2) := by decide +kernel
theorem dL_isArrived_58 : decode cL_isArrived 58 = .ok (.if_icmp .gt 16, 3) := by decide +kernel
theorem dL_isArrived_61 : decode cL_isArrived 61 = .ok (.aload_n 0, 1) := by decide +kernel
theorem dL_isArrived_62 : decode cL_isArrived 62 = .ok (.invokestatic 300, 3) := by decide +kernel
theorem dL_isArrived_65 : decode cL_isArrived 65 = .ok (.lload_n 2, 1) := by decide +kernel
theorem dL_isArrived_66 : decode cL_isArrived 66 = .ok (.lcmp, 1) := by decide +kernel
theorem dL_isArrived_67 : decode cL_isArrived 67 = .ok (.ifCond .ne 7, 3) := by decide +kernel
theorem dL_isArrived_70 : decode cL_isArrived 70 = .ok (.iconst 1, 1) := by decide +kernel
theorem dL_isArrived_71 : decode cL_isArrived 71 = .ok (.goto 4, 3) := by decide +kernel
theorem dL_isArrived_74 : decode cL_isArrived 74 = .ok (.iconst 0, 1) := by decide +kernel
theorem dL_isArrived_75 : decode cL_isArrived 75 = .ok (.istore 7, 2) := by decide +kernel
theorem dL_isArrived_77 : decode cL_isArrived 77 = .ok (.iload 4, 2) := by decide +kernel
theorem dL_isArrived_79 : decode cL_isArrived 79 = .ok (.iconst 1, 1) := by decide +kernel
theorem dL_isArrived_80 : decode cL_isArrived 80 = .ok (.if_icmp .le 53, 3) := by decide +kernel
theorem dL_isArrived_83 : decode cL_isArrived 83 = .ok (.iload 7, 2) := by decide +kernel
theorem dL_isArrived_85 : decode cL_isArrived 85 = .ok (.ifCond .eq 45, 3) := by decide +kernel
theorem dL_isArrived_88 : decode cL_isArrived 88 = .ok (.aload_n 0, 1) := by decide +kernel
theorem dL_isArrived_89 : decode cL_isArrived 89 = .ok (.iload 4, 2) := by decide +kernel
theorem dL_isArrived_91 : decode cL_isArrived 91 = .ok (.iconst 1, 1) := by decide +kernel
theorem dL_isArrived_92 : decode cL_isArrived 92 = .ok (.isub, 1) := by decide +kernel
theorem dL_isArrived_93 : decode cL_isArrived 93 = .ok (.invokestatic 137, 3) := by decide +kernel
theorem dL_isArrived_96 : decode cL_isArrived 96 = .ok (.ifCond .lt 34, 3) := by decide +kernel
theorem dL_isArrived_99 : decode cL_isArrived 99 = .ok (.aload_n 0, 1) := by decide +kernel
theorem dL_isArrived_100 : decode cL_isArrived 100 = .ok (.iload_n 1, 1) := by decide +kernel
theorem dL_isArrived_101 : decode cL_isArrived 101 = .ok (.invokevirtual 205, 3) := by decide +kernel
theorem dL_isArrived_104 : decode cL_isArrived 104 = .ok (.iload 5, 2) := by decide +kernel
theorem dL_isArrived_106 : decode cL_isArrived 106 = .ok (.if_icmp .ne 13, 3) := by decide +kernel
theorem dL_isArrived_109 : decode cL_isArrived 109 = .ok (.aload_n 0, 1) := by decide +kernel
theorem dL_isArrived_110 : decode cL_isArrived 110 = .ok (.iload_n 1, 1) := by decide +kernel
theorem dL_isArrived_111 : decode cL_isArrived 111 = .ok (.invokevirtual 202, 3) := by decide +kernel
theorem dL_isArrived_114 : decode cL_isArrived 114 = .ok (.iload 6, 2) := by decide +kernel
theorem dL_isArrived_116 : decode cL_isArrived 116 = .ok (.if_icmp .eq 14, 3) := by decide +kernel
theorem dL_isArrived_119 : decode cL_isArrived 119 = .ok (.aload_n 0, 1) := by decide +kernel
theorem dL_isArrived_120 : decode cL_isArrived 120 = .ok (.invokestatic 158, 3) := by decide +kernel
theorem dL_isArrived_123 : decode cL_isArrived 123 = .ok (.ifCond .lt 7, 3) := by decide +kernel
theorem dL_isArrived_126 : decode cL_isArrived 126 = .ok (.iconst 1, 1) := by decide +kernel
theorem dL_isArrived_127 : decode cL_isArrived 127 = .ok (.goto 4, 3) := by decide +kernel
theorem dL_isArrived_130 : decode cL_isArrived 130 = .ok (.iconst 0, 1) := by decide +kernel
theorem dL_isArrived_131 : decode cL_isArrived 131 = .ok (.istore 7, 2) := by decide +kernel
theorem dL_isArrived_133 : decode cL_isArrived 133 = .ok (.iload 7, 2) := by decide +kernel
theorem dL_isArrived_135 : decode cL_isArrived 135 = .ok (.ifCond .eq 54, 3) := by decide +kernel
theorem dL_isArrived_138 : decode cL_isArrived 138 = .ok (.aload_n 0, 1) := by decide +kernel
theorem dL_isArrived_139 : decode cL_isArrived 139 = .ok (.iload 4, 2) := by decide +kernel
theorem dL_isArrived_141 : decode cL_isArrived 141 = .ok (.invokestatic 137, 3) := by decide +kernel
theorem dL_isArrived_144 : decode cL_isArrived 144 = .ok (.ifCond .lt 45, 3) := by decide +kernel
theorem dL_isArrived_147 : decode cL_isArrived 147 = .ok (.aload_n 0, 1) := by decide +kernel
theorem dL_isArrived_148 : decode cL_isArrived 148 = .ok (.iload_n 1, 1) := by decide +kernel
theorem dL_isArrived_149 : decode cL_isArrived 149 = .ok (.invokevirtual 205, 3) := by decide +kernel
theorem dL_isArrived_152 : decode cL_isArrived 152 = .ok (.iload 5, 2) := by decide +kernel
theorem dL_isArrived_154 : decode cL_isArrived 154 = .ok (.if_icmp .ne 35, 3) := by decide +kernel
theorem dL_isArrived_157 : decode cL_isArrived 157 = .ok (.aload_n 0, 1) := by decide +kernel
theorem dL_isArrived_158 : decode cL_isArrived 158 = .ok (.iload_n 1, 1) := by decide +kernel
theorem dL_isArrived_159 : decode cL_isArrived 159 = .ok (.invokevirtual 202, 3) := by decide +kernel
theorem dL_isArrived_162 : decode cL_isArrived 162 = .ok (.iload 6, 2) := by decide +kernel
theorem dL_isArrived_164 : decode cL_isArrived 164 = .ok (.if_icmp .ne 25, 3) := by decide +kernel
theorem dL_isArrived_167 : decode cL_isArrived 167 = .ok (.aload_n 0, 1) := by decide +kernel
theorem dL_isArrived_168 : decode cL_isArrived 168 = .ok (.iload_n 1, 1) := by decide +kernel
theorem dL_isArrived_169 : decode cL_isArrived 169 = .ok (.invokestatic 210, 3) := by decide +kernel
theorem dL_isArrived_172 : decode cL_isArrived 172 = .ok (.sipush (-1000), 3) := by decide +kernel
theorem dL_isArrived_175 : decode cL_isArrived 175 = .ok (.if_icmp .ne 14, 3) := by decide +kernel
theorem dL_isArrived_178 : decode cL_isArrived 178 = .ok (.aload_n 0, 1) := by decide +kernel
theorem dL_isArrived_179 : decode cL_isArrived 179 = .ok (.invokestatic 158, 3) := by decide +kernel
theorem dL_isArrived_182 : decode cL_isArrived 182 = .ok (.ifCond .lt 7, 3) := by decide +kernel
theorem dL_isArrived_185 : decode cL_isArrived 185 = .ok (.iconst 1, 1) := by decide +kernel
theorem dL_isArrived_186 : decode cL_isArrived 186 = .ok (.goto 4, 3) := by decide +kernel
theorem dL_isArrived_189 : decode cL_isArrived 189 = .ok (.iconst 0, 1) := by decide +kernel
theorem dL_isArrived_190 : decode cL_isArrived 190 = .ok (.istore 7, 2) := by decide +kernel
theorem dL_isArrived_192 : decode cL_isArrived 192 = .ok (.iload 7, 2) := by decide +kernel
theorem dL_isArrived_194 : decode cL_isArrived 194 = .ok (.ifCond .eq 16, 3) := by decide +kernel
theorem dL_isArrived_197 : decode cL_isArrived 197 = .ok (.aload_n 0, 1) := by decide +kernel
theorem dL_isArrived_198 : decode cL_isArrived 198 = .ok (.invokestatic 300, 3) := by decide +kernel
theorem dL_isArrived_201 : decode cL_isArrived 201 = .ok (.lload_n 2, 1) := by decide +kernel
theorem dL_isArrived_202 : decode cL_isArrived 202 = .ok (.lcmp, 1) := by decide +kernel
theorem dL_isArrived_203 : decode cL_isArrived 203 = .ok (.ifCond .ne 7, 3) := by decide +kernel
theorem dL_isArrived_206 : decode cL_isArrived 206 = .ok (.iconst 1, 1) := by decide +kernel
theorem dL_isArrived_207 : decode cL_isArrived 207 = .ok (.goto 4, 3) := by decide +kernel
theorem dL_isArrived_210 : decode cL_isArrived 210 = .ok (.iconst 0, 1) := by decide +kernel
theorem dL_isArrived_211 : decode cL_isArrived 211 = .ok (.ireturn, 1) := by decide +kernel
theorem dL_isMinute_0 : decode cL_isMinute 0 = .ok (.aload_n 0, 1) := by decide +kernel
theorem dL_isMinute_1 : decode cL_isMinute 1 = .ok (.invokestatic 300, 3) := by decide +kernel
theorem dL_isMinute_4 : decode cL_isMinute 4 = .ok (.lstore_n 1, 1) := by decide +kernel
theorem dL_isMinute_5 : decode cL_isMinute 5 = .ok (.aload_n 0, 1) := by decide +kernel
theorem dL_isMinute_6 : decode cL_isMinute 6 = .ok (.invokevirtual 167, 3) := by decide +kernel
theorem dL_isMinute_9 : decode cL_isMinute 9 = .ok (.istore_n 3, 1) := by decide +kernel
theorem dL_isMinute_10 : decode cL_isMinute 10 = .ok (.aload_n 0, 1) := by decide +kernel
theorem dL_isMinute_11 : decode cL_isMinute 11 = .ok (.invokevirtual 172, 3) := by decide +kernel
theorem dL_isMinute_14 : decode cL_isMinute 14 = .ok (.istore 4, 2) := by decide +kernel
theorem dL_isMinute_16 : decode cL_isMinute 16 = .ok (.iconst 0, 1) := by decide +kernel
theorem dL_isMinute_17 : decode cL_isMinute 17 = .ok (.istore 5, 2) := by decide +kernel
theorem dL_isMinute_19 : decode cL_isMinute 19 = .ok (.iconst 0, 1) := by decide +kernel
theorem dL_isMinute_20 : decode cL_isMinute 20 = .ok (.istore 6, 2) := by decide +kernel
theorem dL_isMinute_22 : decode cL_isMinute 22 = .ok (.iload 6, 2) := by decide +kernel
theorem dL_isMinute_24 : decode cL_isMinute 24 = .ok (.aload_n 0, 1) := by decide +kernel
theorem dL_isMinute_25 : decode cL_isMinute 25 = .ok (.invokevirtual 182, 3) := by decide +kernel
theorem dL_isMinute_28 : decode cL_isMinute 28 = .ok (.if_icmp .ge 28, 3) := by decide +kernel
theorem dL_isMinute_31 : decode cL_isMinute 31 = .ok (.iload 5, 2) := by decide +kernel
theorem dL_isMinute_33 : decode cL_isMinute 33 = .ok (.aload_n 0, 1) := by decide +kernel
theorem dL_isMinute_34 : decode cL_isMinute 34 = .ok (.iload 6, 2) := by decide +kernel
theorem dL_isMinute_36 : decode cL_isMinute 36 = .ok (.invokevirtual 215, 3) := by decide +kernel
theorem dL_isMinute_39 : decode cL_isMinute 39 = .ok (.ifCond .eq 7, 3) := by decide +kernel
theorem dL_isMinute_42 : decode cL_isMinute 42 = .ok (.iconst 1, 1) := by decide +kernel
theorem dL_isMinute_43 : decode cL_isMinute 43 = .ok (.goto 4, 3) := by decide +kernel
theorem dL_isMinute_46 : decode cL_isMinute 46 = .ok (.iconst 0, 1) := by decide +kernel
theorem dL_isMinute_47 : decode cL_isMinute 47 = .ok (.iadd, 1) := by decide +kernel
theorem dL_isMinute_48 : decode cL_isMinute 48 = .ok (.istore 5, 2) := by decide +kernel
theorem dL_isMinute_50 : decode cL_isMinute 50 = .ok (.iinc 6 1, 3) := by decide +kernel
theorem dL_isMinute_53 : decode cL_isMinute 53 = .ok (.goto (-31), 3) := by decide +kernel
theorem dL_isMinute_56 : decode cL_isMinute 56 = .ok (.aload_n 0, 1) := by decide +kernel
theorem dL_isMinute_57 : decode cL_isMinute 57 = .ok (.iconst 1, 1) := by decide +kernel
theorem dL_isMinute_58 : decode cL_isMinute 58 = .ok (.invokestatic 137, 3) := by decide +kernel
theorem dL_isMinute_61 : decode cL_isMinute 61 = .ok (.istore 6, 2) := by decide +kernel
theorem dL_isMinute_63 : decode cL_isMinute 63 = .ok (.iconst 0, 1) := by decide +kernel
theorem dL_isMinute_64 : decode cL_isMinute 64 = .ok (.istore 7, 2) := by decide +kernel
theorem dL_isMinute_66 : decode cL_isMinute 66 = .ok (.iconst 0, 1) := by decide +kernel
theorem dL_isMinute_67 : decode cL_isMinute 67 = .ok (.istore 8, 2) := by decide +kernel
theorem dL_isMinute_69 : decode cL_isMinute 69 = .ok (.iconst 1, 1) := by decide +kernel
theorem dL_isMinute_70 : decode cL_isMinute 70 = .ok (.istore 9, 2) := by decide +kernel
theorem dL_isMinute_72 : decode cL_isMinute 72 = .ok (.iconst 0, 1) := by decide +kernel
theorem dL_isMinute_73 : decode cL_isMinute 73 = .ok (.istore 10, 2) := by decide +kernel
theorem dL_isMinute_75 : decode cL_isMinute 75 = .ok (.iload 10, 2) := by decide +kernel
theorem dL_isMinute_77 : decode cL_isMinute 77 = .ok (.aload_n 0, 1) := by decide +kernel
theorem dL_isMinute_78 : decode cL_isMinute 78 = .ok (.invokevirtual 182, 3) := by decide +kernel
theorem dL_isMinute_81 : decode cL_isMinute 81 = .ok (.if_icmp .ge 102, 3) := by decide +kernel
theorem dL_isMinute_84 : decode cL_isMinute 84 = .ok (.iload 8, 2) := by decide +kernel
theorem dL_isMinute_86 : decode cL_isMinute 86 = .ok (.aload_n 0, 1) := by decide +kernel
theorem dL_isMinute_87 : decode cL_isMinute 87 = .ok (.iload 10, 2) := by decide +kernel
theorem dL_isMinute_89 : decode cL_isMinute 89 = .ok (.invokevirtual 215, 3) := by decide +kernel
theorem dL_isMinute_92 : decode cL_isMinute 92 = .ok (.ifCond .eq 7, 3) := by decide +kernel
theorem dL_isMinute_95 : decode cL_isMinute 95 = .ok (.iconst 1, 1) := by decide +kernel
theorem dL_isMinute_96 : decode cL_isMinute 96 = .ok (.goto 4, 3) := by decide +kernel
theorem dL_isMinute_99 : decode cL_isMinute 99 = .ok (.iconst 0, 1) := by decide +kernel
theorem dL_isMinute_100 : decode cL_isMinute 100 = .ok (.iadd, 1) := by decide +kernel
theorem dL_isMinute_101 : decode cL_isMinute 101 = .ok (.istore 8, 2) := by decide +kernel
theorem dL_isMinute_103 : decode cL_isMinute 103 = .ok (.iload 7, 2) := by decide +kernel
theorem dL_isMinute_105 : decode cL_isMinute 105 = .ok (.aload_n 0, 1) := by decide +kernel
theorem dL_isMinute_106 : decode cL_isMinute 106 = .ok (.iload 10, 2) := by decide +kernel
theorem dL_isMinute_108 : decode cL_isMinute 108 = .ok (.invokevirtual 215, 3) := by decide +kernel
theorem dL_isMinute_111 : decode cL_isMinute 111 = .ok (.ifCond .eq 7, 3) := by decide +kernel
theorem dL_isMinute_114 : decode cL_isMinute 114 = .ok (.iconst 0, 1) := by decide +kernel
theorem dL_isMinute_115 : decode cL_isMinute 115 = .ok (.goto 9, 3) := by decide +kernel
theorem dL_isMinute_118 : decode cL_isMinute 118 = .ok (.aload_n 0, 1) := by decide +kernel
theorem dL_isMinute_119 : decode cL_isMinute 119 = .ok (.iload 10, 2) := by decide +kernel
theorem dL_isMinute_121 : decode cL_isMinute 121 = .ok (.invokevirtual 270, 3) := by decide +kernel
theorem dL_isMinute_124 : decode cL_isMinute 124 = .ok (.iadd, 1) := by decide +kernel
theorem dL_isMinute_125 : decode cL_isMinute 125 = .ok (.istore 7, 2) := by decide +kernel
theorem dL_isMinute_127 : decode cL_isMinute 127 = .ok (.iload 9, 2) := by decide +kernel
theorem dL_isMinute_129 : decode cL_isMinute 129 = .ok (.aload_n 0, 1) := by decide +kernel
theorem dL_isMinute_130 : decode cL_isMinute 130 = .ok (.iload 10, 2) := by decide +kernel
theorem dL_isMinute_132 : decode cL_isMinute 132 = .ok (.invokevirtual 215, 3) := by decide +kernel
theorem dL_isMinute_135 : decode cL_isMinute 135 = .ok (.ifCond .ne 34, 3) := by decide +kernel
theorem dL_isMinute_138 : decode cL_isMinute 138 = .ok (.aload_n 0, 1) := by decide +kernel
theorem dL_isMinute_139 : decode cL_isMinute 139 = .ok (.iload 10, 2) := by decide +kernel
theorem dL_isMinute_141 : decode cL_isMinute 141 = .ok (.invokevirtual 212, 3) := by decide +kernel
theorem dL_isMinute_144 : decode cL_isMinute 144 = .ok (.ifCond .ne 7, 3) := by decide +kernel
theorem dL_isMinute_147 : decode cL_isMinute 147 = .ok (.iconst 1, 1) := by decide +kernel
theorem dL_isMinute_148 : decode cL_isMinute 148 = .ok (.goto 4, 3) := by decide +kernel
theorem dL_isMinute_151 : decode cL_isMinute 151 = .ok (.iconst 0, 1) := by decide +kernel
theorem dL_isMinute_152 : decode cL_isMinute 152 = .ok (.aload_n 0, 1) := by decide +kernel
theorem dL_isMinute_153 : decode cL_isMinute 153 = .ok (.iload 10, 2) := by decide +kernel
theorem dL_isMinute_155 : decode cL_isMinute 155 = .ok (.invokevirtual 270, 3) := by decide +kernel
theorem dL_isMinute_158 : decode cL_isMinute 158 = .ok (.ifCond .le 7, 3) := by decide +kernel
theorem dL_isMinute_161 : decode cL_isMinute 161 = .ok (.iconst 1, 1) := by decide +kernel
theorem dL_isMinute_162 : decode cL_isMinute 162 = .ok (.goto 4, 3) := by decide +kernel
theorem dL_isMinute_165 : decode cL_isMinute 165 = .ok (.iconst 0, 1) := by decide +kernel
theorem dL_isMinute_166 : decode cL_isMinute 166 = .ok (.if_icmp .ne 7, 3) := by decide +kernel
theorem dL_isMinute_169 : decode cL_isMinute 169 = .ok (.iconst 1, 1) := by decide +kernel
theorem dL_isMinute_170 : decode cL_isMinute 170 = .ok (.goto 4, 3) := by decide +kernel
theorem dL_isMinute_173 : decode cL_isMinute 173 = .ok (.iconst 0, 1) := by decide +kernel
theorem dL_isMinute_174 : decode cL_isMinute 174 = .ok (.iand, 1) := by decide +kernel
theorem dL_isMinute_175 : decode cL_isMinute 175 = .ok (.istore 9, 2) := by decide +kernel
theorem dL_isMinute_177 : decode cL_isMinute 177 = .ok (.iinc 10 1, 3) := by decide +kernel
theorem dL_isMinute_180 : decode cL_isMinute 180 = .ok (.goto (-105), 3) := by decide +kernel
theorem dL_isMinute_183 : decode cL_isMinute 183 = .ok (.iload 9, 2) := by decide +kernel
theorem dL_isMinute_185 : decode cL_isMinute 185 = .ok (.ifCond .eq 54, 3) := by decide +kernel
theorem dL_isMinute_188 : decode cL_isMinute 188 = .ok (.iload 6, 2) := by decide +kernel
theorem dL_isMinute_190 : decode cL_isMinute 190 = .ok (.iload 7, 2) := by decide +kernel
theorem dL_isMinute_192 : decode cL_isMinute 192 = .ok (.if_icmp .ne 47, 3) := by decide +kernel
theorem dL_isMinute_195 : decode cL_isMinute 195 = .ok (.aload_n 0, 1) := by decide +kernel
theorem dL_isMinute_196 : decode cL_isMinute 196 = .ok (.invokevirtual 167, 3) := by decide +kernel
theorem dL_isMinute_199 : decode cL_isMinute 199 = .ok (.iload_n 3, 1) := by decide +kernel
theorem dL_isMinute_200 : decode cL_isMinute 200 = .ok (.iload 6, 2) := by decide +kernel
theorem dL_isMinute_202 : decode cL_isMinute 202 = .ok (.iadd, 1) := by decide +kernel
theorem dL_isMinute_203 : decode cL_isMinute 203 = .ok (.if_icmp .ne 36, 3) := by decide +kernel
theorem dL_isMinute_206 : decode cL_isMinute 206 = .ok (.aload_n 0, 1) := by decide +kernel
theorem dL_isMinute_207 : decode cL_isMinute 207 = .ok (.invokevirtual 172, 3) := by decide +kernel
theorem dL_isMinute_210 : decode cL_isMinute 210 = .ok (.iload 4, 2) := by decide +kernel
theorem dL_isMinute_212 : decode cL_isMinute 212 = .ok (.iload 8, 2) := by decide +kernel
theorem dL_isMinute_214 : decode cL_isMinute 214 = .ok (.iadd, 1) := by decide +kernel
theorem dL_isMinute_215 : decode cL_isMinute 215 = .ok (.iload 5, 2) := by decide +kernel
theorem dL_isMinute_217 : decode cL_isMinute 217 = .ok (.isub, 1) := by decide +kernel
theorem dL_isMinute_218 : decode cL_isMinute 218 = .ok (.if_icmp .ne 21, 3) := by decide +kernel
theorem dL_isMinute_221 : decode cL_isMinute 221 = .ok (.aload_n 0, 1) := by decide +kernel
theorem dL_isMinute_222 : decode cL_isMinute 222 = .ok (.invokestatic 306, 3) := by decide +kernel
theorem dL_isMinute_225 : decode cL_isMinute 225 = .ok (.ifCond .eq 14, 3) := by decide +kernel
theorem dL_isMinute_228 : decode cL_isMinute 228 = .ok (.aload_n 0, 1) := by decide +kernel
theorem dL_isMinute_229 : decode cL_isMinute 229 = .ok (.invokestatic 158, 3) := by decide +kernel
theorem dL_isMinute_232 : decode cL_isMinute 232 = .ok (.ifCond .lt 7, 3) := by decide +kernel
theorem dL_isMinute_235 : decode cL_isMinute 235 = .ok (.iconst 1, 1) := by decide +kernel
theorem dL_isMinute_236 : decode cL_isMinute 236 = .ok (.goto 4, 3) := by decide +kernel
theorem dL_isMinute_239 : decode cL_isMinute 239 = .ok (.iconst 0, 1) := by decide +kernel
theorem dL_isMinute_240 : decode cL_isMinute 240 = .ok (.istore 9, 2) := by decide +kernel
theorem dL_isMinute_242 : decode cL_isMinute 242 = .ok (.iload 9, 2) := by decide +kernel
theorem dL_isMinute_244 : decode cL_isMinute 244 = .ok (.ifCond .eq 16, 3) := by decide +kernel
theorem dL_isMinute_247 : decode cL_isMinute 247 = .ok (.aload_n 0, 1) := by decide +kernel
theorem dL_isMinute_248 : decode cL_isMinute 248 = .ok (.invokestatic 300, 3) := by decide +kernel
theorem dL_isMinute_251 : decode cL_isMinute 251 = .ok (.lload_n 1, 1) := by decide +kernel
theorem dL_isMinute_252 : decode cL_isMinute 252 = .ok (.lcmp, 1) := by decide +kernel
theorem dL_isMinute_253 : decode cL_isMinute 253 = .ok (.ifCond .ne 7, 3) := by decide +kernel
theorem dL_isMinute_256 : decode cL_isMinute 256 = .ok (.iconst 1, 1) := by decide +kernel
theorem dL_isMinute_257 : decode cL_isMinute 257 = .ok (.goto 4, 3) := by decide +kernel
theorem dL_isMinute_260 : decode cL_isMinute 260 = .ok (.iconst 0, 1) := by decide +kernel
theorem dL_isMinute_261 : decode cL_isMinute 261 = .ok (.ireturn, 1) := by decide +kernel
theorem dL_isFit_0 : decode cL_isFit 0 = .ok (.aload_n 0, 1) := by decide +kernel
theorem dL_isFit_1 : decode cL_isFit 1 = .ok (.invokestatic 306, 3) := by decide +kernel
theorem dL_isFit_4 : decode cL_isFit 4 = .ok (.ifCond .eq 28, 3) := by decide +kernel
theorem dL_isFit_7 : decode cL_isFit 7 = .ok (.aload_n 0, 1) := by decide +kernel
theorem dL_isFit_8 : decode cL_isFit 8 = .ok (.invokestatic 310, 3) := by decide +kernel
theorem dL_isFit_11 : decode cL_isFit 11 = .ok (.ifCond .eq 21, 3) := by decide +kernel
theorem dL_isFit_14 : decode cL_isFit 14 = .ok (.aload_n 0, 1) := by decide +kernel
theorem dL_isFit_15 : decode cL_isFit 15 = .ok (.invokestatic 313, 3) := by decide +kernel
theorem dL_isFit_18 : decode cL_isFit 18 = .ok (.ifCond .eq 14, 3) := by decide +kernel
theorem dL_isFit_21 : decode cL_isFit 21 = .ok (.aload_n 0, 1) := by decide +kernel
theorem dL_isFit_22 : decode cL_isFit 22 = .ok (.invokestatic 316, 3) := by decide +kernel
theorem dL_isFit_25 : decode cL_isFit 25 = .ok (.ifCond .eq 7, 3) := by decide +kernel
theorem dL_isFit_28 : decode cL_isFit 28 = .ok (.iconst 1, 1) := by decide +kernel
theorem dL_isFit_29 : decode cL_isFit 29 = .ok (.goto 4, 3) := by decide +kernel
theorem dL_isFit_32 : decode cL_isFit 32 = .ok (.iconst 0, 1) := by decide +kernel
theorem dL_isFit_33 : decode cL_isFit 33 = .ok (.ireturn, 1) := by decide +kernel
theorem dL_law_0 : decode cL_law 0 = .ok (.new 12, 3) := by decide +kernel
theorem dL_law_3 : decode cL_law 3 = .ok (.dup, 1) := by decide +kernel
theorem dL_law_4 : decode cL_law 4 = .ok (.invokespecial 319, 3) := by decide +kernel
theorem dL_law_7 : decode cL_law 7 = .ok (.astore_n 1, 1) := by decide +kernel
theorem dL_law_8 : decode cL_law 8 = .ok (.iconst 0, 1) := by decide +kernel
theorem dL_law_9 : decode cL_law 9 = .ok (.istore_n 2, 1) := by decide +kernel
theorem dL_law_10 : decode cL_law 10 = .ok (.iload_n 2, 1) := by decide +kernel
theorem dL_law_11 : decode cL_law 11 = .ok (.iconst 3, 1) := by decide +kernel
theorem dL_law_12 : decode cL_law 12 = .ok (.if_icmp .ge 146, 3) := by decide +kernel
theorem dL_law_15 : decode cL_law 15 = .ok (.aload_n 1, 1) := by decide +kernel
theorem dL_law_16 : decode cL_law 16 = .ok (.aload_n 0, 1) := by decide +kernel
theorem dL_law_17 : decode cL_law 17 = .ok (.iload_n 2, 1) := by decide +kernel
theorem dL_law_18 : decode cL_law 18 = .ok (.invokestatic 320, 3) := by decide +kernel
theorem dL_law_21 : decode cL_law 21 = .ok (.iconst 4, 1) := by decide +kernel
theorem dL_law_22 : decode cL_law 22 = .ok (.ishr, 1) := by decide +kernel
theorem dL_law_23 : decode cL_law 23 = .ok (.bipush 7, 2) := by decide +kernel
theorem dL_law_25 : decode cL_law 25 = .ok (.iand, 1) := by decide +kernel
theorem dL_law_26 : decode cL_law 26 = .ok (.aload_n 0, 1) := by decide +kernel
theorem dL_law_27 : decode cL_law 27 = .ok (.iload_n 2, 1) := by decide +kernel
theorem dL_law_28 : decode cL_law 28 = .ok (.invokestatic 320, 3) := by decide +kernel
theorem dL_law_31 : decode cL_law 31 = .ok (.bipush 7, 2) := by decide +kernel
theorem dL_law_33 : decode cL_law 33 = .ok (.ishr, 1) := by decide +kernel
theorem dL_law_34 : decode cL_law 34 = .ok (.bipush 7, 2) := by decide +kernel
theorem dL_law_36 : decode cL_law 36 = .ok (.iand, 1) := by decide +kernel
theorem dL_law_37 : decode cL_law 37 = .ok (.aload_n 0, 1) := by decide +kernel
theorem dL_law_38 : decode cL_law 38 = .ok (.iload_n 2, 1) := by decide +kernel
theorem dL_law_39 : decode cL_law 39 = .ok (.invokestatic 320, 3) := by decide +kernel
theorem dL_law_42 : decode cL_law 42 = .ok (.iconst 5, 1) := by decide +kernel
theorem dL_law_43 : decode cL_law 43 = .ok (.ishr, 1) := by decide +kernel
theorem dL_law_44 : decode cL_law 44 = .ok (.iconst 1, 1) := by decide +kernel
theorem dL_law_45 : decode cL_law 45 = .ok (.iand, 1) := by decide +kernel
theorem dL_law_46 : decode cL_law 46 = .ok (.invokestatic 121, 3) := by decide +kernel
theorem dL_law_49 : decode cL_law 49 = .ok (.pop, 1) := by decide +kernel
theorem dL_law_50 : decode cL_law 50 = .ok (.aload_n 1, 1) := by decide +kernel
theorem dL_law_51 : decode cL_law 51 = .ok (.aload_n 0, 1) := by decide +kernel
theorem dL_law_52 : decode cL_law 52 = .ok (.iload_n 2, 1) := by decide +kernel
theorem dL_law_53 : decode cL_law 53 = .ok (.invokestatic 320, 3) := by decide +kernel
theorem dL_law_56 : decode cL_law 56 = .ok (.iconst 3, 1) := by decide +kernel
theorem dL_law_57 : decode cL_law 57 = .ok (.ishr, 1) := by decide +kernel
theorem dL_law_58 : decode cL_law 58 = .ok (.bipush 7, 2) := by decide +kernel
theorem dL_law_60 : decode cL_law 60 = .ok (.iand, 1) := by decide +kernel
theorem dL_law_61 : decode cL_law 61 = .ok (.aload_n 0, 1) := by decide +kernel
theorem dL_law_62 : decode cL_law 62 = .ok (.iload_n 2, 1) := by decide +kernel
theorem dL_law_63 : decode cL_law 63 = .ok (.invokestatic 320, 3) := by decide +kernel
theorem dL_law_66 : decode cL_law 66 = .ok (.bipush 6, 2) := by decide +kernel
theorem dL_law_68 : decode cL_law 68 = .ok (.ishr, 1) := by decide +kernel
theorem dL_law_69 : decode cL_law 69 = .ok (.bipush 7, 2) := by decide +kernel
theorem dL_law_71 : decode cL_law 71 = .ok (.iand, 1) := by decide +kernel
theorem dL_law_72 : decode cL_law 72 = .ok (.iconst 2, 1) := by decide +kernel
theorem dL_law_73 : decode cL_law 73 = .ok (.iload_n 2, 1) := by decide +kernel
theorem dL_law_74 : decode cL_law 74 = .ok (.iadd, 1) := by decide +kernel
theorem dL_law_75 : decode cL_law 75 = .ok (.bipush 8, 2) := by decide +kernel
theorem dL_law_77 : decode cL_law 77 = .ok (.aload_n 0, 1) := by decide +kernel
theorem dL_law_78 : decode cL_law 78 = .ok (.iload_n 2, 1) := by decide +kernel
theorem dL_law_79 : decode cL_law 79 = .ok (.invokestatic 320, 3) := by decide +kernel
theorem dL_law_82 : decode cL_law 82 = .ok (.iconst 5, 1) := by decide +kernel
theorem dL_law_83 : decode cL_law 83 = .ok (.ishr, 1) := by decide +kernel
theorem dL_law_84 : decode cL_law 84 = .ok (.bipush 15, 2) := by decide +kernel
theorem dL_law_86 : decode cL_law 86 = .ok (.iand, 1) := by decide +kernel
theorem dL_law_87 : decode cL_law 87 = .ok (.iadd, 1) := by decide +kernel
theorem dL_law_88 : decode cL_law 88 = .ok (.invokestatic 124, 3) := by decide +kernel
theorem dL_law_91 : decode cL_law 91 = .ok (.pop, 1) := by decide +kernel
theorem dL_law_92 : decode cL_law 92 = .ok (.aload_n 1, 1) := by decide +kernel
theorem dL_law_93 : decode cL_law 93 = .ok (.aload_n 0, 1) := by decide +kernel
theorem dL_law_94 : decode cL_law 94 = .ok (.iload_n 2, 1) := by decide +kernel
theorem dL_law_95 : decode cL_law 95 = .ok (.invokestatic 320, 3) := by decide +kernel
theorem dL_law_98 : decode cL_law 98 = .ok (.bipush 8, 2) := by decide +kernel
theorem dL_law_100 : decode cL_law 100 = .ok (.ishr, 1) := by decide +kernel
theorem dL_law_101 : decode cL_law 101 = .ok (.bipush 7, 2) := by decide +kernel
theorem dL_law_103 : decode cL_law 103 = .ok (.iand, 1) := by decide +kernel
theorem dL_law_104 : decode cL_law 104 = .ok (.aload_n 0, 1) := by decide +kernel
theorem dL_law_105 : decode cL_law 105 = .ok (.iload_n 2, 1) := by decide +kernel
theorem dL_law_106 : decode cL_law 106 = .ok (.invokestatic 320, 3) := by decide +kernel
theorem dL_law_109 : decode cL_law 109 = .ok (.iconst 2, 1) := by decide +kernel
theorem dL_law_110 : decode cL_law 110 = .ok (.ishr, 1) := by decide +kernel
theorem dL_law_111 : decode cL_law 111 = .ok (.bipush 7, 2) := by decide +kernel
theorem dL_law_113 : decode cL_law 113 = .ok (.iand, 1) := by decide +kernel
theorem dL_law_114 : decode cL_law 114 = .ok (.iconst 1, 1) := by decide +kernel
theorem dL_law_115 : decode cL_law 115 = .ok (.iload_n 2, 1) := by decide +kernel
theorem dL_law_116 : decode cL_law 116 = .ok (.iadd, 1) := by decide +kernel
theorem dL_law_117 : decode cL_law 117 = .ok (.invokestatic 133, 3) := by decide +kernel
theorem dL_law_120 : decode cL_law 120 = .ok (.pop, 1) := by decide +kernel
theorem dL_law_121 : decode cL_law 121 = .ok (.aload_n 1, 1) := by decide +kernel
theorem dL_law_122 : decode cL_law 122 = .ok (.iload_n 2, 1) := by decide +kernel
theorem dL_law_123 : decode cL_law 123 = .ok (.aload_n 0, 1) := by decide +kernel
theorem dL_law_124 : decode cL_law 124 = .ok (.iload_n 2, 1) := by decide +kernel
theorem dL_law_125 : decode cL_law 125 = .ok (.iconst 1, 1) := by decide +kernel
theorem dL_law_126 : decode cL_law 126 = .ok (.iadd, 1) := by decide +kernel
theorem dL_law_127 : decode cL_law 127 = .ok (.invokestatic 320, 3) := by decide +kernel
theorem dL_law_130 : decode cL_law 130 = .ok (.iconst 3, 1) := by decide +kernel
theorem dL_law_131 : decode cL_law 131 = .ok (.ishr, 1) := by decide +kernel
theorem dL_law_132 : decode cL_law 132 = .ok (.bipush 7, 2) := by decide +kernel
theorem dL_law_134 : decode cL_law 134 = .ok (.iand, 1) := by decide +kernel
theorem dL_law_135 : decode cL_law 135 = .ok (.aload_n 0, 1) := by decide +kernel
theorem dL_law_136 : decode cL_law 136 = .ok (.iload_n 2, 1) := by decide +kernel
theorem dL_law_137 : decode cL_law 137 = .ok (.iconst 1, 1) := by decide +kernel
theorem dL_law_138 : decode cL_law 138 = .ok (.iadd, 1) := by decide +kernel
theorem dL_law_139 : decode cL_law 139 = .ok (.invokestatic 320, 3) := by decide +kernel
theorem dL_law_142 : decode cL_law 142 = .ok (.bipush 6, 2) := by decide +kernel
theorem dL_law_144 : decode cL_law 144 = .ok (.ishr, 1) := by decide +kernel
theorem dL_law_145 : decode cL_law 145 = .ok (.bipush 7, 2) := by decide +kernel
theorem dL_law_147 : decode cL_law 147 = .ok (.iand, 1) := by decide +kernel
theorem dL_law_148 : decode cL_law 148 = .ok (.invokestatic 135, 3) := by decide +kernel
theorem dL_law_151 : decode cL_law 151 = .ok (.pop, 1) := by decide +kernel
theorem dL_law_152 : decode cL_law 152 = .ok (.iinc 2 1, 3) := by decide +kernel
theorem dL_law_155 : decode cL_law 155 = .ok (.goto (-145), 3) := by decide +kernel
theorem dL_law_158 : decode cL_law 158 = .ok (.aload_n 0, 1) := by decide +kernel
theorem dL_law_159 : decode cL_law 159 = .ok (.arraylength, 1) := by decide +kernel
theorem dL_law_160 : decode cL_law 160 = .ok (.bipush 30, 2) := by decide +kernel
theorem dL_law_162 : decode cL_law 162 = .ok (.if_icmp .ge 8, 3) := by decide +kernel
theorem dL_law_165 : decode cL_law 165 = .ok (.aload_n 0, 1) := by decide +kernel
theorem dL_law_166 : decode cL_law 166 = .ok (.arraylength, 1) := by decide +kernel
theorem dL_law_167 : decode cL_law 167 = .ok (.goto 5, 3) := by decide +kernel
theorem dL_law_170 : decode cL_law 170 = .ok (.bipush 30, 2) := by decide +kernel
theorem dL_law_172 : decode cL_law 172 = .ok (.istore_n 2, 1) := by decide +kernel
theorem dL_law_173 : decode cL_law 173 = .ok (.iconst 0, 1) := by decide +kernel
theorem dL_law_174 : decode cL_law 174 = .ok (.istore_n 3, 1) := by decide +kernel
theorem dL_law_175 : decode cL_law 175 = .ok (.iload_n 3, 1) := by decide +kernel
theorem dL_law_176 : decode cL_law 176 = .ok (.iload_n 2, 1) := by decide +kernel
theorem dL_law_177 : decode cL_law 177 = .ok (.if_icmp .ge 41, 3) := by decide +kernel
theorem dL_law_180 : decode cL_law 180 = .ok (.aload_n 1, 1) := by decide +kernel
theorem dL_law_181 : decode cL_law 181 = .ok (.invokestatic 300, 3) := by decide +kernel
theorem dL_law_184 : decode cL_law 184 = .ok (.lstore 4, 2) := by decide +kernel
theorem dL_law_186 : decode cL_law 186 = .ok (.aload_n 1, 1) := by decide +kernel
theorem dL_law_187 : decode cL_law 187 = .ok (.aload_n 0, 1) := by decide +kernel
theorem dL_law_188 : decode cL_law 188 = .ok (.iload_n 3, 1) := by decide +kernel
theorem dL_law_189 : decode cL_law 189 = .ok (.invokestatic 320, 3) := by decide +kernel
theorem dL_law_192 : decode cL_law 192 = .ok (.invokestatic 324, 3) := by decide +kernel
theorem dL_law_195 : decode cL_law 195 = .ok (.ldc 10, 2) := by decide +kernel
theorem dL_law_197 : decode cL_law 197 = .ok (.if_icmp .ne 15, 3) := by decide +kernel
theorem dL_law_200 : decode cL_law 200 = .ok (.aload_n 1, 1) := by decide +kernel
theorem dL_law_201 : decode cL_law 201 = .ok (.invokestatic 300, 3) := by decide +kernel
theorem dL_law_204 : decode cL_law 204 = .ok (.lload 4, 2) := by decide +kernel
theorem dL_law_206 : decode cL_law 206 = .ok (.lcmp, 1) := by decide +kernel
theorem dL_law_207 : decode cL_law 207 = .ok (.ifCond .eq 5, 3) := by decide +kernel
theorem dL_law_210 : decode cL_law 210 = .ok (.iconst 0, 1) := by decide +kernel
theorem dL_law_211 : decode cL_law 211 = .ok (.ireturn, 1) := by decide +kernel
theorem dL_law_212 : decode cL_law 212 = .ok (.iinc 3 1, 3) := by decide +kernel
theorem dL_law_215 : decode cL_law 215 = .ok (.goto (-40), 3) := by decide +kernel
theorem dL_law_218 : decode cL_law 218 = .ok (.aload_n 1, 1) := by decide +kernel
theorem dL_law_219 : decode cL_law 219 = .ok (.invokestatic 327, 3) := by decide +kernel
theorem dL_law_222 : decode cL_law 222 = .ok (.istore_n 3, 1) := by decide +kernel
theorem dL_law_223 : decode cL_law 223 = .ok (.aload_n 1, 1) := by decide +kernel
theorem dL_law_224 : decode cL_law 224 = .ok (.invokestatic 149, 3) := by decide +kernel
theorem dL_law_227 : decode cL_law 227 = .ok (.pop, 1) := by decide +kernel
theorem dL_law_228 : decode cL_law 228 = .ok (.aload_n 1, 1) := by decide +kernel
theorem dL_law_229 : decode cL_law 229 = .ok (.invokestatic 300, 3) := by decide +kernel
theorem dL_law_232 : decode cL_law 232 = .ok (.lstore 4, 2) := by decide +kernel
theorem dL_law_234 : decode cL_law 234 = .ok (.aload_n 1, 1) := by decide +kernel
theorem dL_law_235 : decode cL_law 235 = .ok (.invokevirtual 152, 3) := by decide +kernel
theorem dL_law_238 : decode cL_law 238 = .ok (.istore 6, 2) := by decide +kernel
theorem dL_law_240 : decode cL_law 240 = .ok (.iconst 0, 1) := by decide +kernel
theorem dL_law_241 : decode cL_law 241 = .ok (.istore 7, 2) := by decide +kernel
theorem dL_law_243 : decode cL_law 243 = .ok (.iload_n 3, 1) := by decide +kernel
theorem dL_law_244 : decode cL_law 244 = .ok (.ifCond .eq 82, 3) := by decide +kernel
theorem dL_law_247 : decode cL_law 247 = .ok (.iload 7, 2) := by decide +kernel
theorem dL_law_249 : decode cL_law 249 = .ok (.getstatic 141, 3) := by decide +kernel
theorem dL_law_252 : decode cL_law 252 = .ok (.arraylength, 1) := by decide +kernel
theorem dL_law_253 : decode cL_law 253 = .ok (.if_icmp .ge 73, 3) := by decide +kernel
theorem dL_law_256 : decode cL_law 256 = .ok (.aload_n 1, 1) := by decide +kernel
theorem dL_law_257 : decode cL_law 257 = .ok (.getstatic 141, 3) := by decide +kernel
theorem dL_law_260 : decode cL_law 260 = .ok (.iload 7, 2) := by decide +kernel
theorem dL_law_262 : decode cL_law 262 = .ok (.aaload, 1) := by decide +kernel
theorem dL_law_263 : decode cL_law 263 = .ok (.invokestatic 145, 3) := by decide +kernel
theorem dL_law_266 : decode cL_law 266 = .ok (.invokestatic 149, 3) := by decide +kernel
theorem dL_law_269 : decode cL_law 269 = .ok (.istore 8, 2) := by decide +kernel
theorem dL_law_271 : decode cL_law 271 = .ok (.iload 8, 2) := by decide +kernel
theorem dL_law_273 : decode cL_law 273 = .ok (.ldc 10, 2) := by decide +kernel
theorem dL_law_275 : decode cL_law 275 = .ok (.if_icmp .ne 22, 3) := by decide +kernel
theorem dL_law_278 : decode cL_law 278 = .ok (.aload_n 1, 1) := by decide +kernel
theorem dL_law_279 : decode cL_law 279 = .ok (.invokestatic 330, 3) := by decide +kernel
theorem dL_law_282 : decode cL_law 282 = .ok (.bipush 8, 2) := by decide +kernel
theorem dL_law_284 : decode cL_law 284 = .ok (.if_icmp .ne 34, 3) := by decide +kernel
theorem dL_law_287 : decode cL_law 287 = .ok (.aload_n 1, 1) := by decide +kernel
theorem dL_law_288 : decode cL_law 288 = .ok (.invokestatic 332, 3) := by decide +kernel
theorem dL_law_291 : decode cL_law 291 = .ok (.ifCond .le 27, 3) := by decide +kernel
theorem dL_law_294 : decode cL_law 294 = .ok (.goto 10, 3) := by decide +kernel
theorem dL_law_297 : decode cL_law 297 = .ok (.aload_n 1, 1) := by decide +kernel
theorem dL_law_298 : decode cL_law 298 = .ok (.invokestatic 158, 3) := by decide +kernel
theorem dL_law_301 : decode cL_law 301 = .ok (.ifCond .lt 17, 3) := by decide +kernel
theorem dL_law_304 : decode cL_law 304 = .ok (.aload_n 1, 1) := by decide +kernel
theorem dL_law_305 : decode cL_law 305 = .ok (.invokestatic 300, 3) := by decide +kernel
theorem dL_law_308 : decode cL_law 308 = .ok (.lload 4, 2) := by decide +kernel
theorem dL_law_310 : decode cL_law 310 = .ok (.lcmp, 1) := by decide +kernel
theorem dL_law_311 : decode cL_law 311 = .ok (.ifCond .ne 7, 3) := by decide +kernel
theorem dL_law_314 : decode cL_law 314 = .ok (.iconst 1, 1) := by decide +kernel
theorem dL_law_315 : decode cL_law 315 = .ok (.goto 4, 3) := by decide +kernel
theorem dL_law_318 : decode cL_law 318 = .ok (.iconst 0, 1) := by decide +kernel
theorem dL_law_319 : decode cL_law 319 = .ok (.istore_n 3, 1) := by decide +kernel
theorem dL_law_320 : decode cL_law 320 = .ok (.iinc 7 1, 3) := by decide +kernel
theorem dL_law_323 : decode cL_law 323 = .ok (.goto (-80), 3) := by decide +kernel
theorem dL_law_326 : decode cL_law 326 = .ok (.aload_n 1, 1) := by decide +kernel
theorem dL_law_327 : decode cL_law 327 = .ok (.iconst 3, 1) := by decide +kernel
theorem dL_law_328 : decode cL_law 328 = .ok (.iconst 3, 1) := by decide +kernel
theorem dL_law_329 : decode cL_law 329 = .ok (.iconst 1, 1) := by decide +kernel
theorem dL_law_330 : decode cL_law 330 = .ok (.invokestatic 133, 3) := by decide +kernel
theorem dL_law_333 : decode cL_law 333 = .ok (.pop, 1) := by decide +kernel
theorem dL_law_334 : decode cL_law 334 = .ok (.aload_n 1, 1) := by decide +kernel
theorem dL_law_335 : decode cL_law 335 = .ok (.aload_n 1, 1) := by decide +kernel
theorem dL_law_336 : decode cL_law 336 = .ok (.invokevirtual 182, 3) := by decide +kernel
theorem dL_law_339 : decode cL_law 339 = .ok (.iconst 1, 1) := by decide +kernel
theorem dL_law_340 : decode cL_law 340 = .ok (.isub, 1) := by decide +kernel
theorem dL_law_341 : decode cL_law 341 = .ok (.bipush 6, 2) := by decide +kernel
theorem dL_law_343 : decode cL_law 343 = .ok (.bipush 6, 2) := by decide +kernel
theorem dL_law_345 : decode cL_law 345 = .ok (.invokestatic 135, 3) := by decide +kernel
theorem dL_law_348 : decode cL_law 348 = .ok (.pop, 1) := by decide +kernel
theorem dL_law_349 : decode cL_law 349 = .ok (.iload_n 3, 1) := by decide +kernel
theorem dL_law_350 : decode cL_law 350 = .ok (.ifCond .eq 14, 3) := by decide +kernel
theorem dL_law_353 : decode cL_law 353 = .ok (.aload_n 1, 1) := by decide +kernel
theorem dL_law_354 : decode cL_law 354 = .ok (.invokestatic 327, 3) := by decide +kernel
theorem dL_law_357 : decode cL_law 357 = .ok (.ifCond .eq 7, 3) := by decide +kernel
theorem dL_law_360 : decode cL_law 360 = .ok (.iconst 1, 1) := by decide +kernel
theorem dL_law_361 : decode cL_law 361 = .ok (.goto 4, 3) := by decide +kernel
theorem dL_law_364 : decode cL_law 364 = .ok (.iconst 0, 1) := by decide +kernel
theorem dL_law_365 : decode cL_law 365 = .ok (.istore_n 3, 1) := by decide +kernel
theorem dL_law_366 : decode cL_law 366 = .ok (.iload_n 3, 1) := by decide +kernel
theorem dL_law_367 : decode cL_law 367 = .ok (.ifCond .eq 42, 3) := by decide +kernel
theorem dL_law_370 : decode cL_law 370 = .ok (.aload_n 1, 1) := by decide +kernel
theorem dL_law_371 : decode cL_law 371 = .ok (.invokestatic 155, 3) := by decide +kernel
theorem dL_law_374 : decode cL_law 374 = .ok (.iload 6, 2) := by decide +kernel
theorem dL_law_376 : decode cL_law 376 = .ok (.if_icmp .ne 33, 3) := by decide +kernel
theorem dL_law_379 : decode cL_law 379 = .ok (.aload_n 1, 1) := by decide +kernel
theorem dL_law_380 : decode cL_law 380 = .ok (.invokestatic 300, 3) := by decide +kernel
theorem dL_law_383 : decode cL_law 383 = .ok (.lload 4, 2) := by decide +kernel
theorem dL_law_385 : decode cL_law 385 = .ok (.lcmp, 1) := by decide +kernel
theorem dL_law_386 : decode cL_law 386 = .ok (.ifCond .ne 23, 3) := by decide +kernel
theorem dL_law_389 : decode cL_law 389 = .ok (.aload_n 1, 1) := by decide +kernel
theorem dL_law_390 : decode cL_law 390 = .ok (.invokestatic 158, 3) := by decide +kernel
theorem dL_law_393 : decode cL_law 393 = .ok (.ldc 10, 2) := by decide +kernel
theorem dL_law_395 : decode cL_law 395 = .ok (.if_icmp .ne 14, 3) := by decide +kernel
theorem dL_law_398 : decode cL_law 398 = .ok (.aload_n 1, 1) := by decide +kernel
theorem dL_law_399 : decode cL_law 399 = .ok (.invokevirtual 334, 3) := by decide +kernel
theorem dL_law_402 : decode cL_law 402 = .ok (.ifCond .ne 7, 3) := by decide +kernel
theorem dL_law_405 : decode cL_law 405 = .ok (.iconst 1, 1) := by decide +kernel
theorem dL_law_406 : decode cL_law 406 = .ok (.goto 4, 3) := by decide +kernel
theorem dL_law_409 : decode cL_law 409 = .ok (.iconst 0, 1) := by decide +kernel
theorem dL_law_410 : decode cL_law 410 = .ok (.ireturn, 1) := by decide +kernel
