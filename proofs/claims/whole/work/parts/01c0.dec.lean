theorem dJ6_bitCount_0f7a4_0 : decode cJ6_bitCount_0f7a4 0 = .ok (.iload_n 0, 1) := by decide +kernel
theorem dJ6_bitCount_0f7a4_1 : decode cJ6_bitCount_0f7a4 1 = .ok (.iload_n 0, 1) := by decide +kernel
theorem dJ6_bitCount_0f7a4_2 : decode cJ6_bitCount_0f7a4 2 = .ok (.iconst 1, 1) := by decide +kernel
theorem dJ6_bitCount_0f7a4_3 : decode cJ6_bitCount_0f7a4 3 = .ok (.iushr, 1) := by decide +kernel
theorem dJ6_bitCount_0f7a4_4 : decode cJ6_bitCount_0f7a4 4 = .ok (.ldc_w 265, 3) := by decide +kernel
theorem dJ6_bitCount_0f7a4_7 : decode cJ6_bitCount_0f7a4 7 = .ok (.iand, 1) := by decide +kernel
theorem dJ6_bitCount_0f7a4_8 : decode cJ6_bitCount_0f7a4 8 = .ok (.isub, 1) := by decide +kernel
theorem dJ6_bitCount_0f7a4_9 : decode cJ6_bitCount_0f7a4 9 = .ok (.istore_n 0, 1) := by decide +kernel
theorem dJ6_bitCount_0f7a4_10 : decode cJ6_bitCount_0f7a4 10 = .ok (.iload_n 0, 1) := by decide +kernel
theorem dJ6_bitCount_0f7a4_11 : decode cJ6_bitCount_0f7a4 11 = .ok (.ldc_w 266, 3) := by decide +kernel
theorem dJ6_bitCount_0f7a4_14 : decode cJ6_bitCount_0f7a4 14 = .ok (.iand, 1) := by decide +kernel
theorem dJ6_bitCount_0f7a4_15 : decode cJ6_bitCount_0f7a4 15 = .ok (.iload_n 0, 1) := by decide +kernel
theorem dJ6_bitCount_0f7a4_16 : decode cJ6_bitCount_0f7a4 16 = .ok (.iconst 2, 1) := by decide +kernel
theorem dJ6_bitCount_0f7a4_17 : decode cJ6_bitCount_0f7a4 17 = .ok (.iushr, 1) := by decide +kernel
theorem dJ6_bitCount_0f7a4_18 : decode cJ6_bitCount_0f7a4 18 = .ok (.ldc_w 266, 3) := by decide +kernel
theorem dJ6_bitCount_0f7a4_21 : decode cJ6_bitCount_0f7a4 21 = .ok (.iand, 1) := by decide +kernel
theorem dJ6_bitCount_0f7a4_22 : decode cJ6_bitCount_0f7a4 22 = .ok (.iadd, 1) := by decide +kernel
theorem dJ6_bitCount_0f7a4_23 : decode cJ6_bitCount_0f7a4 23 = .ok (.istore_n 0, 1) := by decide +kernel
theorem dJ6_bitCount_0f7a4_24 : decode cJ6_bitCount_0f7a4 24 = .ok (.iload_n 0, 1) := by decide +kernel
theorem dJ6_bitCount_0f7a4_25 : decode cJ6_bitCount_0f7a4 25 = .ok (.iload_n 0, 1) := by decide +kernel
theorem dJ6_bitCount_0f7a4_26 : decode cJ6_bitCount_0f7a4 26 = .ok (.iconst 4, 1) := by decide +kernel
theorem dJ6_bitCount_0f7a4_27 : decode cJ6_bitCount_0f7a4 27 = .ok (.iushr, 1) := by decide +kernel
theorem dJ6_bitCount_0f7a4_28 : decode cJ6_bitCount_0f7a4 28 = .ok (.iadd, 1) := by decide +kernel
theorem dJ6_bitCount_0f7a4_29 : decode cJ6_bitCount_0f7a4 29 = .ok (.ldc_w 267, 3) := by decide +kernel
theorem dJ6_bitCount_0f7a4_32 : decode cJ6_bitCount_0f7a4 32 = .ok (.iand, 1) := by decide +kernel
theorem dJ6_bitCount_0f7a4_33 : decode cJ6_bitCount_0f7a4 33 = .ok (.istore_n 0, 1) := by decide +kernel
theorem dJ6_bitCount_0f7a4_34 : decode cJ6_bitCount_0f7a4 34 = .ok (.iload_n 0, 1) := by decide +kernel
theorem dJ6_bitCount_0f7a4_35 : decode cJ6_bitCount_0f7a4 35 = .ok (.iload_n 0, 1) := by decide +kernel
theorem dJ6_bitCount_0f7a4_36 : decode cJ6_bitCount_0f7a4 36 = .ok (.bipush 8, 2) := by decide +kernel
theorem dJ6_bitCount_0f7a4_38 : decode cJ6_bitCount_0f7a4 38 = .ok (.iushr, 1) := by decide +kernel
theorem dJ6_bitCount_0f7a4_39 : decode cJ6_bitCount_0f7a4 39 = .ok (.iadd, 1) := by decide +kernel
theorem dJ6_bitCount_0f7a4_40 : decode cJ6_bitCount_0f7a4 40 = .ok (.istore_n 0, 1) := by decide +kernel
theorem dJ6_bitCount_0f7a4_41 : decode cJ6_bitCount_0f7a4 41 = .ok (.iload_n 0, 1) := by decide +kernel
theorem dJ6_bitCount_0f7a4_42 : decode cJ6_bitCount_0f7a4 42 = .ok (.iload_n 0, 1) := by decide +kernel
theorem dJ6_bitCount_0f7a4_43 : decode cJ6_bitCount_0f7a4 43 = .ok (.bipush 16, 2) := by decide +kernel
theorem dJ6_bitCount_0f7a4_45 : decode cJ6_bitCount_0f7a4 45 = .ok (.iushr, 1) := by decide +kernel
theorem dJ6_bitCount_0f7a4_46 : decode cJ6_bitCount_0f7a4 46 = .ok (.iadd, 1) := by decide +kernel
theorem dJ6_bitCount_0f7a4_47 : decode cJ6_bitCount_0f7a4 47 = .ok (.istore_n 0, 1) := by decide +kernel
theorem dJ6_bitCount_0f7a4_48 : decode cJ6_bitCount_0f7a4 48 = .ok (.iload_n 0, 1) := by decide +kernel
theorem dJ6_bitCount_0f7a4_49 : decode cJ6_bitCount_0f7a4 49 = .ok (.bipush 63, 2) := by decide +kernel
theorem dJ6_bitCount_0f7a4_51 : decode cJ6_bitCount_0f7a4 51 = .ok (.iand, 1) := by decide +kernel
theorem dJ6_bitCount_0f7a4_52 : decode cJ6_bitCount_0f7a4 52 = .ok (.ireturn, 1) := by decide +kernel
theorem dJ7_fill_53178_0 : decode cJ7_fill_53178 0 = .ok (.iconst 0, 1) := by decide +kernel
theorem dJ7_fill_53178_1 : decode cJ7_fill_53178 1 = .ok (.istore_n 2, 1) := by decide +kernel
theorem dJ7_fill_53178_2 : decode cJ7_fill_53178 2 = .ok (.aload_n 0, 1) := by decide +kernel
theorem dJ7_fill_53178_3 : decode cJ7_fill_53178 3 = .ok (.arraylength, 1) := by decide +kernel
theorem dJ7_fill_53178_4 : decode cJ7_fill_53178 4 = .ok (.istore_n 3, 1) := by decide +kernel
theorem dJ7_fill_53178_5 : decode cJ7_fill_53178 5 = .ok (.iload_n 2, 1) := by decide +kernel
theorem dJ7_fill_53178_6 : decode cJ7_fill_53178 6 = .ok (.iload_n 3, 1) := by decide +kernel
theorem dJ7_fill_53178_7 : decode cJ7_fill_53178 7 = .ok (.if_icmp .ge 13, 3) := by decide +kernel
theorem dJ7_fill_53178_10 : decode cJ7_fill_53178 10 = .ok (.aload_n 0, 1) := by decide +kernel
theorem dJ7_fill_53178_11 : decode cJ7_fill_53178 11 = .ok (.iload_n 2, 1) := by decide +kernel
theorem dJ7_fill_53178_12 : decode cJ7_fill_53178 12 = .ok (.iload_n 1, 1) := by decide +kernel
theorem dJ7_fill_53178_13 : decode cJ7_fill_53178 13 = .ok (.iastore, 1) := by decide +kernel
theorem dJ7_fill_53178_14 : decode cJ7_fill_53178 14 = .ok (.iinc 2 1, 3) := by decide +kernel
theorem dJ7_fill_53178_17 : decode cJ7_fill_53178 17 = .ok (.goto (-12), 3) := by decide +kernel
theorem dJ7_fill_53178_20 : decode cJ7_fill_53178 20 = .ok (.return_, 1) := by decide +kernel
theorem dJ9_abs_0f7a4_0 : decode cJ9_abs_0f7a4 0 = .ok (.iload_n 0, 1) := by decide +kernel
theorem dJ9_abs_0f7a4_1 : decode cJ9_abs_0f7a4 1 = .ok (.ifCond .ge 8, 3) := by decide +kernel
theorem dJ9_abs_0f7a4_4 : decode cJ9_abs_0f7a4 4 = .ok (.iload_n 0, 1) := by decide +kernel
theorem dJ9_abs_0f7a4_5 : decode cJ9_abs_0f7a4 5 = .ok (.ineg, 1) := by decide +kernel
theorem dJ9_abs_0f7a4_6 : decode cJ9_abs_0f7a4 6 = .ok (.goto 4, 3) := by decide +kernel
theorem dJ9_abs_0f7a4_9 : decode cJ9_abs_0f7a4 9 = .ok (.iload_n 0, 1) := by decide +kernel
theorem dJ9_abs_0f7a4_10 : decode cJ9_abs_0f7a4 10 = .ok (.ireturn, 1) := by decide +kernel
theorem dJ9_max_7cf53_0 : decode cJ9_max_7cf53 0 = .ok (.iload_n 0, 1) := by decide +kernel
theorem dJ9_max_7cf53_1 : decode cJ9_max_7cf53 1 = .ok (.iload_n 1, 1) := by decide +kernel
theorem dJ9_max_7cf53_2 : decode cJ9_max_7cf53 2 = .ok (.if_icmp .lt 7, 3) := by decide +kernel
theorem dJ9_max_7cf53_5 : decode cJ9_max_7cf53 5 = .ok (.iload_n 0, 1) := by decide +kernel
theorem dJ9_max_7cf53_6 : decode cJ9_max_7cf53 6 = .ok (.goto 4, 3) := by decide +kernel
theorem dJ9_max_7cf53_9 : decode cJ9_max_7cf53 9 = .ok (.iload_n 1, 1) := by decide +kernel
theorem dJ9_max_7cf53_10 : decode cJ9_max_7cf53 10 = .ok (.ireturn, 1) := by decide +kernel
theorem dJ9_min_7cf53_0 : decode cJ9_min_7cf53 0 = .ok (.iload_n 0, 1) := by decide +kernel
theorem dJ9_min_7cf53_1 : decode cJ9_min_7cf53 1 = .ok (.iload_n 1, 1) := by decide +kernel
theorem dJ9_min_7cf53_2 : decode cJ9_min_7cf53 2 = .ok (.if_icmp .gt 7, 3) := by decide +kernel
theorem dJ9_min_7cf53_5 : decode cJ9_min_7cf53 5 = .ok (.iload_n 0, 1) := by decide +kernel
theorem dJ9_min_7cf53_6 : decode cJ9_min_7cf53 6 = .ok (.goto 4, 3) := by decide +kernel
theorem dJ9_min_7cf53_9 : decode cJ9_min_7cf53 9 = .ok (.iload_n 1, 1) := by decide +kernel
theorem dJ9_min_7cf53_10 : decode cJ9_min_7cf53 10 = .ok (.ireturn, 1) := by decide +kernel
theorem dL_law_0 : decode cL_law 0 = .ok (.new 7, 3) := by decide +kernel
theorem dL_law_3 : decode cL_law 3 = .ok (.dup, 1) := by decide +kernel
theorem dL_law_4 : decode cL_law 4 = .ok (.invokespecial 9, 3) := by decide +kernel
theorem dL_law_7 : decode cL_law 7 = .ok (.astore_n 1, 1) := by decide +kernel
theorem dL_law_8 : decode cL_law 8 = .ok (.new 10, 3) := by decide +kernel
theorem dL_law_11 : decode cL_law 11 = .ok (.dup, 1) := by decide +kernel
theorem dL_law_12 : decode cL_law 12 = .ok (.invokespecial 12, 3) := by decide +kernel
theorem dL_law_15 : decode cL_law 15 = .ok (.astore_n 2, 1) := by decide +kernel
theorem dL_law_16 : decode cL_law 16 = .ok (.iconst 0, 1) := by decide +kernel
theorem dL_law_17 : decode cL_law 17 = .ok (.istore_n 3, 1) := by decide +kernel
theorem dL_law_18 : decode cL_law 18 = .ok (.iload_n 3, 1) := by decide +kernel
theorem dL_law_19 : decode cL_law 19 = .ok (.aload_n 0, 1) := by decide +kernel
theorem dL_law_20 : decode cL_law 20 = .ok (.arraylength, 1) := by decide +kernel
theorem dL_law_21 : decode cL_law 21 = .ok (.bipush 6, 2) := by decide +kernel
theorem dL_law_23 : decode cL_law 23 = .ok (.isub, 1) := by decide +kernel
theorem dL_law_24 : decode cL_law 24 = .ok (.if_icmp .gt 1127, 3) := by decide +kernel
theorem dL_law_27 : decode cL_law 27 = .ok (.aload_n 0, 1) := by decide +kernel
theorem dL_law_28 : decode cL_law 28 = .ok (.iload_n 3, 1) := by decide +kernel
theorem dL_law_29 : decode cL_law 29 = .ok (.iaload, 1) := by decide +kernel
theorem dL_law_30 : decode cL_law 30 = .ok (.bipush 31, 2) := by decide +kernel
theorem dL_law_32 : decode cL_law 32 = .ok (.iand, 1) := by decide +kernel
theorem dL_law_33 : decode cL_law 33 = .ok (.tableswitch 1112 0 30 #[139, 182, 205, 228, 291, 314, 377, 400, 423, 456, 489, 522, 565, 598, 641, 684, 717, 750, 783, 816, 849, 872, 895, 928, 951, 984, 1017, 1040, 1053, 1066, 1089], 139) := by decide +kernel
theorem dL_law_172 : decode cL_law 172 = .ok (.aload_n 1, 1) := by decide +kernel
theorem dL_law_173 : decode cL_law 173 = .ok (.aload_n 0, 1) := by decide +kernel
theorem dL_law_174 : decode cL_law 174 = .ok (.iload_n 3, 1) := by decide +kernel
theorem dL_law_175 : decode cL_law 175 = .ok (.iconst 1, 1) := by decide +kernel
theorem dL_law_176 : decode cL_law 176 = .ok (.iadd, 1) := by decide +kernel
theorem dL_law_177 : decode cL_law 177 = .ok (.iaload, 1) := by decide +kernel
theorem dL_law_178 : decode cL_law 178 = .ok (.aload_n 0, 1) := by decide +kernel
theorem dL_law_179 : decode cL_law 179 = .ok (.iload_n 3, 1) := by decide +kernel
theorem dL_law_180 : decode cL_law 180 = .ok (.iconst 2, 1) := by decide +kernel
theorem dL_law_181 : decode cL_law 181 = .ok (.iadd, 1) := by decide +kernel
theorem dL_law_182 : decode cL_law 182 = .ok (.iaload, 1) := by decide +kernel
theorem dL_law_183 : decode cL_law 183 = .ok (.aload_n 0, 1) := by decide +kernel
theorem dL_law_184 : decode cL_law 184 = .ok (.iload_n 3, 1) := by decide +kernel
theorem dL_law_185 : decode cL_law 185 = .ok (.iconst 3, 1) := by decide +kernel
theorem dL_law_186 : decode cL_law 186 = .ok (.iadd, 1) := by decide +kernel
theorem dL_law_187 : decode cL_law 187 = .ok (.iaload, 1) := by decide +kernel
theorem dL_law_188 : decode cL_law 188 = .ok (.invokevirtual 13, 3) := by decide +kernel
theorem dL_law_191 : decode cL_law 191 = .ok (.aload_n 2, 1) := by decide +kernel
theorem dL_law_192 : decode cL_law 192 = .ok (.aload_n 0, 1) := by decide +kernel
theorem dL_law_193 : decode cL_law 193 = .ok (.iload_n 3, 1) := by decide +kernel
theorem dL_law_194 : decode cL_law 194 = .ok (.iconst 1, 1) := by decide +kernel
theorem dL_law_195 : decode cL_law 195 = .ok (.iadd, 1) := by decide +kernel
theorem dL_law_196 : decode cL_law 196 = .ok (.iaload, 1) := by decide +kernel
theorem dL_law_197 : decode cL_law 197 = .ok (.aload_n 0, 1) := by decide +kernel
theorem dL_law_198 : decode cL_law 198 = .ok (.iload_n 3, 1) := by decide +kernel
theorem dL_law_199 : decode cL_law 199 = .ok (.iconst 2, 1) := by decide +kernel
theorem dL_law_200 : decode cL_law 200 = .ok (.iadd, 1) := by decide +kernel
theorem dL_law_201 : decode cL_law 201 = .ok (.iaload, 1) := by decide +kernel
theorem dL_law_202 : decode cL_law 202 = .ok (.aload_n 0, 1) := by decide +kernel
theorem dL_law_203 : decode cL_law 203 = .ok (.iload_n 3, 1) := by decide +kernel
theorem dL_law_204 : decode cL_law 204 = .ok (.iconst 3, 1) := by decide +kernel
theorem dL_law_205 : decode cL_law 205 = .ok (.iadd, 1) := by decide +kernel
theorem dL_law_206 : decode cL_law 206 = .ok (.iaload, 1) := by decide +kernel
theorem dL_law_207 : decode cL_law 207 = .ok (.invokevirtual 17, 3) := by decide +kernel
theorem dL_law_210 : decode cL_law 210 = .ok (.if_icmp .eq 935, 3) := by decide +kernel
theorem dL_law_213 : decode cL_law 213 = .ok (.iconst 0, 1) := by decide +kernel
theorem dL_law_214 : decode cL_law 214 = .ok (.ireturn, 1) := by decide +kernel
theorem dL_law_215 : decode cL_law 215 = .ok (.aload_n 1, 1) := by decide +kernel
theorem dL_law_216 : decode cL_law 216 = .ok (.aload_n 0, 1) := by decide +kernel
theorem dL_law_217 : decode cL_law 217 = .ok (.iload_n 3, 1) := by decide +kernel
theorem dL_law_218 : decode cL_law 218 = .ok (.iconst 1, 1) := by decide +kernel
theorem dL_law_219 : decode cL_law 219 = .ok (.iadd, 1) := by decide +kernel
theorem dL_law_220 : decode cL_law 220 = .ok (.iaload, 1) := by decide +kernel
theorem dL_law_221 : decode cL_law 221 = .ok (.invokevirtual 18, 3) := by decide +kernel
theorem dL_law_224 : decode cL_law 224 = .ok (.aload_n 2, 1) := by decide +kernel
theorem dL_law_225 : decode cL_law 225 = .ok (.aload_n 0, 1) := by decide +kernel
theorem dL_law_226 : decode cL_law 226 = .ok (.iload_n 3, 1) := by decide +kernel
theorem dL_law_227 : decode cL_law 227 = .ok (.iconst 1, 1) := by decide +kernel
theorem dL_law_228 : decode cL_law 228 = .ok (.iadd, 1) := by decide +kernel
theorem dL_law_229 : decode cL_law 229 = .ok (.iaload, 1) := by decide +kernel
theorem dL_law_230 : decode cL_law 230 = .ok (.invokevirtual 22, 3) := by decide +kernel
theorem dL_law_233 : decode cL_law 233 = .ok (.if_icmp .eq 912, 3) := by decide +kernel
theorem dL_law_236 : decode cL_law 236 = .ok (.iconst 0, 1) := by decide +kernel
theorem dL_law_237 : decode cL_law 237 = .ok (.ireturn, 1) := by decide +kernel
theorem dL_law_238 : decode cL_law 238 = .ok (.aload_n 1, 1) := by decide +kernel
theorem dL_law_239 : decode cL_law 239 = .ok (.aload_n 0, 1) := by decide +kernel
theorem dL_law_240 : decode cL_law 240 = .ok (.iload_n 3, 1) := by decide +kernel
theorem dL_law_241 : decode cL_law 241 = .ok (.iconst 1, 1) := by decide +kernel
theorem dL_law_242 : decode cL_law 242 = .ok (.iadd, 1) := by decide +kernel
theorem dL_law_243 : decode cL_law 243 = .ok (.iaload, 1) := by decide +kernel
theorem dL_law_244 : decode cL_law 244 = .ok (.invokevirtual 23, 3) := by decide +kernel
theorem dL_law_247 : decode cL_law 247 = .ok (.aload_n 2, 1) := by decide +kernel
theorem dL_law_248 : decode cL_law 248 = .ok (.aload_n 0, 1) := by decide +kernel
theorem dL_law_249 : decode cL_law 249 = .ok (.iload_n 3, 1) := by decide +kernel
theorem dL_law_250 : decode cL_law 250 = .ok (.iconst 1, 1) := by decide +kernel
theorem dL_law_251 : decode cL_law 251 = .ok (.iadd, 1) := by decide +kernel
theorem dL_law_252 : decode cL_law 252 = .ok (.iaload, 1) := by decide +kernel
theorem dL_law_253 : decode cL_law 253 = .ok (.invokevirtual 26, 3) := by decide +kernel
theorem dL_law_256 : decode cL_law 256 = .ok (.if_icmp .eq 889, 3) := by decide +kernel
theorem dL_law_259 : decode cL_law 259 = .ok (.iconst 0, 1) := by decide +kernel
theorem dL_law_260 : decode cL_law 260 = .ok (.ireturn, 1) := by decide +kernel
theorem dL_law_261 : decode cL_law 261 = .ok (.aload_n 1, 1) := by decide +kernel
theorem dL_law_262 : decode cL_law 262 = .ok (.aload_n 0, 1) := by decide +kernel
theorem dL_law_263 : decode cL_law 263 = .ok (.iload_n 3, 1) := by decide +kernel
theorem dL_law_264 : decode cL_law 264 = .ok (.iconst 1, 1) := by decide +kernel
theorem dL_law_265 : decode cL_law 265 = .ok (.iadd, 1) := by decide +kernel
theorem dL_law_266 : decode cL_law 266 = .ok (.iaload, 1) := by decide +kernel
theorem dL_law_267 : decode cL_law 267 = .ok (.aload_n 0, 1) := by decide +kernel
theorem dL_law_268 : decode cL_law 268 = .ok (.iload_n 3, 1) := by decide +kernel
theorem dL_law_269 : decode cL_law 269 = .ok (.iconst 2, 1) := by decide +kernel
theorem dL_law_270 : decode cL_law 270 = .ok (.iadd, 1) := by decide +kernel
theorem dL_law_271 : decode cL_law 271 = .ok (.iaload, 1) := by decide +kernel
theorem dL_law_272 : decode cL_law 272 = .ok (.aload_n 0, 1) := by decide +kernel
theorem dL_law_273 : decode cL_law 273 = .ok (.iload_n 3, 1) := by decide +kernel
theorem dL_law_274 : decode cL_law 274 = .ok (.iconst 3, 1) := by decide +kernel
theorem dL_law_275 : decode cL_law 275 = .ok (.iadd, 1) := by decide +kernel
theorem dL_law_276 : decode cL_law 276 = .ok (.iaload, 1) := by decide +kernel
theorem dL_law_277 : decode cL_law 277 = .ok (.aload_n 0, 1) := by decide +kernel
theorem dL_law_278 : decode cL_law 278 = .ok (.iload_n 3, 1) := by decide +kernel
theorem dL_law_279 : decode cL_law 279 = .ok (.iconst 4, 1) := by decide +kernel
theorem dL_law_280 : decode cL_law 280 = .ok (.iadd, 1) := by decide +kernel
theorem dL_law_281 : decode cL_law 281 = .ok (.iaload, 1) := by decide +kernel
theorem dL_law_282 : decode cL_law 282 = .ok (.aload_n 0, 1) := by decide +kernel
theorem dL_law_283 : decode cL_law 283 = .ok (.iload_n 3, 1) := by decide +kernel
theorem dL_law_284 : decode cL_law 284 = .ok (.iconst 5, 1) := by decide +kernel
theorem dL_law_285 : decode cL_law 285 = .ok (.iadd, 1) := by decide +kernel
theorem dL_law_286 : decode cL_law 286 = .ok (.iaload, 1) := by decide +kernel
theorem dL_law_287 : decode cL_law 287 = .ok (.invokevirtual 27, 3) := by decide +kernel
theorem dL_law_290 : decode cL_law 290 = .ok (.aload_n 2, 1) := by decide +kernel
theorem dL_law_291 : decode cL_law 291 = .ok (.aload_n 0, 1) := by decide +kernel
theorem dL_law_292 : decode cL_law 292 = .ok (.iload_n 3, 1) := by decide +kernel
theorem dL_law_293 : decode cL_law 293 = .ok (.iconst 1, 1) := by decide +kernel
theorem dL_law_294 : decode cL_law 294 = .ok (.iadd, 1) := by decide +kernel
theorem dL_law_295 : decode cL_law 295 = .ok (.iaload, 1) := by decide +kernel
theorem dL_law_296 : decode cL_law 296 = .ok (.aload_n 0, 1) := by decide +kernel
theorem dL_law_297 : decode cL_law 297 = .ok (.iload_n 3, 1) := by decide +kernel
theorem dL_law_298 : decode cL_law 298 = .ok (.iconst 2, 1) := by decide +kernel
theorem dL_law_299 : decode cL_law 299 = .ok (.iadd, 1) := by decide +kernel
theorem dL_law_300 : decode cL_law 300 = .ok (.iaload, 1) := by decide +kernel
theorem dL_law_301 : decode cL_law 301 = .ok (.aload_n 0, 1) := by decide +kernel
theorem dL_law_302 : decode cL_law 302 = .ok (.iload_n 3, 1) := by decide +kernel
theorem dL_law_303 : decode cL_law 303 = .ok (.iconst 3, 1) := by decide +kernel
theorem dL_law_304 : decode cL_law 304 = .ok (.iadd, 1) := by decide +kernel
theorem dL_law_305 : decode cL_law 305 = .ok (.iaload, 1) := by decide +kernel
theorem dL_law_306 : decode cL_law 306 = .ok (.aload_n 0, 1) := by decide +kernel
theorem dL_law_307 : decode cL_law 307 = .ok (.iload_n 3, 1) := by decide +kernel
theorem dL_law_308 : decode cL_law 308 = .ok (.iconst 4, 1) := by decide +kernel
theorem dL_law_309 : decode cL_law 309 = .ok (.iadd, 1) := by decide +kernel
theorem dL_law_310 : decode cL_law 310 = .ok (.iaload, 1) := by decide +kernel
theorem dL_law_311 : decode cL_law 311 = .ok (.aload_n 0, 1) := by decide +kernel
theorem dL_law_312 : decode cL_law 312 = .ok (.iload_n 3, 1) := by decide +kernel
theorem dL_law_313 : decode cL_law 313 = .ok (.iconst 5, 1) := by decide +kernel
theorem dL_law_314 : decode cL_law 314 = .ok (.iadd, 1) := by decide +kernel
theorem dL_law_315 : decode cL_law 315 = .ok (.iaload, 1) := by decide +kernel
theorem dL_law_316 : decode cL_law 316 = .ok (.invokevirtual 31, 3) := by decide +kernel
theorem dL_law_319 : decode cL_law 319 = .ok (.if_icmp .eq 826, 3) := by decide +kernel
theorem dL_law_322 : decode cL_law 322 = .ok (.iconst 0, 1) := by decide +kernel
theorem dL_law_323 : decode cL_law 323 = .ok (.ireturn, 1) := by decide +kernel
theorem dL_law_324 : decode cL_law 324 = .ok (.aload_n 1, 1) := by decide +kernel
theorem dL_law_325 : decode cL_law 325 = .ok (.aload_n 0, 1) := by decide +kernel
theorem dL_law_326 : decode cL_law 326 = .ok (.iload_n 3, 1) := by decide +kernel
theorem dL_law_327 : decode cL_law 327 = .ok (.iconst 1, 1) := by decide +kernel
theorem dL_law_328 : decode cL_law 328 = .ok (.iadd, 1) := by decide +kernel
theorem dL_law_329 : decode cL_law 329 = .ok (.iaload, 1) := by decide +kernel
theorem dL_law_330 : decode cL_law 330 = .ok (.invokevirtual 32, 3) := by decide +kernel
theorem dL_law_333 : decode cL_law 333 = .ok (.aload_n 2, 1) := by decide +kernel
theorem dL_law_334 : decode cL_law 334 = .ok (.aload_n 0, 1) := by decide +kernel
theorem dL_law_335 : decode cL_law 335 = .ok (.iload_n 3, 1) := by decide +kernel
theorem dL_law_336 : decode cL_law 336 = .ok (.iconst 1, 1) := by decide +kernel
theorem dL_law_337 : decode cL_law 337 = .ok (.iadd, 1) := by decide +kernel
theorem dL_law_338 : decode cL_law 338 = .ok (.iaload, 1) := by decide +kernel
theorem dL_law_339 : decode cL_law 339 = .ok (.invokevirtual 36, 3) := by decide +kernel
theorem dL_law_342 : decode cL_law 342 = .ok (.if_icmp .eq 803, 3) := by decide +kernel
theorem dL_law_345 : decode cL_law 345 = .ok (.iconst 0, 1) := by decide +kernel
theorem dL_law_346 : decode cL_law 346 = .ok (.ireturn, 1) := by decide +kernel
theorem dL_law_347 : decode cL_law 347 = .ok (.aload_n 1, 1) := by decide +kernel
theorem dL_law_348 : decode cL_law 348 = .ok (.aload_n 0, 1) := by decide +kernel
theorem dL_law_349 : decode cL_law 349 = .ok (.iload_n 3, 1) := by decide +kernel
theorem dL_law_350 : decode cL_law 350 = .ok (.iconst 1, 1) := by decide +kernel
theorem dL_law_351 : decode cL_law 351 = .ok (.iadd, 1) := by decide +kernel
theorem dL_law_352 : decode cL_law 352 = .ok (.iaload, 1) := by decide +kernel
theorem dL_law_353 : decode cL_law 353 = .ok (.aload_n 0, 1) := by decide +kernel
theorem dL_law_354 : decode cL_law 354 = .ok (.iload_n 3, 1) := by decide +kernel
theorem dL_law_355 : decode cL_law 355 = .ok (.iconst 2, 1) := by decide +kernel
theorem dL_law_356 : decode cL_law 356 = .ok (.iadd, 1) := by decide +kernel
theorem dL_law_357 : decode cL_law 357 = .ok (.iaload, 1) := by decide +kernel
theorem dL_law_358 : decode cL_law 358 = .ok (.aload_n 0, 1) := by decide +kernel
theorem dL_law_359 : decode cL_law 359 = .ok (.iload_n 3, 1) := by decide +kernel
theorem dL_law_360 : decode cL_law 360 = .ok (.iconst 3, 1) := by decide +kernel
theorem dL_law_361 : decode cL_law 361 = .ok (.iadd, 1) := by decide +kernel
theorem dL_law_362 : decode cL_law 362 = .ok (.iaload, 1) := by decide +kernel
theorem dL_law_363 : decode cL_law 363 = .ok (.aload_n 0, 1) := by decide +kernel
theorem dL_law_364 : decode cL_law 364 = .ok (.iload_n 3, 1) := by decide +kernel
theorem dL_law_365 : decode cL_law 365 = .ok (.iconst 4, 1) := by decide +kernel
theorem dL_law_366 : decode cL_law 366 = .ok (.iadd, 1) := by decide +kernel
theorem dL_law_367 : decode cL_law 367 = .ok (.iaload, 1) := by decide +kernel
theorem dL_law_368 : decode cL_law 368 = .ok (.aload_n 0, 1) := by decide +kernel
theorem dL_law_369 : decode cL_law 369 = .ok (.iload_n 3, 1) := by decide +kernel
theorem dL_law_370 : decode cL_law 370 = .ok (.iconst 5, 1) := by decide +kernel
theorem dL_law_371 : decode cL_law 371 = .ok (.iadd, 1) := by decide +kernel
theorem dL_law_372 : decode cL_law 372 = .ok (.iaload, 1) := by decide +kernel
theorem dL_law_373 : decode cL_law 373 = .ok (.invokevirtual 37, 3) := by decide +kernel
theorem dL_law_376 : decode cL_law 376 = .ok (.aload_n 2, 1) := by decide +kernel
theorem dL_law_377 : decode cL_law 377 = .ok (.aload_n 0, 1) := by decide +kernel
theorem dL_law_378 : decode cL_law 378 = .ok (.iload_n 3, 1) := by decide +kernel
theorem dL_law_379 : decode cL_law 379 = .ok (.iconst 1, 1) := by decide +kernel
theorem dL_law_380 : decode cL_law 380 = .ok (.iadd, 1) := by decide +kernel
theorem dL_law_381 : decode cL_law 381 = .ok (.iaload, 1) := by decide +kernel
theorem dL_law_382 : decode cL_law 382 = .ok (.aload_n 0, 1) := by decide +kernel
theorem dL_law_383 : decode cL_law 383 = .ok (.iload_n 3, 1) := by decide +kernel
theorem dL_law_384 : decode cL_law 384 = .ok (.iconst 2, 1) := by decide +kernel
theorem dL_law_385 : decode cL_law 385 = .ok (.iadd, 1) := by decide +kernel
theorem dL_law_386 : decode cL_law 386 = .ok (.iaload, 1) := by decide +kernel
theorem dL_law_387 : decode cL_law 387 = .ok (.aload_n 0, 1) := by decide +kernel
theorem dL_law_388 : decode cL_law 388 = .ok (.iload_n 3, 1) := by decide +kernel
theorem dL_law_389 : decode cL_law 389 = .ok (.iconst 3, 1) := by decide +kernel
theorem dL_law_390 : decode cL_law 390 = .ok (.iadd, 1) := by decide +kernel
theorem dL_law_391 : decode cL_law 391 = .ok (.iaload, 1) := by decide +kernel
theorem dL_law_392 : decode cL_law 392 = .ok (.aload_n 0, 1) := by decide +kernel
theorem dL_law_393 : decode cL_law 393 = .ok (.iload_n 3, 1) := by decide +kernel
theorem dL_law_394 : decode cL_law 394 = .ok (.iconst 4, 1) := by decide +kernel
theorem dL_law_395 : decode cL_law 395 = .ok (.iadd, 1) := by decide +kernel
theorem dL_law_396 : decode cL_law 396 = .ok (.iaload, 1) := by decide +kernel
theorem dL_law_397 : decode cL_law 397 = .ok (.aload_n 0, 1) := by decide +kernel
theorem dL_law_398 : decode cL_law 398 = .ok (.iload_n 3, 1) := by decide +kernel
theorem dL_law_399 : decode cL_law 399 = .ok (.iconst 5, 1) := by decide +kernel
theorem dL_law_400 : decode cL_law 400 = .ok (.iadd, 1) := by decide +kernel
theorem dL_law_401 : decode cL_law 401 = .ok (.iaload, 1) := by decide +kernel
theorem dL_law_402 : decode cL_law 402 = .ok (.invokevirtual 40, 3) := by decide +kernel
theorem dL_law_405 : decode cL_law 405 = .ok (.if_icmp .eq 740, 3) := by decide +kernel
theorem dL_law_408 : decode cL_law 408 = .ok (.iconst 0, 1) := by decide +kernel
theorem dL_law_409 : decode cL_law 409 = .ok (.ireturn, 1) := by decide +kernel
theorem dL_law_410 : decode cL_law 410 = .ok (.aload_n 1, 1) := by decide +kernel
theorem dL_law_411 : decode cL_law 411 = .ok (.aload_n 0, 1) := by decide +kernel
theorem dL_law_412 : decode cL_law 412 = .ok (.iload_n 3, 1) := by decide +kernel
theorem dL_law_413 : decode cL_law 413 = .ok (.iconst 1, 1) := by decide +kernel
theorem dL_law_414 : decode cL_law 414 = .ok (.iadd, 1) := by decide +kernel
theorem dL_law_415 : decode cL_law 415 = .ok (.iaload, 1) := by decide +kernel
theorem dL_law_416 : decode cL_law 416 = .ok (.invokevirtual 41, 3) := by decide +kernel
theorem dL_law_419 : decode cL_law 419 = .ok (.aload_n 2, 1) := by decide +kernel
theorem dL_law_420 : decode cL_law 420 = .ok (.aload_n 0, 1) := by decide +kernel
theorem dL_law_421 : decode cL_law 421 = .ok (.iload_n 3, 1) := by decide +kernel
theorem dL_law_422 : decode cL_law 422 = .ok (.iconst 1, 1) := by decide +kernel
theorem dL_law_423 : decode cL_law 423 = .ok (.iadd, 1) := by decide +kernel
theorem dL_law_424 : decode cL_law 424 = .ok (.iaload, 1) := by decide +kernel
theorem dL_law_425 : decode cL_law 425 = .ok (.invokevirtual 44, 3) := by decide +kernel
theorem dL_law_428 : decode cL_law 428 = .ok (.if_icmp .eq 717, 3) := by decide +kernel
theorem dL_law_431 : decode cL_law 431 = .ok (.iconst 0, 1) := by decide +kernel
theorem dL_law_432 : decode cL_law 432 = .ok (.ireturn, 1) := by decide +kernel
theorem dL_law_433 : decode cL_law 433 = .ok (.aload_n 1, 1) := by decide +kernel
theorem dL_law_434 : decode cL_law 434 = .ok (.aload_n 0, 1) := by decide +kernel
theorem dL_law_435 : decode cL_law 435 = .ok (.iload_n 3, 1) := by decide +kernel
theorem dL_law_436 : decode cL_law 436 = .ok (.iconst 1, 1) := by decide +kernel
theorem dL_law_437 : decode cL_law 437 = .ok (.iadd, 1) := by decide +kernel
theorem dL_law_438 : decode cL_law 438 = .ok (.iaload, 1) := by decide +kernel
theorem dL_law_439 : decode cL_law 439 = .ok (.invokevirtual 45, 3) := by decide +kernel
theorem dL_law_442 : decode cL_law 442 = .ok (.aload_n 2, 1) := by decide +kernel
theorem dL_law_443 : decode cL_law 443 = .ok (.aload_n 0, 1) := by decide +kernel
theorem dL_law_444 : decode cL_law 444 = .ok (.iload_n 3, 1) := by decide +kernel
theorem dL_law_445 : decode cL_law 445 = .ok (.iconst 1, 1) := by decide +kernel
theorem dL_law_446 : decode cL_law 446 = .ok (.iadd, 1) := by decide +kernel
theorem dL_law_447 : decode cL_law 447 = .ok (.iaload, 1) := by decide +kernel
theorem dL_law_448 : decode cL_law 448 = .ok (.invokevirtual 48, 3) := by decide +kernel
theorem dL_law_451 : decode cL_law 451 = .ok (.if_icmp .eq 694, 3) := by decide +kernel
theorem dL_law_454 : decode cL_law 454 = .ok (.iconst 0, 1) := by decide +kernel
theorem dL_law_455 : decode cL_law 455 = .ok (.ireturn, 1) := by decide +kernel
theorem dL_law_456 : decode cL_law 456 = .ok (.aload_n 1, 1) := by decide +kernel
theorem dL_law_457 : decode cL_law 457 = .ok (.aload_n 0, 1) := by decide +kernel
theorem dL_law_458 : decode cL_law 458 = .ok (.iload_n 3, 1) := by decide +kernel
theorem dL_law_459 : decode cL_law 459 = .ok (.iconst 1, 1) := by decide +kernel
theorem dL_law_460 : decode cL_law 460 = .ok (.iadd, 1) := by decide +kernel
theorem dL_law_461 : decode cL_law 461 = .ok (.iaload, 1) := by decide +kernel
theorem dL_law_462 : decode cL_law 462 = .ok (.aload_n 0, 1) := by decide +kernel
theorem dL_law_463 : decode cL_law 463 = .ok (.iload_n 3, 1) := by decide +kernel
theorem dL_law_464 : decode cL_law 464 = .ok (.iconst 2, 1) := by decide +kernel
theorem dL_law_465 : decode cL_law 465 = .ok (.iadd, 1) := by decide +kernel
theorem dL_law_466 : decode cL_law 466 = .ok (.iaload, 1) := by decide +kernel
theorem dL_law_467 : decode cL_law 467 = .ok (.invokevirtual 49, 3) := by decide +kernel
theorem dL_law_470 : decode cL_law 470 = .ok (.aload_n 2, 1) := by decide +kernel
theorem dL_law_471 : decode cL_law 471 = .ok (.aload_n 0, 1) := by decide +kernel
theorem dL_law_472 : decode cL_law 472 = .ok (.iload_n 3, 1) := by decide +kernel
theorem dL_law_473 : decode cL_law 473 = .ok (.iconst 1, 1) := by decide +kernel
theorem dL_law_474 : decode cL_law 474 = .ok (.iadd, 1) := by decide +kernel
theorem dL_law_475 : decode cL_law 475 = .ok (.iaload, 1) := by decide +kernel
theorem dL_law_476 : decode cL_law 476 = .ok (.aload_n 0, 1) := by decide +kernel
theorem dL_law_477 : decode cL_law 477 = .ok (.iload_n 3, 1) := by decide +kernel
theorem dL_law_478 : decode cL_law 478 = .ok (.iconst 2, 1) := by decide +kernel
theorem dL_law_479 : decode cL_law 479 = .ok (.iadd, 1) := by decide +kernel
theorem dL_law_480 : decode cL_law 480 = .ok (.iaload, 1) := by decide +kernel
theorem dL_law_481 : decode cL_law 481 = .ok (.invokevirtual 53, 3) := by decide +kernel
theorem dL_law_484 : decode cL_law 484 = .ok (.if_icmp .eq 661, 3) := by decide +kernel
theorem dL_law_487 : decode cL_law 487 = .ok (.iconst 0, 1) := by decide +kernel
theorem dL_law_488 : decode cL_law 488 = .ok (.ireturn, 1) := by decide +kernel
theorem dL_law_489 : decode cL_law 489 = .ok (.aload_n 1, 1) := by decide +kernel
theorem dL_law_490 : decode cL_law 490 = .ok (.aload_n 0, 1) := by decide +kernel
theorem dL_law_491 : decode cL_law 491 = .ok (.iload_n 3, 1) := by decide +kernel
theorem dL_law_492 : decode cL_law 492 = .ok (.iconst 1, 1) := by decide +kernel
theorem dL_law_493 : decode cL_law 493 = .ok (.iadd, 1) := by decide +kernel
theorem dL_law_494 : decode cL_law 494 = .ok (.iaload, 1) := by decide +kernel
theorem dL_law_495 : decode cL_law 495 = .ok (.aload_n 0, 1) := by decide +kernel
theorem dL_law_496 : decode cL_law 496 = .ok (.iload_n 3, 1) := by decide +kernel
theorem dL_law_497 : decode cL_law 497 = .ok (.iconst 2, 1) := by decide +kernel
theorem dL_law_498 : decode cL_law 498 = .ok (.iadd, 1) := by decide +kernel
theorem dL_law_499 : decode cL_law 499 = .ok (.iaload, 1) := by decide +kernel
theorem dL_law_500 : decode cL_law 500 = .ok (.invokevirtual 54, 3) := by decide +kernel
theorem dL_law_503 : decode cL_law 503 = .ok (.aload_n 2, 1) := by decide +kernel
theorem dL_law_504 : decode cL_law 504 = .ok (.aload_n 0, 1) := by decide +kernel
theorem dL_law_505 : decode cL_law 505 = .ok (.iload_n 3, 1) := by decide +kernel
theorem dL_law_506 : decode cL_law 506 = .ok (.iconst 1, 1) := by decide +kernel
theorem dL_law_507 : decode cL_law 507 = .ok (.iadd, 1) := by decide +kernel
theorem dL_law_508 : decode cL_law 508 = .ok (.iaload, 1) := by decide +kernel
theorem dL_law_509 : decode cL_law 509 = .ok (.aload_n 0, 1) := by decide +kernel
theorem dL_law_510 : decode cL_law 510 = .ok (.iload_n 3, 1) := by decide +kernel
theorem dL_law_511 : decode cL_law 511 = .ok (.iconst 2, 1) := by decide +kernel
theorem dL_law_512 : decode cL_law 512 = .ok (.iadd, 1) := by decide +kernel
theorem dL_law_513 : decode cL_law 513 = .ok (.iaload, 1) := by decide +kernel
theorem dL_law_514 : decode cL_law 514 = .ok (.invokevirtual 57, 3) := by decide +kernel
theorem dL_law_517 : decode cL_law 517 = .ok (.if_icmp .eq 628, 3) := by decide +kernel
theorem dL_law_520 : decode cL_law 520 = .ok (.iconst 0, 1) := by decide +kernel
theorem dL_law_521 : decode cL_law 521 = .ok (.ireturn, 1) := by decide +kernel
theorem dL_law_522 : decode cL_law 522 = .ok (.aload_n 1, 1) := by decide +kernel
theorem dL_law_523 : decode cL_law 523 = .ok (.aload_n 0, 1) := by decide +kernel
theorem dL_law_524 : decode cL_law 524 = .ok (.iload_n 3, 1) := by decide +kernel
theorem dL_law_525 : decode cL_law 525 = .ok (.iconst 1, 1) := by decide +kernel
theorem dL_law_526 : decode cL_law 526 = .ok (.iadd, 1) := by decide +kernel
theorem dL_law_527 : decode cL_law 527 = .ok (.iaload, 1) := by decide +kernel
theorem dL_law_528 : decode cL_law 528 = .ok (.aload_n 0, 1) := by decide +kernel
theorem dL_law_529 : decode cL_law 529 = .ok (.iload_n 3, 1) := by decide +kernel
theorem dL_law_530 : decode cL_law 530 = .ok (.iconst 2, 1) := by decide +kernel
theorem dL_law_531 : decode cL_law 531 = .ok (.iadd, 1) := by decide +kernel
theorem dL_law_532 : decode cL_law 532 = .ok (.iaload, 1) := by decide +kernel
theorem dL_law_533 : decode cL_law 533 = .ok (.invokevirtual 58, 3) := by decide +kernel
theorem dL_law_536 : decode cL_law 536 = .ok (.aload_n 2, 1) := by decide +kernel
theorem dL_law_537 : decode cL_law 537 = .ok (.aload_n 0, 1) := by decide +kernel
theorem dL_law_538 : decode cL_law 538 = .ok (.iload_n 3, 1) := by decide +kernel
theorem dL_law_539 : decode cL_law 539 = .ok (.iconst 1, 1) := by decide +kernel
theorem dL_law_540 : decode cL_law 540 = .ok (.iadd, 1) := by decide +kernel
theorem dL_law_541 : decode cL_law 541 = .ok (.iaload, 1) := by decide +kernel
theorem dL_law_542 : decode cL_law 542 = .ok (.aload_n 0, 1) := by decide +kernel
theorem dL_law_543 : decode cL_law 543 = .ok (.iload_n 3, 1) := by decide +kernel
theorem dL_law_544 : decode cL_law 544 = .ok (.iconst 2, 1) := by decide +kernel
theorem dL_law_545 : decode cL_law 545 = .ok (.iadd, 1) := by decide +kernel
theorem dL_law_546 : decode cL_law 546 = .ok (.iaload, 1) := by decide +kernel
theorem dL_law_547 : decode cL_law 547 = .ok (.invokevirtual 61, 3) := by decide +kernel
theorem dL_law_550 : decode cL_law 550 = .ok (.if_icmp .eq 595, 3) := by decide +kernel
theorem dL_law_553 : decode cL_law 553 = .ok (.iconst 0, 1) := by decide +kernel
theorem dL_law_554 : decode cL_law 554 = .ok (.ireturn, 1) := by decide +kernel
theorem dL_law_555 : decode cL_law 555 = .ok (.aload_n 1, 1) := by decide +kernel
theorem dL_law_556 : decode cL_law 556 = .ok (.aload_n 0, 1) := by decide +kernel
theorem dL_law_557 : decode cL_law 557 = .ok (.iload_n 3, 1) := by decide +kernel
theorem dL_law_558 : decode cL_law 558 = .ok (.iconst 1, 1) := by decide +kernel
theorem dL_law_559 : decode cL_law 559 = .ok (.iadd, 1) := by decide +kernel
theorem dL_law_560 : decode cL_law 560 = .ok (.iaload, 1) := by decide +kernel
theorem dL_law_561 : decode cL_law 561 = .ok (.aload_n 0, 1) := by decide +kernel
theorem dL_law_562 : decode cL_law 562 = .ok (.iload_n 3, 1) := by decide +kernel
theorem dL_law_563 : decode cL_law 563 = .ok (.iconst 2, 1) := by decide +kernel
theorem dL_law_564 : decode cL_law 564 = .ok (.iadd, 1) := by decide +kernel
theorem dL_law_565 : decode cL_law 565 = .ok (.iaload, 1) := by decide +kernel
theorem dL_law_566 : decode cL_law 566 = .ok (.aload_n 0, 1) := by decide +kernel
theorem dL_law_567 : decode cL_law 567 = .ok (.iload_n 3, 1) := by decide +kernel
theorem dL_law_568 : decode cL_law 568 = .ok (.iconst 3, 1) := by decide +kernel
theorem dL_law_569 : decode cL_law 569 = .ok (.iadd, 1) := by decide +kernel
theorem dL_law_570 : decode cL_law 570 = .ok (.iaload, 1) := by decide +kernel
theorem dL_law_571 : decode cL_law 571 = .ok (.invokevirtual 62, 3) := by decide +kernel
theorem dL_law_574 : decode cL_law 574 = .ok (.aload_n 2, 1) := by decide +kernel
theorem dL_law_575 : decode cL_law 575 = .ok (.aload_n 0, 1) := by decide +kernel
theorem dL_law_576 : decode cL_law 576 = .ok (.iload_n 3, 1) := by decide +kernel
theorem dL_law_577 : decode cL_law 577 = .ok (.iconst 1, 1) := by decide +kernel
theorem dL_law_578 : decode cL_law 578 = .ok (.iadd, 1) := by decide +kernel
theorem dL_law_579 : decode cL_law 579 = .ok (.iaload, 1) := by decide +kernel
theorem dL_law_580 : decode cL_law 580 = .ok (.aload_n 0, 1) := by decide +kernel
theorem dL_law_581 : decode cL_law 581 = .ok (.iload_n 3, 1) := by decide +kernel
theorem dL_law_582 : decode cL_law 582 = .ok (.iconst 2, 1) := by decide +kernel
theorem dL_law_583 : decode cL_law 583 = .ok (.iadd, 1) := by decide +kernel
theorem dL_law_584 : decode cL_law 584 = .ok (.iaload, 1) := by decide +kernel
theorem dL_law_585 : decode cL_law 585 = .ok (.aload_n 0, 1) := by decide +kernel
theorem dL_law_586 : decode cL_law 586 = .ok (.iload_n 3, 1) := by decide +kernel
theorem dL_law_587 : decode cL_law 587 = .ok (.iconst 3, 1) := by decide +kernel
theorem dL_law_588 : decode cL_law 588 = .ok (.iadd, 1) := by decide +kernel
theorem dL_law_589 : decode cL_law 589 = .ok (.iaload, 1) := by decide +kernel
theorem dL_law_590 : decode cL_law 590 = .ok (.invokevirtual 66, 3) := by decide +kernel
theorem dL_law_593 : decode cL_law 593 = .ok (.if_icmp .eq 552, 3) := by decide +kernel
theorem dL_law_596 : decode cL_law 596 = .ok (.iconst 0, 1) := by decide +kernel
theorem dL_law_597 : decode cL_law 597 = .ok (.ireturn, 1) := by decide +kernel
theorem dL_law_598 : decode cL_law 598 = .ok (.aload_n 1, 1) := by decide +kernel
theorem dL_law_599 : decode cL_law 599 = .ok (.aload_n 0, 1) := by decide +kernel
theorem dL_law_600 : decode cL_law 600 = .ok (.iload_n 3, 1) := by decide +kernel
theorem dL_law_601 : decode cL_law 601 = .ok (.iconst 1, 1) := by decide +kernel
theorem dL_law_602 : decode cL_law 602 = .ok (.iadd, 1) := by decide +kernel
theorem dL_law_603 : decode cL_law 603 = .ok (.iaload, 1) := by decide +kernel
theorem dL_law_604 : decode cL_law 604 = .ok (.aload_n 0, 1) := by decide +kernel
theorem dL_law_605 : decode cL_law 605 = .ok (.iload_n 3, 1) := by decide +kernel
theorem dL_law_606 : decode cL_law 606 = .ok (.iconst 2, 1) := by decide +kernel
theorem dL_law_607 : decode cL_law 607 = .ok (.iadd, 1) := by decide +kernel
theorem dL_law_608 : decode cL_law 608 = .ok (.iaload, 1) := by decide +kernel
theorem dL_law_609 : decode cL_law 609 = .ok (.invokevirtual 67, 3) := by decide +kernel
theorem dL_law_612 : decode cL_law 612 = .ok (.aload_n 2, 1) := by decide +kernel
theorem dL_law_613 : decode cL_law 613 = .ok (.aload_n 0, 1) := by decide +kernel
theorem dL_law_614 : decode cL_law 614 = .ok (.iload_n 3, 1) := by decide +kernel
theorem dL_law_615 : decode cL_law 615 = .ok (.iconst 1, 1) := by decide +kernel
theorem dL_law_616 : decode cL_law 616 = .ok (.iadd, 1) := by decide +kernel
theorem dL_law_617 : decode cL_law 617 = .ok (.iaload, 1) := by decide +kernel
theorem dL_law_618 : decode cL_law 618 = .ok (.aload_n 0, 1) := by decide +kernel
theorem dL_law_619 : decode cL_law 619 = .ok (.iload_n 3, 1) := by decide +kernel
theorem dL_law_620 : decode cL_law 620 = .ok (.iconst 2, 1) := by decide +kernel
theorem dL_law_621 : decode cL_law 621 = .ok (.iadd, 1) := by decide +kernel
theorem dL_law_622 : decode cL_law 622 = .ok (.iaload, 1) := by decide +kernel
theorem dL_law_623 : decode cL_law 623 = .ok (.invokevirtual 70, 3) := by decide +kernel
theorem dL_law_626 : decode cL_law 626 = .ok (.if_icmp .eq 519, 3) := by decide +kernel
theorem dL_law_629 : decode cL_law 629 = .ok (.iconst 0, 1) := by decide +kernel
theorem dL_law_630 : decode cL_law 630 = .ok (.ireturn, 1) := by decide +kernel
theorem dL_law_631 : decode cL_law 631 = .ok (.aload_n 1, 1) := by decide +kernel
theorem dL_law_632 : decode cL_law 632 = .ok (.aload_n 0, 1) := by decide +kernel
theorem dL_law_633 : decode cL_law 633 = .ok (.iload_n 3, 1) := by decide +kernel
theorem dL_law_634 : decode cL_law 634 = .ok (.iconst 1, 1) := by decide +kernel
theorem dL_law_635 : decode cL_law 635 = .ok (.iadd, 1) := by decide +kernel
theorem dL_law_636 : decode cL_law 636 = .ok (.iaload, 1) := by decide +kernel
theorem dL_law_637 : decode cL_law 637 = .ok (.aload_n 0, 1) := by decide +kernel
theorem dL_law_638 : decode cL_law 638 = .ok (.iload_n 3, 1) := by decide +kernel
theorem dL_law_639 : decode cL_law 639 = .ok (.iconst 2, 1) := by decide +kernel
theorem dL_law_640 : decode cL_law 640 = .ok (.iadd, 1) := by decide +kernel
theorem dL_law_641 : decode cL_law 641 = .ok (.iaload, 1) := by decide +kernel
theorem dL_law_642 : decode cL_law 642 = .ok (.aload_n 0, 1) := by decide +kernel
theorem dL_law_643 : decode cL_law 643 = .ok (.iload_n 3, 1) := by decide +kernel
theorem dL_law_644 : decode cL_law 644 = .ok (.iconst 3, 1) := by decide +kernel
theorem dL_law_645 : decode cL_law 645 = .ok (.iadd, 1) := by decide +kernel
theorem dL_law_646 : decode cL_law 646 = .ok (.iaload, 1) := by decide +kernel
theorem dL_law_647 : decode cL_law 647 = .ok (.invokevirtual 71, 3) := by decide +kernel
theorem dL_law_650 : decode cL_law 650 = .ok (.aload_n 2, 1) := by decide +kernel
theorem dL_law_651 : decode cL_law 651 = .ok (.aload_n 0, 1) := by decide +kernel
theorem dL_law_652 : decode cL_law 652 = .ok (.iload_n 3, 1) := by decide +kernel
theorem dL_law_653 : decode cL_law 653 = .ok (.iconst 1, 1) := by decide +kernel
theorem dL_law_654 : decode cL_law 654 = .ok (.iadd, 1) := by decide +kernel
theorem dL_law_655 : decode cL_law 655 = .ok (.iaload, 1) := by decide +kernel
theorem dL_law_656 : decode cL_law 656 = .ok (.aload_n 0, 1) := by decide +kernel
theorem dL_law_657 : decode cL_law 657 = .ok (.iload_n 3, 1) := by decide +kernel
theorem dL_law_658 : decode cL_law 658 = .ok (.iconst 2, 1) := by decide +kernel
theorem dL_law_659 : decode cL_law 659 = .ok (.iadd, 1) := by decide +kernel
theorem dL_law_660 : decode cL_law 660 = .ok (.iaload, 1) := by decide +kernel
theorem dL_law_661 : decode cL_law 661 = .ok (.aload_n 0, 1) := by decide +kernel
theorem dL_law_662 : decode cL_law 662 = .ok (.iload_n 3, 1) := by decide +kernel
theorem dL_law_663 : decode cL_law 663 = .ok (.iconst 3, 1) := by decide +kernel
theorem dL_law_664 : decode cL_law 664 = .ok (.iadd, 1) := by decide +kernel
theorem dL_law_665 : decode cL_law 665 = .ok (.iaload, 1) := by decide +kernel
theorem dL_law_666 : decode cL_law 666 = .ok (.invokevirtual 74, 3) := by decide +kernel
theorem dL_law_669 : decode cL_law 669 = .ok (.if_icmp .eq 476, 3) := by decide +kernel
theorem dL_law_672 : decode cL_law 672 = .ok (.iconst 0, 1) := by decide +kernel
theorem dL_law_673 : decode cL_law 673 = .ok (.ireturn, 1) := by decide +kernel
theorem dL_law_674 : decode cL_law 674 = .ok (.aload_n 1, 1) := by decide +kernel
theorem dL_law_675 : decode cL_law 675 = .ok (.aload_n 0, 1) := by decide +kernel
theorem dL_law_676 : decode cL_law 676 = .ok (.iload_n 3, 1) := by decide +kernel
theorem dL_law_677 : decode cL_law 677 = .ok (.iconst 1, 1) := by decide +kernel
theorem dL_law_678 : decode cL_law 678 = .ok (.iadd, 1) := by decide +kernel
theorem dL_law_679 : decode cL_law 679 = .ok (.iaload, 1) := by decide +kernel
theorem dL_law_680 : decode cL_law 680 = .ok (.aload_n 0, 1) := by decide +kernel
theorem dL_law_681 : decode cL_law 681 = .ok (.iload_n 3, 1) := by decide +kernel
theorem dL_law_682 : decode cL_law 682 = .ok (.iconst 2, 1) := by decide +kernel
theorem dL_law_683 : decode cL_law 683 = .ok (.iadd, 1) := by decide +kernel
theorem dL_law_684 : decode cL_law 684 = .ok (.iaload, 1) := by decide +kernel
theorem dL_law_685 : decode cL_law 685 = .ok (.aload_n 0, 1) := by decide +kernel
theorem dL_law_686 : decode cL_law 686 = .ok (.iload_n 3, 1) := by decide +kernel
theorem dL_law_687 : decode cL_law 687 = .ok (.iconst 3, 1) := by decide +kernel
theorem dL_law_688 : decode cL_law 688 = .ok (.iadd, 1) := by decide +kernel
theorem dL_law_689 : decode cL_law 689 = .ok (.iaload, 1) := by decide +kernel
theorem dL_law_690 : decode cL_law 690 = .ok (.invokevirtual 75, 3) := by decide +kernel
theorem dL_law_693 : decode cL_law 693 = .ok (.aload_n 2, 1) := by decide +kernel
theorem dL_law_694 : decode cL_law 694 = .ok (.aload_n 0, 1) := by decide +kernel
theorem dL_law_695 : decode cL_law 695 = .ok (.iload_n 3, 1) := by decide +kernel
theorem dL_law_696 : decode cL_law 696 = .ok (.iconst 1, 1) := by decide +kernel
theorem dL_law_697 : decode cL_law 697 = .ok (.iadd, 1) := by decide +kernel
theorem dL_law_698 : decode cL_law 698 = .ok (.iaload, 1) := by decide +kernel
theorem dL_law_699 : decode cL_law 699 = .ok (.aload_n 0, 1) := by decide +kernel
theorem dL_law_700 : decode cL_law 700 = .ok (.iload_n 3, 1) := by decide +kernel
theorem dL_law_701 : decode cL_law 701 = .ok (.iconst 2, 1) := by decide +kernel
theorem dL_law_702 : decode cL_law 702 = .ok (.iadd, 1) := by decide +kernel
theorem dL_law_703 : decode cL_law 703 = .ok (.iaload, 1) := by decide +kernel
theorem dL_law_704 : decode cL_law 704 = .ok (.aload_n 0, 1) := by decide +kernel
theorem dL_law_705 : decode cL_law 705 = .ok (.iload_n 3, 1) := by decide +kernel
theorem dL_law_706 : decode cL_law 706 = .ok (.iconst 3, 1) := by decide +kernel
theorem dL_law_707 : decode cL_law 707 = .ok (.iadd, 1) := by decide +kernel
theorem dL_law_708 : decode cL_law 708 = .ok (.iaload, 1) := by decide +kernel
theorem dL_law_709 : decode cL_law 709 = .ok (.invokevirtual 78, 3) := by decide +kernel
theorem dL_law_712 : decode cL_law 712 = .ok (.if_icmp .eq 433, 3) := by decide +kernel
theorem dL_law_715 : decode cL_law 715 = .ok (.iconst 0, 1) := by decide +kernel
theorem dL_law_716 : decode cL_law 716 = .ok (.ireturn, 1) := by decide +kernel
theorem dL_law_717 : decode cL_law 717 = .ok (.aload_n 1, 1) := by decide +kernel
theorem dL_law_718 : decode cL_law 718 = .ok (.aload_n 0, 1) := by decide +kernel
theorem dL_law_719 : decode cL_law 719 = .ok (.iload_n 3, 1) := by decide +kernel
theorem dL_law_720 : decode cL_law 720 = .ok (.iconst 1, 1) := by decide +kernel
theorem dL_law_721 : decode cL_law 721 = .ok (.iadd, 1) := by decide +kernel
theorem dL_law_722 : decode cL_law 722 = .ok (.iaload, 1) := by decide +kernel
theorem dL_law_723 : decode cL_law 723 = .ok (.aload_n 0, 1) := by decide +kernel
theorem dL_law_724 : decode cL_law 724 = .ok (.iload_n 3, 1) := by decide +kernel
theorem dL_law_725 : decode cL_law 725 = .ok (.iconst 2, 1) := by decide +kernel
theorem dL_law_726 : decode cL_law 726 = .ok (.iadd, 1) := by decide +kernel
theorem dL_law_727 : decode cL_law 727 = .ok (.iaload, 1) := by decide +kernel
theorem dL_law_728 : decode cL_law 728 = .ok (.invokevirtual 79, 3) := by decide +kernel
theorem dL_law_731 : decode cL_law 731 = .ok (.aload_n 2, 1) := by decide +kernel
theorem dL_law_732 : decode cL_law 732 = .ok (.aload_n 0, 1) := by decide +kernel
theorem dL_law_733 : decode cL_law 733 = .ok (.iload_n 3, 1) := by decide +kernel
theorem dL_law_734 : decode cL_law 734 = .ok (.iconst 1, 1) := by decide +kernel
theorem dL_law_735 : decode cL_law 735 = .ok (.iadd, 1) := by decide +kernel
theorem dL_law_736 : decode cL_law 736 = .ok (.iaload, 1) := by decide +kernel
theorem dL_law_737 : decode cL_law 737 = .ok (.aload_n 0, 1) := by decide +kernel
theorem dL_law_738 : decode cL_law 738 = .ok (.iload_n 3, 1) := by decide +kernel
theorem dL_law_739 : decode cL_law 739 = .ok (.iconst 2, 1) := by decide +kernel
theorem dL_law_740 : decode cL_law 740 = .ok (.iadd, 1) := by decide +kernel
theorem dL_law_741 : decode cL_law 741 = .ok (.iaload, 1) := by decide +kernel
theorem dL_law_742 : decode cL_law 742 = .ok (.invokevirtual 82, 3) := by decide +kernel
theorem dL_law_745 : decode cL_law 745 = .ok (.if_icmp .eq 400, 3) := by decide +kernel
theorem dL_law_748 : decode cL_law 748 = .ok (.iconst 0, 1) := by decide +kernel
theorem dL_law_749 : decode cL_law 749 = .ok (.ireturn, 1) := by decide +kernel
theorem dL_law_750 : decode cL_law 750 = .ok (.aload_n 1, 1) := by decide +kernel
theorem dL_law_751 : decode cL_law 751 = .ok (.aload_n 0, 1) := by decide +kernel
theorem dL_law_752 : decode cL_law 752 = .ok (.iload_n 3, 1) := by decide +kernel
theorem dL_law_753 : decode cL_law 753 = .ok (.iconst 1, 1) := by decide +kernel
theorem dL_law_754 : decode cL_law 754 = .ok (.iadd, 1) := by decide +kernel
theorem dL_law_755 : decode cL_law 755 = .ok (.iaload, 1) := by decide +kernel
theorem dL_law_756 : decode cL_law 756 = .ok (.aload_n 0, 1) := by decide +kernel
theorem dL_law_757 : decode cL_law 757 = .ok (.iload_n 3, 1) := by decide +kernel
theorem dL_law_758 : decode cL_law 758 = .ok (.iconst 2, 1) := by decide +kernel
theorem dL_law_759 : decode cL_law 759 = .ok (.iadd, 1) := by decide +kernel
theorem dL_law_760 : decode cL_law 760 = .ok (.iaload, 1) := by decide +kernel
theorem dL_law_761 : decode cL_law 761 = .ok (.invokevirtual 83, 3) := by decide +kernel
theorem dL_law_764 : decode cL_law 764 = .ok (.aload_n 2, 1) := by decide +kernel
theorem dL_law_765 : decode cL_law 765 = .ok (.aload_n 0, 1) := by decide +kernel
theorem dL_law_766 : decode cL_law 766 = .ok (.iload_n 3, 1) := by decide +kernel
theorem dL_law_767 : decode cL_law 767 = .ok (.iconst 1, 1) := by decide +kernel
theorem dL_law_768 : decode cL_law 768 = .ok (.iadd, 1) := by decide +kernel
theorem dL_law_769 : decode cL_law 769 = .ok (.iaload, 1) := by decide +kernel
theorem dL_law_770 : decode cL_law 770 = .ok (.aload_n 0, 1) := by decide +kernel
theorem dL_law_771 : decode cL_law 771 = .ok (.iload_n 3, 1) := by decide +kernel
theorem dL_law_772 : decode cL_law 772 = .ok (.iconst 2, 1) := by decide +kernel
theorem dL_law_773 : decode cL_law 773 = .ok (.iadd, 1) := by decide +kernel
theorem dL_law_774 : decode cL_law 774 = .ok (.iaload, 1) := by decide +kernel
theorem dL_law_775 : decode cL_law 775 = .ok (.invokevirtual 86, 3) := by decide +kernel
theorem dL_law_778 : decode cL_law 778 = .ok (.if_icmp .eq 367, 3) := by decide +kernel
theorem dL_law_781 : decode cL_law 781 = .ok (.iconst 0, 1) := by decide +kernel
theorem dL_law_782 : decode cL_law 782 = .ok (.ireturn, 1) := by decide +kernel
theorem dL_law_783 : decode cL_law 783 = .ok (.aload_n 1, 1) := by decide +kernel
theorem dL_law_784 : decode cL_law 784 = .ok (.aload_n 0, 1) := by decide +kernel
theorem dL_law_785 : decode cL_law 785 = .ok (.iload_n 3, 1) := by decide +kernel
theorem dL_law_786 : decode cL_law 786 = .ok (.iconst 1, 1) := by decide +kernel
theorem dL_law_787 : decode cL_law 787 = .ok (.iadd, 1) := by decide +kernel
theorem dL_law_788 : decode cL_law 788 = .ok (.iaload, 1) := by decide +kernel
theorem dL_law_789 : decode cL_law 789 = .ok (.aload_n 0, 1) := by decide +kernel
theorem dL_law_790 : decode cL_law 790 = .ok (.iload_n 3, 1) := by decide +kernel
theorem dL_law_791 : decode cL_law 791 = .ok (.iconst 2, 1) := by decide +kernel
theorem dL_law_792 : decode cL_law 792 = .ok (.iadd, 1) := by decide +kernel
theorem dL_law_793 : decode cL_law 793 = .ok (.iaload, 1) := by decide +kernel
theorem dL_law_794 : decode cL_law 794 = .ok (.invokevirtual 87, 3) := by decide +kernel
theorem dL_law_797 : decode cL_law 797 = .ok (.aload_n 2, 1) := by decide +kernel
theorem dL_law_798 : decode cL_law 798 = .ok (.aload_n 0, 1) := by decide +kernel
theorem dL_law_799 : decode cL_law 799 = .ok (.iload_n 3, 1) := by decide +kernel
theorem dL_law_800 : decode cL_law 800 = .ok (.iconst 1, 1) := by decide +kernel
theorem dL_law_801 : decode cL_law 801 = .ok (.iadd, 1) := by decide +kernel
theorem dL_law_802 : decode cL_law 802 = .ok (.iaload, 1) := by decide +kernel
theorem dL_law_803 : decode cL_law 803 = .ok (.aload_n 0, 1) := by decide +kernel
theorem dL_law_804 : decode cL_law 804 = .ok (.iload_n 3, 1) := by decide +kernel
theorem dL_law_805 : decode cL_law 805 = .ok (.iconst 2, 1) := by decide +kernel
theorem dL_law_806 : decode cL_law 806 = .ok (.iadd, 1) := by decide +kernel
theorem dL_law_807 : decode cL_law 807 = .ok (.iaload, 1) := by decide +kernel
theorem dL_law_808 : decode cL_law 808 = .ok (.invokevirtual 90, 3) := by decide +kernel
theorem dL_law_811 : decode cL_law 811 = .ok (.if_icmp .eq 334, 3) := by decide +kernel
theorem dL_law_814 : decode cL_law 814 = .ok (.iconst 0, 1) := by decide +kernel
theorem dL_law_815 : decode cL_law 815 = .ok (.ireturn, 1) := by decide +kernel
theorem dL_law_816 : decode cL_law 816 = .ok (.aload_n 1, 1) := by decide +kernel
theorem dL_law_817 : decode cL_law 817 = .ok (.aload_n 0, 1) := by decide +kernel
theorem dL_law_818 : decode cL_law 818 = .ok (.iload_n 3, 1) := by decide +kernel
theorem dL_law_819 : decode cL_law 819 = .ok (.iconst 1, 1) := by decide +kernel
theorem dL_law_820 : decode cL_law 820 = .ok (.iadd, 1) := by decide +kernel
theorem dL_law_821 : decode cL_law 821 = .ok (.iaload, 1) := by decide +kernel
theorem dL_law_822 : decode cL_law 822 = .ok (.aload_n 0, 1) := by decide +kernel
theorem dL_law_823 : decode cL_law 823 = .ok (.iload_n 3, 1) := by decide +kernel
theorem dL_law_824 : decode cL_law 824 = .ok (.iconst 2, 1) := by decide +kernel
theorem dL_law_825 : decode cL_law 825 = .ok (.iadd, 1) := by decide +kernel
theorem dL_law_826 : decode cL_law 826 = .ok (.iaload, 1) := by decide +kernel
theorem dL_law_827 : decode cL_law 827 = .ok (.invokevirtual 91, 3) := by decide +kernel
theorem dL_law_830 : decode cL_law 830 = .ok (.aload_n 2, 1) := by decide +kernel
theorem dL_law_831 : decode cL_law 831 = .ok (.aload_n 0, 1) := by decide +kernel
theorem dL_law_832 : decode cL_law 832 = .ok (.iload_n 3, 1) := by decide +kernel
theorem dL_law_833 : decode cL_law 833 = .ok (.iconst 1, 1) := by decide +kernel
theorem dL_law_834 : decode cL_law 834 = .ok (.iadd, 1) := by decide +kernel
theorem dL_law_835 : decode cL_law 835 = .ok (.iaload, 1) := by decide +kernel
theorem dL_law_836 : decode cL_law 836 = .ok (.aload_n 0, 1) := by decide +kernel
theorem dL_law_837 : decode cL_law 837 = .ok (.iload_n 3, 1) := by decide +kernel
theorem dL_law_838 : decode cL_law 838 = .ok (.iconst 2, 1) := by decide +kernel
theorem dL_law_839 : decode cL_law 839 = .ok (.iadd, 1) := by decide +kernel
theorem dL_law_840 : decode cL_law 840 = .ok (.iaload, 1) := by decide +kernel
theorem dL_law_841 : decode cL_law 841 = .ok (.invokevirtual 94, 3) := by decide +kernel
theorem dL_law_844 : decode cL_law 844 = .ok (.if_icmp .eq 301, 3) := by decide +kernel
theorem dL_law_847 : decode cL_law 847 = .ok (.iconst 0, 1) := by decide +kernel
theorem dL_law_848 : decode cL_law 848 = .ok (.ireturn, 1) := by decide +kernel
theorem dL_law_849 : decode cL_law 849 = .ok (.aload_n 1, 1) := by decide +kernel
theorem dL_law_850 : decode cL_law 850 = .ok (.aload_n 0, 1) := by decide +kernel
theorem dL_law_851 : decode cL_law 851 = .ok (.iload_n 3, 1) := by decide +kernel
theorem dL_law_852 : decode cL_law 852 = .ok (.iconst 1, 1) := by decide +kernel
theorem dL_law_853 : decode cL_law 853 = .ok (.iadd, 1) := by decide +kernel
theorem dL_law_854 : decode cL_law 854 = .ok (.iaload, 1) := by decide +kernel
theorem dL_law_855 : decode cL_law 855 = .ok (.aload_n 0, 1) := by decide +kernel
theorem dL_law_856 : decode cL_law 856 = .ok (.iload_n 3, 1) := by decide +kernel
theorem dL_law_857 : decode cL_law 857 = .ok (.iconst 2, 1) := by decide +kernel
theorem dL_law_858 : decode cL_law 858 = .ok (.iadd, 1) := by decide +kernel
theorem dL_law_859 : decode cL_law 859 = .ok (.iaload, 1) := by decide +kernel
theorem dL_law_860 : decode cL_law 860 = .ok (.invokevirtual 95, 3) := by decide +kernel
theorem dL_law_863 : decode cL_law 863 = .ok (.aload_n 2, 1) := by decide +kernel
theorem dL_law_864 : decode cL_law 864 = .ok (.aload_n 0, 1) := by decide +kernel
theorem dL_law_865 : decode cL_law 865 = .ok (.iload_n 3, 1) := by decide +kernel
theorem dL_law_866 : decode cL_law 866 = .ok (.iconst 1, 1) := by decide +kernel
theorem dL_law_867 : decode cL_law 867 = .ok (.iadd, 1) := by decide +kernel
theorem dL_law_868 : decode cL_law 868 = .ok (.iaload, 1) := by decide +kernel
theorem dL_law_869 : decode cL_law 869 = .ok (.aload_n 0, 1) := by decide +kernel
theorem dL_law_870 : decode cL_law 870 = .ok (.iload_n 3, 1) := by decide +kernel
theorem dL_law_871 : decode cL_law 871 = .ok (.iconst 2, 1) := by decide +kernel
theorem dL_law_872 : decode cL_law 872 = .ok (.iadd, 1) := by decide +kernel
theorem dL_law_873 : decode cL_law 873 = .ok (.iaload, 1) := by decide +kernel
theorem dL_law_874 : decode cL_law 874 = .ok (.invokevirtual 98, 3) := by decide +kernel
theorem dL_law_877 : decode cL_law 877 = .ok (.if_icmp .eq 268, 3) := by decide +kernel
theorem dL_law_880 : decode cL_law 880 = .ok (.iconst 0, 1) := by decide +kernel
theorem dL_law_881 : decode cL_law 881 = .ok (.ireturn, 1) := by decide +kernel
theorem dL_law_882 : decode cL_law 882 = .ok (.aload_n 1, 1) := by decide +kernel
theorem dL_law_883 : decode cL_law 883 = .ok (.aload_n 0, 1) := by decide +kernel
theorem dL_law_884 : decode cL_law 884 = .ok (.iload_n 3, 1) := by decide +kernel
theorem dL_law_885 : decode cL_law 885 = .ok (.iconst 1, 1) := by decide +kernel
theorem dL_law_886 : decode cL_law 886 = .ok (.iadd, 1) := by decide +kernel
theorem dL_law_887 : decode cL_law 887 = .ok (.iaload, 1) := by decide +kernel
theorem dL_law_888 : decode cL_law 888 = .ok (.invokevirtual 99, 3) := by decide +kernel
theorem dL_law_891 : decode cL_law 891 = .ok (.aload_n 2, 1) := by decide +kernel
theorem dL_law_892 : decode cL_law 892 = .ok (.aload_n 0, 1) := by decide +kernel
theorem dL_law_893 : decode cL_law 893 = .ok (.iload_n 3, 1) := by decide +kernel
theorem dL_law_894 : decode cL_law 894 = .ok (.iconst 1, 1) := by decide +kernel
theorem dL_law_895 : decode cL_law 895 = .ok (.iadd, 1) := by decide +kernel
theorem dL_law_896 : decode cL_law 896 = .ok (.iaload, 1) := by decide +kernel
theorem dL_law_897 : decode cL_law 897 = .ok (.invokevirtual 102, 3) := by decide +kernel
theorem dL_law_900 : decode cL_law 900 = .ok (.if_icmp .eq 245, 3) := by decide +kernel
theorem dL_law_903 : decode cL_law 903 = .ok (.iconst 0, 1) := by decide +kernel
theorem dL_law_904 : decode cL_law 904 = .ok (.ireturn, 1) := by decide +kernel
theorem dL_law_905 : decode cL_law 905 = .ok (.aload_n 1, 1) := by decide +kernel
theorem dL_law_906 : decode cL_law 906 = .ok (.aload_n 0, 1) := by decide +kernel
theorem dL_law_907 : decode cL_law 907 = .ok (.iload_n 3, 1) := by decide +kernel
theorem dL_law_908 : decode cL_law 908 = .ok (.iconst 1, 1) := by decide +kernel
theorem dL_law_909 : decode cL_law 909 = .ok (.iadd, 1) := by decide +kernel
theorem dL_law_910 : decode cL_law 910 = .ok (.iaload, 1) := by decide +kernel
theorem dL_law_911 : decode cL_law 911 = .ok (.invokevirtual 103, 3) := by decide +kernel
theorem dL_law_914 : decode cL_law 914 = .ok (.aload_n 2, 1) := by decide +kernel
theorem dL_law_915 : decode cL_law 915 = .ok (.aload_n 0, 1) := by decide +kernel
theorem dL_law_916 : decode cL_law 916 = .ok (.iload_n 3, 1) := by decide +kernel
theorem dL_law_917 : decode cL_law 917 = .ok (.iconst 1, 1) := by decide +kernel
theorem dL_law_918 : decode cL_law 918 = .ok (.iadd, 1) := by decide +kernel
theorem dL_law_919 : decode cL_law 919 = .ok (.iaload, 1) := by decide +kernel
theorem dL_law_920 : decode cL_law 920 = .ok (.invokevirtual 106, 3) := by decide +kernel
theorem dL_law_923 : decode cL_law 923 = .ok (.if_icmp .eq 222, 3) := by decide +kernel
theorem dL_law_926 : decode cL_law 926 = .ok (.iconst 0, 1) := by decide +kernel
theorem dL_law_927 : decode cL_law 927 = .ok (.ireturn, 1) := by decide +kernel
theorem dL_law_928 : decode cL_law 928 = .ok (.aload_n 1, 1) := by decide +kernel
theorem dL_law_929 : decode cL_law 929 = .ok (.aload_n 0, 1) := by decide +kernel
theorem dL_law_930 : decode cL_law 930 = .ok (.iload_n 3, 1) := by decide +kernel
theorem dL_law_931 : decode cL_law 931 = .ok (.iconst 1, 1) := by decide +kernel
theorem dL_law_932 : decode cL_law 932 = .ok (.iadd, 1) := by decide +kernel
theorem dL_law_933 : decode cL_law 933 = .ok (.iaload, 1) := by decide +kernel
theorem dL_law_934 : decode cL_law 934 = .ok (.aload_n 0, 1) := by decide +kernel
theorem dL_law_935 : decode cL_law 935 = .ok (.iload_n 3, 1) := by decide +kernel
theorem dL_law_936 : decode cL_law 936 = .ok (.iconst 2, 1) := by decide +kernel
theorem dL_law_937 : decode cL_law 937 = .ok (.iadd, 1) := by decide +kernel
theorem dL_law_938 : decode cL_law 938 = .ok (.iaload, 1) := by decide +kernel
theorem dL_law_939 : decode cL_law 939 = .ok (.invokevirtual 107, 3) := by decide +kernel
theorem dL_law_942 : decode cL_law 942 = .ok (.aload_n 2, 1) := by decide +kernel
theorem dL_law_943 : decode cL_law 943 = .ok (.aload_n 0, 1) := by decide +kernel
theorem dL_law_944 : decode cL_law 944 = .ok (.iload_n 3, 1) := by decide +kernel
theorem dL_law_945 : decode cL_law 945 = .ok (.iconst 1, 1) := by decide +kernel
theorem dL_law_946 : decode cL_law 946 = .ok (.iadd, 1) := by decide +kernel
theorem dL_law_947 : decode cL_law 947 = .ok (.iaload, 1) := by decide +kernel
theorem dL_law_948 : decode cL_law 948 = .ok (.aload_n 0, 1) := by decide +kernel
theorem dL_law_949 : decode cL_law 949 = .ok (.iload_n 3, 1) := by decide +kernel
theorem dL_law_950 : decode cL_law 950 = .ok (.iconst 2, 1) := by decide +kernel
theorem dL_law_951 : decode cL_law 951 = .ok (.iadd, 1) := by decide +kernel
theorem dL_law_952 : decode cL_law 952 = .ok (.iaload, 1) := by decide +kernel
theorem dL_law_953 : decode cL_law 953 = .ok (.invokevirtual 110, 3) := by decide +kernel
theorem dL_law_956 : decode cL_law 956 = .ok (.if_icmp .eq 189, 3) := by decide +kernel
theorem dL_law_959 : decode cL_law 959 = .ok (.iconst 0, 1) := by decide +kernel
theorem dL_law_960 : decode cL_law 960 = .ok (.ireturn, 1) := by decide +kernel
theorem dL_law_961 : decode cL_law 961 = .ok (.aload_n 1, 1) := by decide +kernel
theorem dL_law_962 : decode cL_law 962 = .ok (.aload_n 0, 1) := by decide +kernel
theorem dL_law_963 : decode cL_law 963 = .ok (.iload_n 3, 1) := by decide +kernel
theorem dL_law_964 : decode cL_law 964 = .ok (.iconst 1, 1) := by decide +kernel
theorem dL_law_965 : decode cL_law 965 = .ok (.iadd, 1) := by decide +kernel
theorem dL_law_966 : decode cL_law 966 = .ok (.iaload, 1) := by decide +kernel
theorem dL_law_967 : decode cL_law 967 = .ok (.invokevirtual 111, 3) := by decide +kernel
theorem dL_law_970 : decode cL_law 970 = .ok (.aload_n 2, 1) := by decide +kernel
theorem dL_law_971 : decode cL_law 971 = .ok (.aload_n 0, 1) := by decide +kernel
theorem dL_law_972 : decode cL_law 972 = .ok (.iload_n 3, 1) := by decide +kernel
theorem dL_law_973 : decode cL_law 973 = .ok (.iconst 1, 1) := by decide +kernel
theorem dL_law_974 : decode cL_law 974 = .ok (.iadd, 1) := by decide +kernel
theorem dL_law_975 : decode cL_law 975 = .ok (.iaload, 1) := by decide +kernel
theorem dL_law_976 : decode cL_law 976 = .ok (.invokevirtual 114, 3) := by decide +kernel
theorem dL_law_979 : decode cL_law 979 = .ok (.if_icmp .eq 166, 3) := by decide +kernel
theorem dL_law_982 : decode cL_law 982 = .ok (.iconst 0, 1) := by decide +kernel
theorem dL_law_983 : decode cL_law 983 = .ok (.ireturn, 1) := by decide +kernel
theorem dL_law_984 : decode cL_law 984 = .ok (.aload_n 1, 1) := by decide +kernel
theorem dL_law_985 : decode cL_law 985 = .ok (.aload_n 0, 1) := by decide +kernel
theorem dL_law_986 : decode cL_law 986 = .ok (.iload_n 3, 1) := by decide +kernel
theorem dL_law_987 : decode cL_law 987 = .ok (.iconst 1, 1) := by decide +kernel
theorem dL_law_988 : decode cL_law 988 = .ok (.iadd, 1) := by decide +kernel
theorem dL_law_989 : decode cL_law 989 = .ok (.iaload, 1) := by decide +kernel
theorem dL_law_990 : decode cL_law 990 = .ok (.aload_n 0, 1) := by decide +kernel
theorem dL_law_991 : decode cL_law 991 = .ok (.iload_n 3, 1) := by decide +kernel
theorem dL_law_992 : decode cL_law 992 = .ok (.iconst 2, 1) := by decide +kernel
theorem dL_law_993 : decode cL_law 993 = .ok (.iadd, 1) := by decide +kernel
theorem dL_law_994 : decode cL_law 994 = .ok (.iaload, 1) := by decide +kernel
theorem dL_law_995 : decode cL_law 995 = .ok (.invokevirtual 115, 3) := by decide +kernel
theorem dL_law_998 : decode cL_law 998 = .ok (.aload_n 2, 1) := by decide +kernel
theorem dL_law_999 : decode cL_law 999 = .ok (.aload_n 0, 1) := by decide +kernel
theorem dL_law_1000 : decode cL_law 1000 = .ok (.iload_n 3, 1) := by decide +kernel
theorem dL_law_1001 : decode cL_law 1001 = .ok (.iconst 1, 1) := by decide +kernel
theorem dL_law_1002 : decode cL_law 1002 = .ok (.iadd, 1) := by decide +kernel
theorem dL_law_1003 : decode cL_law 1003 = .ok (.iaload, 1) := by decide +kernel
theorem dL_law_1004 : decode cL_law 1004 = .ok (.aload_n 0, 1) := by decide +kernel
theorem dL_law_1005 : decode cL_law 1005 = .ok (.iload_n 3, 1) := by decide +kernel
theorem dL_law_1006 : decode cL_law 1006 = .ok (.iconst 2, 1) := by decide +kernel
theorem dL_law_1007 : decode cL_law 1007 = .ok (.iadd, 1) := by decide +kernel
theorem dL_law_1008 : decode cL_law 1008 = .ok (.iaload, 1) := by decide +kernel
theorem dL_law_1009 : decode cL_law 1009 = .ok (.invokevirtual 118, 3) := by decide +kernel
theorem dL_law_1012 : decode cL_law 1012 = .ok (.if_icmp .eq 133, 3) := by decide +kernel
theorem dL_law_1015 : decode cL_law 1015 = .ok (.iconst 0, 1) := by decide +kernel
theorem dL_law_1016 : decode cL_law 1016 = .ok (.ireturn, 1) := by decide +kernel
theorem dL_law_1017 : decode cL_law 1017 = .ok (.aload_n 1, 1) := by decide +kernel
theorem dL_law_1018 : decode cL_law 1018 = .ok (.aload_n 0, 1) := by decide +kernel
theorem dL_law_1019 : decode cL_law 1019 = .ok (.iload_n 3, 1) := by decide +kernel
theorem dL_law_1020 : decode cL_law 1020 = .ok (.iconst 1, 1) := by decide +kernel
theorem dL_law_1021 : decode cL_law 1021 = .ok (.iadd, 1) := by decide +kernel
theorem dL_law_1022 : decode cL_law 1022 = .ok (.iaload, 1) := by decide +kernel
theorem dL_law_1023 : decode cL_law 1023 = .ok (.aload_n 0, 1) := by decide +kernel
theorem dL_law_1024 : decode cL_law 1024 = .ok (.iload_n 3, 1) := by decide +kernel
theorem dL_law_1025 : decode cL_law 1025 = .ok (.iconst 2, 1) := by decide +kernel
theorem dL_law_1026 : decode cL_law 1026 = .ok (.iadd, 1) := by decide +kernel
theorem dL_law_1027 : decode cL_law 1027 = .ok (.iaload, 1) := by decide +kernel
theorem dL_law_1028 : decode cL_law 1028 = .ok (.invokevirtual 119, 3) := by decide +kernel
theorem dL_law_1031 : decode cL_law 1031 = .ok (.aload_n 2, 1) := by decide +kernel
theorem dL_law_1032 : decode cL_law 1032 = .ok (.aload_n 0, 1) := by decide +kernel
theorem dL_law_1033 : decode cL_law 1033 = .ok (.iload_n 3, 1) := by decide +kernel
theorem dL_law_1034 : decode cL_law 1034 = .ok (.iconst 1, 1) := by decide +kernel
theorem dL_law_1035 : decode cL_law 1035 = .ok (.iadd, 1) := by decide +kernel
theorem dL_law_1036 : decode cL_law 1036 = .ok (.iaload, 1) := by decide +kernel
theorem dL_law_1037 : decode cL_law 1037 = .ok (.aload_n 0, 1) := by decide +kernel
theorem dL_law_1038 : decode cL_law 1038 = .ok (.iload_n 3, 1) := by decide +kernel
theorem dL_law_1039 : decode cL_law 1039 = .ok (.iconst 2, 1) := by decide +kernel
theorem dL_law_1040 : decode cL_law 1040 = .ok (.iadd, 1) := by decide +kernel
theorem dL_law_1041 : decode cL_law 1041 = .ok (.iaload, 1) := by decide +kernel
theorem dL_law_1042 : decode cL_law 1042 = .ok (.invokevirtual 122, 3) := by decide +kernel
theorem dL_law_1045 : decode cL_law 1045 = .ok (.if_icmp .eq 100, 3) := by decide +kernel
theorem dL_law_1048 : decode cL_law 1048 = .ok (.iconst 0, 1) := by decide +kernel
theorem dL_law_1049 : decode cL_law 1049 = .ok (.ireturn, 1) := by decide +kernel
theorem dL_law_1050 : decode cL_law 1050 = .ok (.aload_n 1, 1) := by decide +kernel
theorem dL_law_1051 : decode cL_law 1051 = .ok (.aload_n 0, 1) := by decide +kernel
theorem dL_law_1052 : decode cL_law 1052 = .ok (.iload_n 3, 1) := by decide +kernel
theorem dL_law_1053 : decode cL_law 1053 = .ok (.iconst 1, 1) := by decide +kernel
theorem dL_law_1054 : decode cL_law 1054 = .ok (.iadd, 1) := by decide +kernel
theorem dL_law_1055 : decode cL_law 1055 = .ok (.iaload, 1) := by decide +kernel
theorem dL_law_1056 : decode cL_law 1056 = .ok (.invokevirtual 123, 3) := by decide +kernel
theorem dL_law_1059 : decode cL_law 1059 = .ok (.aload_n 2, 1) := by decide +kernel
theorem dL_law_1060 : decode cL_law 1060 = .ok (.aload_n 0, 1) := by decide +kernel
theorem dL_law_1061 : decode cL_law 1061 = .ok (.iload_n 3, 1) := by decide +kernel
theorem dL_law_1062 : decode cL_law 1062 = .ok (.iconst 1, 1) := by decide +kernel
theorem dL_law_1063 : decode cL_law 1063 = .ok (.iadd, 1) := by decide +kernel
theorem dL_law_1064 : decode cL_law 1064 = .ok (.iaload, 1) := by decide +kernel
theorem dL_law_1065 : decode cL_law 1065 = .ok (.invokevirtual 126, 3) := by decide +kernel
theorem dL_law_1068 : decode cL_law 1068 = .ok (.if_icmp .eq 77, 3) := by decide +kernel
theorem dL_law_1071 : decode cL_law 1071 = .ok (.iconst 0, 1) := by decide +kernel
theorem dL_law_1072 : decode cL_law 1072 = .ok (.ireturn, 1) := by decide +kernel
theorem dL_law_1073 : decode cL_law 1073 = .ok (.aload_n 1, 1) := by decide +kernel
theorem dL_law_1074 : decode cL_law 1074 = .ok (.invokevirtual 127, 3) := by decide +kernel
theorem dL_law_1077 : decode cL_law 1077 = .ok (.aload_n 2, 1) := by decide +kernel
theorem dL_law_1078 : decode cL_law 1078 = .ok (.invokevirtual 131, 3) := by decide +kernel
theorem dL_law_1081 : decode cL_law 1081 = .ok (.if_icmp .eq 64, 3) := by decide +kernel
theorem dL_law_1084 : decode cL_law 1084 = .ok (.iconst 0, 1) := by decide +kernel
theorem dL_law_1085 : decode cL_law 1085 = .ok (.ireturn, 1) := by decide +kernel
theorem dL_law_1086 : decode cL_law 1086 = .ok (.aload_n 1, 1) := by decide +kernel
theorem dL_law_1087 : decode cL_law 1087 = .ok (.invokevirtual 132, 3) := by decide +kernel
theorem dL_law_1090 : decode cL_law 1090 = .ok (.aload_n 2, 1) := by decide +kernel
theorem dL_law_1091 : decode cL_law 1091 = .ok (.invokevirtual 136, 3) := by decide +kernel
theorem dL_law_1094 : decode cL_law 1094 = .ok (.if_icmp .eq 51, 3) := by decide +kernel
theorem dL_law_1097 : decode cL_law 1097 = .ok (.iconst 0, 1) := by decide +kernel
theorem dL_law_1098 : decode cL_law 1098 = .ok (.ireturn, 1) := by decide +kernel
theorem dL_law_1099 : decode cL_law 1099 = .ok (.aload_n 1, 1) := by decide +kernel
theorem dL_law_1100 : decode cL_law 1100 = .ok (.aload_n 0, 1) := by decide +kernel
theorem dL_law_1101 : decode cL_law 1101 = .ok (.iload_n 3, 1) := by decide +kernel
theorem dL_law_1102 : decode cL_law 1102 = .ok (.iconst 1, 1) := by decide +kernel
theorem dL_law_1103 : decode cL_law 1103 = .ok (.iadd, 1) := by decide +kernel
theorem dL_law_1104 : decode cL_law 1104 = .ok (.iaload, 1) := by decide +kernel
theorem dL_law_1105 : decode cL_law 1105 = .ok (.invokevirtual 137, 3) := by decide +kernel
theorem dL_law_1108 : decode cL_law 1108 = .ok (.aload_n 2, 1) := by decide +kernel
theorem dL_law_1109 : decode cL_law 1109 = .ok (.aload_n 0, 1) := by decide +kernel
theorem dL_law_1110 : decode cL_law 1110 = .ok (.iload_n 3, 1) := by decide +kernel
theorem dL_law_1111 : decode cL_law 1111 = .ok (.iconst 1, 1) := by decide +kernel
theorem dL_law_1112 : decode cL_law 1112 = .ok (.iadd, 1) := by decide +kernel
theorem dL_law_1113 : decode cL_law 1113 = .ok (.iaload, 1) := by decide +kernel
theorem dL_law_1114 : decode cL_law 1114 = .ok (.invokevirtual 140, 3) := by decide +kernel
theorem dL_law_1117 : decode cL_law 1117 = .ok (.if_icmp .eq 28, 3) := by decide +kernel
theorem dL_law_1120 : decode cL_law 1120 = .ok (.iconst 0, 1) := by decide +kernel
theorem dL_law_1121 : decode cL_law 1121 = .ok (.ireturn, 1) := by decide +kernel
theorem dL_law_1122 : decode cL_law 1122 = .ok (.aload_n 1, 1) := by decide +kernel
theorem dL_law_1123 : decode cL_law 1123 = .ok (.aload_n 0, 1) := by decide +kernel
theorem dL_law_1124 : decode cL_law 1124 = .ok (.iload_n 3, 1) := by decide +kernel
theorem dL_law_1125 : decode cL_law 1125 = .ok (.iconst 1, 1) := by decide +kernel
theorem dL_law_1126 : decode cL_law 1126 = .ok (.iadd, 1) := by decide +kernel
theorem dL_law_1127 : decode cL_law 1127 = .ok (.iaload, 1) := by decide +kernel
theorem dL_law_1128 : decode cL_law 1128 = .ok (.invokevirtual 141, 3) := by decide +kernel
theorem dL_law_1131 : decode cL_law 1131 = .ok (.aload_n 2, 1) := by decide +kernel
theorem dL_law_1132 : decode cL_law 1132 = .ok (.aload_n 0, 1) := by decide +kernel
theorem dL_law_1133 : decode cL_law 1133 = .ok (.iload_n 3, 1) := by decide +kernel
theorem dL_law_1134 : decode cL_law 1134 = .ok (.iconst 1, 1) := by decide +kernel
theorem dL_law_1135 : decode cL_law 1135 = .ok (.iadd, 1) := by decide +kernel
theorem dL_law_1136 : decode cL_law 1136 = .ok (.iaload, 1) := by decide +kernel
theorem dL_law_1137 : decode cL_law 1137 = .ok (.invokevirtual 144, 3) := by decide +kernel
theorem dL_law_1140 : decode cL_law 1140 = .ok (.if_icmp .eq 5, 3) := by decide +kernel
theorem dL_law_1143 : decode cL_law 1143 = .ok (.iconst 0, 1) := by decide +kernel
theorem dL_law_1144 : decode cL_law 1144 = .ok (.ireturn, 1) := by decide +kernel
theorem dL_law_1145 : decode cL_law 1145 = .ok (.iinc 3 6, 3) := by decide +kernel
theorem dL_law_1148 : decode cL_law 1148 = .ok (.goto (-1130), 3) := by decide +kernel
theorem dL_law_1151 : decode cL_law 1151 = .ok (.iconst 1, 1) := by decide +kernel
theorem dL_law_1152 : decode cL_law 1152 = .ok (.ireturn, 1) := by decide +kernel
theorem dX0_init_0 : decode cX0_init 0 = .ok (.aload_n 0, 1) := by decide +kernel
theorem dX0_init_1 : decode cX0_init 1 = .ok (.invokespecial 3, 3) := by decide +kernel
theorem dX0_init_4 : decode cX0_init 4 = .ok (.aload_n 0, 1) := by decide +kernel
theorem dX0_init_5 : decode cX0_init 5 = .ok (.bipush 8, 2) := by decide +kernel
theorem dX0_init_7 : decode cX0_init 7 = .ok (.anewarray 9, 3) := by decide +kernel
theorem dX0_init_10 : decode cX0_init 10 = .ok (.putfield 11, 3) := by decide +kernel
theorem dX0_init_13 : decode cX0_init 13 = .ok (.aload_n 0, 1) := by decide +kernel
theorem dX0_init_14 : decode cX0_init 14 = .ok (.new 17, 3) := by decide +kernel
theorem dX0_init_17 : decode cX0_init 17 = .ok (.dup, 1) := by decide +kernel
theorem dX0_init_18 : decode cX0_init 18 = .ok (.invokespecial 19, 3) := by decide +kernel
theorem dX0_init_21 : decode cX0_init 21 = .ok (.putfield 20, 3) := by decide +kernel
theorem dX0_init_24 : decode cX0_init 24 = .ok (.aload_n 0, 1) := by decide +kernel
theorem dX0_init_25 : decode cX0_init 25 = .ok (.iconst 1, 1) := by decide +kernel
theorem dX0_init_26 : decode cX0_init 26 = .ok (.putfield 24, 3) := by decide +kernel
theorem dX0_init_29 : decode cX0_init 29 = .ok (.iconst 0, 1) := by decide +kernel
theorem dX0_init_30 : decode cX0_init 30 = .ok (.istore_n 1, 1) := by decide +kernel
theorem dX0_init_31 : decode cX0_init 31 = .ok (.iload_n 1, 1) := by decide +kernel
theorem dX0_init_32 : decode cX0_init 32 = .ok (.bipush 8, 2) := by decide +kernel
theorem dX0_init_34 : decode cX0_init 34 = .ok (.if_icmp .ge 22, 3) := by decide +kernel
theorem dX0_init_37 : decode cX0_init 37 = .ok (.aload_n 0, 1) := by decide +kernel
theorem dX0_init_38 : decode cX0_init 38 = .ok (.getfield 11, 3) := by decide +kernel
theorem dX0_init_41 : decode cX0_init 41 = .ok (.iload_n 1, 1) := by decide +kernel
theorem dX0_init_42 : decode cX0_init 42 = .ok (.new 9, 3) := by decide +kernel
theorem dX0_init_45 : decode cX0_init 45 = .ok (.dup, 1) := by decide +kernel
theorem dX0_init_46 : decode cX0_init 46 = .ok (.invokespecial 28, 3) := by decide +kernel
theorem dX0_init_49 : decode cX0_init 49 = .ok (.aastore, 1) := by decide +kernel
theorem dX0_init_50 : decode cX0_init 50 = .ok (.iinc 1 1, 3) := by decide +kernel
theorem dX0_init_53 : decode cX0_init 53 = .ok (.goto (-22), 3) := by decide +kernel
theorem dX0_init_56 : decode cX0_init 56 = .ok (.return_, 1) := by decide +kernel
theorem dX0_courseOf_0 : decode cX0_courseOf 0 = .ok (.iload_n 1, 1) := by decide +kernel
theorem dX0_courseOf_1 : decode cX0_courseOf 1 = .ok (.bipush 7, 2) := by decide +kernel
theorem dX0_courseOf_3 : decode cX0_courseOf 3 = .ok (.invokestatic 29, 3) := by decide +kernel
theorem dX0_courseOf_6 : decode cX0_courseOf 6 = .ok (.ifCond .eq 12, 3) := by decide +kernel
theorem dX0_courseOf_9 : decode cX0_courseOf 9 = .ok (.aload_n 0, 1) := by decide +kernel
theorem dX0_courseOf_10 : decode cX0_courseOf 10 = .ok (.getfield 11, 3) := by decide +kernel
theorem dX0_courseOf_13 : decode cX0_courseOf 13 = .ok (.iload_n 1, 1) := by decide +kernel
theorem dX0_courseOf_14 : decode cX0_courseOf 14 = .ok (.aaload, 1) := by decide +kernel
theorem dX0_courseOf_15 : decode cX0_courseOf 15 = .ok (.goto 4, 3) := by decide +kernel
theorem dX0_courseOf_18 : decode cX0_courseOf 18 = .ok (.aconst_null, 1) := by decide +kernel
theorem dX0_courseOf_19 : decode cX0_courseOf 19 = .ok (.areturn, 1) := by decide +kernel
theorem dX0_laid_0 : decode cX0_laid 0 = .ok (.aload_n 0, 1) := by decide +kernel
theorem dX0_laid_1 : decode cX0_laid 1 = .ok (.iload_n 1, 1) := by decide +kernel
theorem dX0_laid_2 : decode cX0_laid 2 = .ok (.invokevirtual 33, 3) := by decide +kernel
theorem dX0_laid_5 : decode cX0_laid 5 = .ok (.astore_n 2, 1) := by decide +kernel
theorem dX0_laid_6 : decode cX0_laid 6 = .ok (.aload_n 2, 1) := by decide +kernel
theorem dX0_laid_7 : decode cX0_laid 7 = .ok (.ifnull 14, 3) := by decide +kernel
theorem dX0_laid_10 : decode cX0_laid 10 = .ok (.aload_n 2, 1) := by decide +kernel
theorem dX0_laid_11 : decode cX0_laid 11 = .ok (.getfield 37, 3) := by decide +kernel
theorem dX0_laid_14 : decode cX0_laid 14 = .ok (.ifCond .eq 7, 3) := by decide +kernel
theorem dX0_laid_17 : decode cX0_laid 17 = .ok (.aload_n 2, 1) := by decide +kernel
theorem dX0_laid_18 : decode cX0_laid 18 = .ok (.goto 4, 3) := by decide +kernel
theorem dX0_laid_21 : decode cX0_laid 21 = .ok (.aconst_null, 1) := by decide +kernel
theorem dX0_laid_22 : decode cX0_laid 22 = .ok (.areturn, 1) := by decide +kernel
theorem dX0_laidBits_0 : decode cX0_laidBits 0 = .ok (.iconst 0, 1) := by decide +kernel
theorem dX0_laidBits_1 : decode cX0_laidBits 1 = .ok (.istore_n 1, 1) := by decide +kernel
theorem dX0_laidBits_2 : decode cX0_laidBits 2 = .ok (.iconst 0, 1) := by decide +kernel
theorem dX0_laidBits_3 : decode cX0_laidBits 3 = .ok (.istore_n 2, 1) := by decide +kernel
theorem dX0_laidBits_4 : decode cX0_laidBits 4 = .ok (.iload_n 2, 1) := by decide +kernel
theorem dX0_laidBits_5 : decode cX0_laidBits 5 = .ok (.bipush 8, 2) := by decide +kernel
theorem dX0_laidBits_7 : decode cX0_laidBits 7 = .ok (.if_icmp .ge 23, 3) := by decide +kernel
theorem dX0_laidBits_10 : decode cX0_laidBits 10 = .ok (.aload_n 0, 1) := by decide +kernel
theorem dX0_laidBits_11 : decode cX0_laidBits 11 = .ok (.iload_n 2, 1) := by decide +kernel
theorem dX0_laidBits_12 : decode cX0_laidBits 12 = .ok (.invokevirtual 41, 3) := by decide +kernel
theorem dX0_laidBits_15 : decode cX0_laidBits 15 = .ok (.ifnull 9, 3) := by decide +kernel
theorem dX0_laidBits_18 : decode cX0_laidBits 18 = .ok (.iload_n 1, 1) := by decide +kernel
theorem dX0_laidBits_19 : decode cX0_laidBits 19 = .ok (.iconst 1, 1) := by decide +kernel
theorem dX0_laidBits_20 : decode cX0_laidBits 20 = .ok (.iload_n 2, 1) := by decide +kernel
theorem dX0_laidBits_21 : decode cX0_laidBits 21 = .ok (.ishl, 1) := by decide +kernel
theorem dX0_laidBits_22 : decode cX0_laidBits 22 = .ok (.ior, 1) := by decide +kernel
theorem dX0_laidBits_23 : decode cX0_laidBits 23 = .ok (.istore_n 1, 1) := by decide +kernel
theorem dX0_laidBits_24 : decode cX0_laidBits 24 = .ok (.iinc 2 1, 3) := by decide +kernel
theorem dX0_laidBits_27 : decode cX0_laidBits 27 = .ok (.goto (-23), 3) := by decide +kernel
theorem dX0_laidBits_30 : decode cX0_laidBits 30 = .ok (.iload_n 1, 1) := by decide +kernel
theorem dX0_laidBits_31 : decode cX0_laidBits 31 = .ok (.ireturn, 1) := by decide +kernel
theorem dX0_creaturesAt_0 : decode cX0_creaturesAt 0 = .ok (.iconst 0, 1) := by decide +kernel
theorem dX0_creaturesAt_1 : decode cX0_creaturesAt 1 = .ok (.istore_n 3, 1) := by decide +kernel
theorem dX0_creaturesAt_2 : decode cX0_creaturesAt 2 = .ok (.iconst 0, 1) := by decide +kernel
theorem dX0_creaturesAt_3 : decode cX0_creaturesAt 3 = .ok (.istore 4, 2) := by decide +kernel
theorem dX0_creaturesAt_5 : decode cX0_creaturesAt 5 = .ok (.iload 4, 2) := by decide +kernel
theorem dX0_creaturesAt_7 : decode cX0_creaturesAt 7 = .ok (.bipush 8, 2) := by decide +kernel
theorem dX0_creaturesAt_9 : decode cX0_creaturesAt 9 = .ok (.if_icmp .ge 42, 3) := by decide +kernel
theorem dX0_creaturesAt_12 : decode cX0_creaturesAt 12 = .ok (.iload_n 1, 1) := by decide +kernel
theorem dX0_creaturesAt_13 : decode cX0_creaturesAt 13 = .ok (.invokestatic 44, 3) := by decide +kernel
theorem dX0_creaturesAt_16 : decode cX0_creaturesAt 16 = .ok (.ifCond .eq 35, 3) := by decide +kernel
theorem dX0_creaturesAt_19 : decode cX0_creaturesAt 19 = .ok (.aload_n 0, 1) := by decide +kernel
theorem dX0_creaturesAt_20 : decode cX0_creaturesAt 20 = .ok (.iload 4, 2) := by decide +kernel
theorem dX0_creaturesAt_22 : decode cX0_creaturesAt 22 = .ok (.invokevirtual 41, 3) := by decide +kernel
theorem dX0_creaturesAt_25 : decode cX0_creaturesAt 25 = .ok (.astore 5, 2) := by decide +kernel
theorem dX0_creaturesAt_27 : decode cX0_creaturesAt 27 = .ok (.aload 5, 2) := by decide +kernel
theorem dX0_creaturesAt_29 : decode cX0_creaturesAt 29 = .ok (.ifnull 16, 3) := by decide +kernel
theorem dX0_creaturesAt_32 : decode cX0_creaturesAt 32 = .ok (.aload 5, 2) := by decide +kernel
theorem dX0_creaturesAt_34 : decode cX0_creaturesAt 34 = .ok (.iload_n 2, 1) := by decide +kernel
theorem dX0_creaturesAt_35 : decode cX0_creaturesAt 35 = .ok (.invokevirtual 48, 3) := by decide +kernel
theorem dX0_creaturesAt_38 : decode cX0_creaturesAt 38 = .ok (.iload_n 1, 1) := by decide +kernel
theorem dX0_creaturesAt_39 : decode cX0_creaturesAt 39 = .ok (.if_icmp .ne 6, 3) := by decide +kernel
theorem dX0_creaturesAt_42 : decode cX0_creaturesAt 42 = .ok (.iinc 3 1, 3) := by decide +kernel
theorem dX0_creaturesAt_45 : decode cX0_creaturesAt 45 = .ok (.iinc 4 1, 3) := by decide +kernel
theorem dX0_creaturesAt_48 : decode cX0_creaturesAt 48 = .ok (.goto (-43), 3) := by decide +kernel
theorem dX0_creaturesAt_51 : decode cX0_creaturesAt 51 = .ok (.iload_n 3, 1) := by decide +kernel
theorem dX0_creaturesAt_52 : decode cX0_creaturesAt 52 = .ok (.ireturn, 1) := by decide +kernel
theorem dX0_strength_0 : decode cX0_strength 0 = .ok (.iload_n 1, 1) := by decide +kernel
theorem dX0_strength_1 : decode cX0_strength 1 = .ok (.iload_n 2, 1) := by decide +kernel
theorem dX0_strength_2 : decode cX0_strength 2 = .ok (.if_icmp .le 7, 3) := by decide +kernel
theorem dX0_strength_5 : decode cX0_strength 5 = .ok (.iconst 0, 1) := by decide +kernel
theorem dX0_strength_6 : decode cX0_strength 6 = .ok (.goto 14, 3) := by decide +kernel
theorem dX0_strength_9 : decode cX0_strength 9 = .ok (.bipush 99, 2) := by decide +kernel
theorem dX0_strength_11 : decode cX0_strength 11 = .ok (.iload_n 2, 1) := by decide +kernel
theorem dX0_strength_12 : decode cX0_strength 12 = .ok (.iload_n 1, 1) := by decide +kernel
theorem dX0_strength_13 : decode cX0_strength 13 = .ok (.isub, 1) := by decide +kernel
theorem dX0_strength_14 : decode cX0_strength 14 = .ok (.aload_n 0, 1) := by decide +kernel
theorem dX0_strength_15 : decode cX0_strength 15 = .ok (.getfield 24, 3) := by decide +kernel
theorem dX0_strength_18 : decode cX0_strength 18 = .ok (.imul, 1) := by decide +kernel
theorem dX0_strength_19 : decode cX0_strength 19 = .ok (.isub, 1) := by decide +kernel
theorem dX0_strength_20 : decode cX0_strength 20 = .ok (.ireturn, 1) := by decide +kernel
theorem dX0_smells_0 : decode cX0_smells 0 = .ok (.iload_n 1, 1) := by decide +kernel
theorem dX0_smells_1 : decode cX0_smells 1 = .ok (.invokestatic 44, 3) := by decide +kernel
theorem dX0_smells_4 : decode cX0_smells 4 = .ok (.ifCond .eq 27, 3) := by decide +kernel
theorem dX0_smells_7 : decode cX0_smells 7 = .ok (.aload_n 0, 1) := by decide +kernel
theorem dX0_smells_8 : decode cX0_smells 8 = .ok (.getfield 20, 3) := by decide +kernel
theorem dX0_smells_11 : decode cX0_smells 11 = .ok (.iload_n 1, 1) := by decide +kernel
theorem dX0_smells_12 : decode cX0_smells 12 = .ok (.invokevirtual 52, 3) := by decide +kernel
theorem dX0_smells_15 : decode cX0_smells 15 = .ok (.ifCond .ne 16, 3) := by decide +kernel
theorem dX0_smells_18 : decode cX0_smells 18 = .ok (.aload_n 0, 1) := by decide +kernel
theorem dX0_smells_19 : decode cX0_smells 19 = .ok (.iload_n 2, 1) := by decide +kernel
theorem dX0_smells_20 : decode cX0_smells 20 = .ok (.iload_n 3, 1) := by decide +kernel
theorem dX0_smells_21 : decode cX0_smells 21 = .ok (.invokevirtual 55, 3) := by decide +kernel
theorem dX0_smells_24 : decode cX0_smells 24 = .ok (.ifCond .le 7, 3) := by decide +kernel
theorem dX0_smells_27 : decode cX0_smells 27 = .ok (.iconst 1, 1) := by decide +kernel
theorem dX0_smells_28 : decode cX0_smells 28 = .ok (.goto 4, 3) := by decide +kernel
theorem dX0_smells_31 : decode cX0_smells 31 = .ok (.iconst 0, 1) := by decide +kernel
theorem dX0_smells_32 : decode cX0_smells 32 = .ok (.ireturn, 1) := by decide +kernel
theorem dX0_latestOf_0 : decode cX0_latestOf 0 = .ok (.aload_n 0, 1) := by decide +kernel
theorem dX0_latestOf_1 : decode cX0_latestOf 1 = .ok (.iload_n 1, 1) := by decide +kernel
theorem dX0_latestOf_2 : decode cX0_latestOf 2 = .ok (.invokevirtual 41, 3) := by decide +kernel
theorem dX0_latestOf_5 : decode cX0_latestOf 5 = .ok (.astore 4, 2) := by decide +kernel
theorem dX0_latestOf_7 : decode cX0_latestOf 7 = .ok (.aload 4, 2) := by decide +kernel
theorem dX0_latestOf_9 : decode cX0_latestOf 9 = .ok (.ifnonnull 6, 3) := by decide +kernel
theorem dX0_latestOf_12 : decode cX0_latestOf 12 = .ok (.bipush (-2), 2) := by decide +kernel
theorem dX0_latestOf_14 : decode cX0_latestOf 14 = .ok (.ireturn, 1) := by decide +kernel
theorem dX0_latestOf_15 : decode cX0_latestOf 15 = .ok (.aload 4, 2) := by decide +kernel
theorem dX0_latestOf_17 : decode cX0_latestOf 17 = .ok (.invokevirtual 59, 3) := by decide +kernel
theorem dX0_latestOf_20 : decode cX0_latestOf 20 = .ok (.iload_n 3, 1) := by decide +kernel
theorem dX0_latestOf_21 : decode cX0_latestOf 21 = .ok (.invokestatic 63, 3) := by decide +kernel
theorem dX0_latestOf_24 : decode cX0_latestOf 24 = .ok (.istore 5, 2) := by decide +kernel
theorem dX0_latestOf_26 : decode cX0_latestOf 26 = .ok (.iload 5, 2) := by decide +kernel
theorem dX0_latestOf_28 : decode cX0_latestOf 28 = .ok (.aload 4, 2) := by decide +kernel
theorem dX0_latestOf_30 : decode cX0_latestOf 30 = .ok (.getfield 68, 3) := by decide +kernel
theorem dX0_latestOf_33 : decode cX0_latestOf 33 = .ok (.if_icmp .lt 34, 3) := by decide +kernel
theorem dX0_latestOf_36 : decode cX0_latestOf 36 = .ok (.aload 4, 2) := by decide +kernel
theorem dX0_latestOf_38 : decode cX0_latestOf 38 = .ok (.iload 5, 2) := by decide +kernel
theorem dX0_latestOf_40 : decode cX0_latestOf 40 = .ok (.invokevirtual 48, 3) := by decide +kernel
theorem dX0_latestOf_43 : decode cX0_latestOf 43 = .ok (.iload_n 2, 1) := by decide +kernel
theorem dX0_latestOf_44 : decode cX0_latestOf 44 = .ok (.if_icmp .ne 17, 3) := by decide +kernel
theorem dX0_latestOf_47 : decode cX0_latestOf 47 = .ok (.aload_n 0, 1) := by decide +kernel
theorem dX0_latestOf_48 : decode cX0_latestOf 48 = .ok (.iload_n 2, 1) := by decide +kernel
theorem dX0_latestOf_49 : decode cX0_latestOf 49 = .ok (.iload 5, 2) := by decide +kernel
theorem dX0_latestOf_51 : decode cX0_latestOf 51 = .ok (.iload_n 3, 1) := by decide +kernel
theorem dX0_latestOf_52 : decode cX0_latestOf 52 = .ok (.invokevirtual 71, 3) := by decide +kernel
theorem dX0_latestOf_55 : decode cX0_latestOf 55 = .ok (.ifCond .eq 6, 3) := by decide +kernel
theorem dX0_latestOf_58 : decode cX0_latestOf 58 = .ok (.iload 5, 2) := by decide +kernel
theorem dX0_latestOf_60 : decode cX0_latestOf 60 = .ok (.ireturn, 1) := by decide +kernel
theorem dX0_latestOf_61 : decode cX0_latestOf 61 = .ok (.iinc 5 (-1), 3) := by decide +kernel
theorem dX0_latestOf_64 : decode cX0_latestOf 64 = .ok (.goto (-38), 3) := by decide +kernel
theorem dX0_latestOf_67 : decode cX0_latestOf 67 = .ok (.bipush (-2), 2) := by decide +kernel
theorem dX0_latestOf_69 : decode cX0_latestOf 69 = .ok (.ireturn, 1) := by decide +kernel
theorem dX0_latestScent_0 : decode cX0_latestScent 0 = .ok (.bipush (-2), 2) := by decide +kernel
theorem dX0_latestScent_2 : decode cX0_latestScent 2 = .ok (.istore_n 3, 1) := by decide +kernel
theorem dX0_latestScent_3 : decode cX0_latestScent 3 = .ok (.iconst 0, 1) := by decide +kernel
theorem dX0_latestScent_4 : decode cX0_latestScent 4 = .ok (.istore 4, 2) := by decide +kernel
theorem dX0_latestScent_6 : decode cX0_latestScent 6 = .ok (.iload 4, 2) := by decide +kernel
theorem dX0_latestScent_8 : decode cX0_latestScent 8 = .ok (.bipush 8, 2) := by decide +kernel
theorem dX0_latestScent_10 : decode cX0_latestScent 10 = .ok (.if_icmp .ge 22, 3) := by decide +kernel
theorem dX0_latestScent_13 : decode cX0_latestScent 13 = .ok (.iload_n 3, 1) := by decide +kernel
theorem dX0_latestScent_14 : decode cX0_latestScent 14 = .ok (.aload_n 0, 1) := by decide +kernel
theorem dX0_latestScent_15 : decode cX0_latestScent 15 = .ok (.iload 4, 2) := by decide +kernel
theorem dX0_latestScent_17 : decode cX0_latestScent 17 = .ok (.iload_n 1, 1) := by decide +kernel
theorem dX0_latestScent_18 : decode cX0_latestScent 18 = .ok (.iload_n 2, 1) := by decide +kernel
theorem dX0_latestScent_19 : decode cX0_latestScent 19 = .ok (.invokevirtual 75, 3) := by decide +kernel
theorem dX0_latestScent_22 : decode cX0_latestScent 22 = .ok (.invokestatic 79, 3) := by decide +kernel
theorem dX0_latestScent_25 : decode cX0_latestScent 25 = .ok (.istore_n 3, 1) := by decide +kernel
theorem dX0_latestScent_26 : decode cX0_latestScent 26 = .ok (.iinc 4 1, 3) := by decide +kernel
theorem dX0_latestScent_29 : decode cX0_latestScent 29 = .ok (.goto (-23), 3) := by decide +kernel
theorem dX0_latestScent_32 : decode cX0_latestScent 32 = .ok (.iload_n 3, 1) := by decide +kernel
theorem dX0_latestScent_33 : decode cX0_latestScent 33 = .ok (.ireturn, 1) := by decide +kernel
theorem dX0_latestCreature_0 : decode cX0_latestCreature 0 = .ok (.aload_n 0, 1) := by decide +kernel
theorem dX0_latestCreature_1 : decode cX0_latestCreature 1 = .ok (.iload_n 1, 1) := by decide +kernel
theorem dX0_latestCreature_2 : decode cX0_latestCreature 2 = .ok (.iload_n 2, 1) := by decide +kernel
theorem dX0_latestCreature_3 : decode cX0_latestCreature 3 = .ok (.invokevirtual 82, 3) := by decide +kernel
theorem dX0_latestCreature_6 : decode cX0_latestCreature 6 = .ok (.istore_n 3, 1) := by decide +kernel
theorem dX0_latestCreature_7 : decode cX0_latestCreature 7 = .ok (.iconst 0, 1) := by decide +kernel
theorem dX0_latestCreature_8 : decode cX0_latestCreature 8 = .ok (.istore 4, 2) := by decide +kernel
theorem dX0_latestCreature_10 : decode cX0_latestCreature 10 = .ok (.iload 4, 2) := by decide +kernel
theorem dX0_latestCreature_12 : decode cX0_latestCreature 12 = .ok (.bipush 8, 2) := by decide +kernel
theorem dX0_latestCreature_14 : decode cX0_latestCreature 14 = .ok (.if_icmp .ge 30, 3) := by decide +kernel
theorem dX0_latestCreature_17 : decode cX0_latestCreature 17 = .ok (.iload_n 3, 1) := by decide +kernel
theorem dX0_latestCreature_18 : decode cX0_latestCreature 18 = .ok (.bipush (-2), 2) := by decide +kernel
theorem dX0_latestCreature_20 : decode cX0_latestCreature 20 = .ok (.if_icmp .eq 24, 3) := by decide +kernel
theorem dX0_latestCreature_23 : decode cX0_latestCreature 23 = .ok (.aload_n 0, 1) := by decide +kernel
theorem dX0_latestCreature_24 : decode cX0_latestCreature 24 = .ok (.iload 4, 2) := by decide +kernel
theorem dX0_latestCreature_26 : decode cX0_latestCreature 26 = .ok (.iload_n 1, 1) := by decide +kernel
theorem dX0_latestCreature_27 : decode cX0_latestCreature 27 = .ok (.iload_n 2, 1) := by decide +kernel
theorem dX0_latestCreature_28 : decode cX0_latestCreature 28 = .ok (.invokevirtual 75, 3) := by decide +kernel
theorem dX0_latestCreature_31 : decode cX0_latestCreature 31 = .ok (.iload_n 3, 1) := by decide +kernel
theorem dX0_latestCreature_32 : decode cX0_latestCreature 32 = .ok (.if_icmp .ne 6, 3) := by decide +kernel
theorem dX0_latestCreature_35 : decode cX0_latestCreature 35 = .ok (.iload 4, 2) := by decide +kernel
theorem dX0_latestCreature_37 : decode cX0_latestCreature 37 = .ok (.ireturn, 1) := by decide +kernel
theorem dX0_latestCreature_38 : decode cX0_latestCreature 38 = .ok (.iinc 4 1, 3) := by decide +kernel
theorem dX0_latestCreature_41 : decode cX0_latestCreature 41 = .ok (.goto (-31), 3) := by decide +kernel
theorem dX0_latestCreature_44 : decode cX0_latestCreature 44 = .ok (.bipush (-2), 2) := by decide +kernel
theorem dX0_latestCreature_46 : decode cX0_latestCreature 46 = .ok (.ireturn, 1) := by decide +kernel
theorem dX0_scentsAt_0 : decode cX0_scentsAt 0 = .ok (.iconst 0, 1) := by decide +kernel
theorem dX0_scentsAt_1 : decode cX0_scentsAt 1 = .ok (.istore_n 3, 1) := by decide +kernel
theorem dX0_scentsAt_2 : decode cX0_scentsAt 2 = .ok (.iconst 0, 1) := by decide +kernel
theorem dX0_scentsAt_3 : decode cX0_scentsAt 3 = .ok (.istore 4, 2) := by decide +kernel
theorem dX0_scentsAt_5 : decode cX0_scentsAt 5 = .ok (.iload 4, 2) := by decide +kernel
theorem dX0_scentsAt_7 : decode cX0_scentsAt 7 = .ok (.bipush 8, 2) := by decide +kernel
theorem dX0_scentsAt_9 : decode cX0_scentsAt 9 = .ok (.if_icmp .ge 73, 3) := by decide +kernel
theorem dX0_scentsAt_12 : decode cX0_scentsAt 12 = .ok (.aload_n 0, 1) := by decide +kernel
theorem dX0_scentsAt_13 : decode cX0_scentsAt 13 = .ok (.iload 4, 2) := by decide +kernel
theorem dX0_scentsAt_15 : decode cX0_scentsAt 15 = .ok (.invokevirtual 41, 3) := by decide +kernel
theorem dX0_scentsAt_18 : decode cX0_scentsAt 18 = .ok (.astore 5, 2) := by decide +kernel
theorem dX0_scentsAt_20 : decode cX0_scentsAt 20 = .ok (.aload 5, 2) := by decide +kernel
theorem dX0_scentsAt_22 : decode cX0_scentsAt 22 = .ok (.ifnonnull 6, 3) := by decide +kernel
theorem dX0_scentsAt_25 : decode cX0_scentsAt 25 = .ok (.goto 51, 3) := by decide +kernel
theorem dX0_scentsAt_28 : decode cX0_scentsAt 28 = .ok (.aload 5, 2) := by decide +kernel
theorem dX0_scentsAt_30 : decode cX0_scentsAt 30 = .ok (.getfield 68, 3) := by decide +kernel
theorem dX0_scentsAt_33 : decode cX0_scentsAt 33 = .ok (.istore 6, 2) := by decide +kernel
theorem dX0_scentsAt_35 : decode cX0_scentsAt 35 = .ok (.iload 6, 2) := by decide +kernel
theorem dX0_scentsAt_37 : decode cX0_scentsAt 37 = .ok (.aload 5, 2) := by decide +kernel
theorem dX0_scentsAt_39 : decode cX0_scentsAt 39 = .ok (.invokevirtual 59, 3) := by decide +kernel
theorem dX0_scentsAt_42 : decode cX0_scentsAt 42 = .ok (.if_icmp .gt 34, 3) := by decide +kernel
theorem dX0_scentsAt_45 : decode cX0_scentsAt 45 = .ok (.aload 5, 2) := by decide +kernel
theorem dX0_scentsAt_47 : decode cX0_scentsAt 47 = .ok (.iload 6, 2) := by decide +kernel
theorem dX0_scentsAt_49 : decode cX0_scentsAt 49 = .ok (.invokevirtual 48, 3) := by decide +kernel
theorem dX0_scentsAt_52 : decode cX0_scentsAt 52 = .ok (.iload_n 1, 1) := by decide +kernel
theorem dX0_scentsAt_53 : decode cX0_scentsAt 53 = .ok (.if_icmp .ne 17, 3) := by decide +kernel
theorem dX0_scentsAt_56 : decode cX0_scentsAt 56 = .ok (.aload_n 0, 1) := by decide +kernel
theorem dX0_scentsAt_57 : decode cX0_scentsAt 57 = .ok (.iload_n 1, 1) := by decide +kernel
theorem dX0_scentsAt_58 : decode cX0_scentsAt 58 = .ok (.iload 6, 2) := by decide +kernel
theorem dX0_scentsAt_60 : decode cX0_scentsAt 60 = .ok (.iload_n 2, 1) := by decide +kernel
theorem dX0_scentsAt_61 : decode cX0_scentsAt 61 = .ok (.invokevirtual 71, 3) := by decide +kernel
theorem dX0_scentsAt_64 : decode cX0_scentsAt 64 = .ok (.ifCond .eq 6, 3) := by decide +kernel
theorem dX0_scentsAt_67 : decode cX0_scentsAt 67 = .ok (.iinc 3 1, 3) := by decide +kernel
theorem dX0_scentsAt_70 : decode cX0_scentsAt 70 = .ok (.iinc 6 1, 3) := by decide +kernel
theorem dX0_scentsAt_73 : decode cX0_scentsAt 73 = .ok (.goto (-38), 3) := by decide +kernel
theorem dX0_scentsAt_76 : decode cX0_scentsAt 76 = .ok (.iinc 4 1, 3) := by decide +kernel
theorem dX0_scentsAt_79 : decode cX0_scentsAt 79 = .ok (.goto (-74), 3) := by decide +kernel
theorem dX0_scentsAt_82 : decode cX0_scentsAt 82 = .ok (.iload_n 3, 1) := by decide +kernel
theorem dX0_scentsAt_83 : decode cX0_scentsAt 83 = .ok (.ireturn, 1) := by decide +kernel
theorem dX0_nearestScent_0 : decode cX0_nearestScent 0 = .ok (.bipush (-2), 2) := by decide +kernel
theorem dX0_nearestScent_2 : decode cX0_nearestScent 2 = .ok (.istore 4, 2) := by decide +kernel
theorem dX0_nearestScent_4 : decode cX0_nearestScent 4 = .ok (.iconst 0, 1) := by decide +kernel
theorem dX0_nearestScent_5 : decode cX0_nearestScent 5 = .ok (.istore 5, 2) := by decide +kernel
theorem dX0_nearestScent_7 : decode cX0_nearestScent 7 = .ok (.iload 5, 2) := by decide +kernel
theorem dX0_nearestScent_9 : decode cX0_nearestScent 9 = .ok (.bipush 8, 2) := by decide +kernel
theorem dX0_nearestScent_11 : decode cX0_nearestScent 11 = .ok (.if_icmp .ge 110, 3) := by decide +kernel
theorem dX0_nearestScent_14 : decode cX0_nearestScent 14 = .ok (.aload_n 0, 1) := by decide +kernel
theorem dX0_nearestScent_15 : decode cX0_nearestScent 15 = .ok (.iload 5, 2) := by decide +kernel
theorem dX0_nearestScent_17 : decode cX0_nearestScent 17 = .ok (.invokevirtual 41, 3) := by decide +kernel
theorem dX0_nearestScent_20 : decode cX0_nearestScent 20 = .ok (.astore 6, 2) := by decide +kernel
theorem dX0_nearestScent_22 : decode cX0_nearestScent 22 = .ok (.aload 6, 2) := by decide +kernel
theorem dX0_nearestScent_24 : decode cX0_nearestScent 24 = .ok (.ifnonnull 6, 3) := by decide +kernel
theorem dX0_nearestScent_27 : decode cX0_nearestScent 27 = .ok (.goto 88, 3) := by decide +kernel
theorem dX0_nearestScent_30 : decode cX0_nearestScent 30 = .ok (.aload 6, 2) := by decide +kernel
theorem dX0_nearestScent_32 : decode cX0_nearestScent 32 = .ok (.getfield 68, 3) := by decide +kernel
theorem dX0_nearestScent_35 : decode cX0_nearestScent 35 = .ok (.istore 7, 2) := by decide +kernel
theorem dX0_nearestScent_37 : decode cX0_nearestScent 37 = .ok (.iload 7, 2) := by decide +kernel
theorem dX0_nearestScent_39 : decode cX0_nearestScent 39 = .ok (.aload 6, 2) := by decide +kernel
theorem dX0_nearestScent_41 : decode cX0_nearestScent 41 = .ok (.invokevirtual 59, 3) := by decide +kernel
theorem dX0_nearestScent_44 : decode cX0_nearestScent 44 = .ok (.if_icmp .gt 71, 3) := by decide +kernel
theorem dX0_nearestScent_47 : decode cX0_nearestScent 47 = .ok (.iload 7, 2) := by decide +kernel
theorem dX0_nearestScent_49 : decode cX0_nearestScent 49 = .ok (.iload_n 2, 1) := by decide +kernel
theorem dX0_nearestScent_50 : decode cX0_nearestScent 50 = .ok (.if_icmp .ge 65, 3) := by decide +kernel
theorem dX0_nearestScent_53 : decode cX0_nearestScent 53 = .ok (.aload 6, 2) := by decide +kernel
theorem dX0_nearestScent_55 : decode cX0_nearestScent 55 = .ok (.iload 7, 2) := by decide +kernel
theorem dX0_nearestScent_57 : decode cX0_nearestScent 57 = .ok (.invokevirtual 48, 3) := by decide +kernel
theorem dX0_nearestScent_60 : decode cX0_nearestScent 60 = .ok (.istore 8, 2) := by decide +kernel
theorem dX0_nearestScent_62 : decode cX0_nearestScent 62 = .ok (.iload_n 1, 1) := by decide +kernel
theorem dX0_nearestScent_63 : decode cX0_nearestScent 63 = .ok (.iload 8, 2) := by decide +kernel
theorem dX0_nearestScent_65 : decode cX0_nearestScent 65 = .ok (.invokestatic 85, 3) := by decide +kernel
theorem dX0_nearestScent_68 : decode cX0_nearestScent 68 = .ok (.iload_n 1, 1) := by decide +kernel
theorem dX0_nearestScent_69 : decode cX0_nearestScent 69 = .ok (.iload 8, 2) := by decide +kernel
theorem dX0_nearestScent_71 : decode cX0_nearestScent 71 = .ok (.invokestatic 88, 3) := by decide +kernel
theorem dX0_nearestScent_74 : decode cX0_nearestScent 74 = .ok (.invokestatic 79, 3) := by decide +kernel
theorem dX0_nearestScent_77 : decode cX0_nearestScent 77 = .ok (.istore 9, 2) := by decide +kernel
theorem dX0_nearestScent_79 : decode cX0_nearestScent 79 = .ok (.aload_n 0, 1) := by decide +kernel
theorem dX0_nearestScent_80 : decode cX0_nearestScent 80 = .ok (.iload 8, 2) := by decide +kernel
theorem dX0_nearestScent_82 : decode cX0_nearestScent 82 = .ok (.iload 7, 2) := by decide +kernel
theorem dX0_nearestScent_84 : decode cX0_nearestScent 84 = .ok (.iload_n 3, 1) := by decide +kernel
theorem dX0_nearestScent_85 : decode cX0_nearestScent 85 = .ok (.invokevirtual 71, 3) := by decide +kernel
theorem dX0_nearestScent_88 : decode cX0_nearestScent 88 = .ok (.ifCond .eq 21, 3) := by decide +kernel
theorem dX0_nearestScent_91 : decode cX0_nearestScent 91 = .ok (.iload 4, 2) := by decide +kernel
theorem dX0_nearestScent_93 : decode cX0_nearestScent 93 = .ok (.bipush (-2), 2) := by decide +kernel
theorem dX0_nearestScent_95 : decode cX0_nearestScent 95 = .ok (.if_icmp .eq 10, 3) := by decide +kernel
theorem dX0_nearestScent_98 : decode cX0_nearestScent 98 = .ok (.iload 9, 2) := by decide +kernel
theorem dX0_nearestScent_100 : decode cX0_nearestScent 100 = .ok (.iload 4, 2) := by decide +kernel
theorem dX0_nearestScent_102 : decode cX0_nearestScent 102 = .ok (.if_icmp .ge 7, 3) := by decide +kernel
theorem dX0_nearestScent_105 : decode cX0_nearestScent 105 = .ok (.iload 9, 2) := by decide +kernel
theorem dX0_nearestScent_107 : decode cX0_nearestScent 107 = .ok (.istore 4, 2) := by decide +kernel
theorem dX0_nearestScent_109 : decode cX0_nearestScent 109 = .ok (.iinc 7 1, 3) := by decide +kernel
theorem dX0_nearestScent_112 : decode cX0_nearestScent 112 = .ok (.goto (-75), 3) := by decide +kernel
theorem dX0_nearestScent_115 : decode cX0_nearestScent 115 = .ok (.iinc 5 1, 3) := by decide +kernel
theorem dX0_nearestScent_118 : decode cX0_nearestScent 118 = .ok (.goto (-111), 3) := by decide +kernel
theorem dX0_nearestScent_121 : decode cX0_nearestScent 121 = .ok (.iload 4, 2) := by decide +kernel
theorem dX0_nearestScent_123 : decode cX0_nearestScent 123 = .ok (.ireturn, 1) := by decide +kernel
theorem dX1_init_0 : decode cX1_init 0 = .ok (.aload_n 0, 1) := by decide +kernel
theorem dX1_init_1 : decode cX1_init 1 = .ok (.invokespecial 3, 3) := by decide +kernel
theorem dX1_init_4 : decode cX1_init 4 = .ok (.aload_n 0, 1) := by decide +kernel
theorem dX1_init_5 : decode cX1_init 5 = .ok (.bipush 96, 2) := by decide +kernel
theorem dX1_init_7 : decode cX1_init 7 = .ok (.newarray .int, 2) := by decide +kernel
theorem dX1_init_9 : decode cX1_init 9 = .ok (.putfield 9, 3) := by decide +kernel
theorem dX1_init_12 : decode cX1_init 12 = .ok (.aload_n 0, 1) := by decide +kernel
theorem dX1_init_13 : decode cX1_init 13 = .ok (.bipush 97, 2) := by decide +kernel
theorem dX1_init_15 : decode cX1_init 15 = .ok (.newarray .int, 2) := by decide +kernel
theorem dX1_init_17 : decode cX1_init 17 = .ok (.putfield 15, 3) := by decide +kernel
theorem dX1_init_20 : decode cX1_init 20 = .ok (.aload_n 0, 1) := by decide +kernel
theorem dX1_init_21 : decode cX1_init 21 = .ok (.iconst 0, 1) := by decide +kernel
theorem dX1_init_22 : decode cX1_init 22 = .ok (.putfield 18, 3) := by decide +kernel
theorem dX1_init_25 : decode cX1_init 25 = .ok (.aload_n 0, 1) := by decide +kernel
theorem dX1_init_26 : decode cX1_init 26 = .ok (.iconst 0, 1) := by decide +kernel
theorem dX1_init_27 : decode cX1_init 27 = .ok (.putfield 22, 3) := by decide +kernel
theorem dX1_init_30 : decode cX1_init 30 = .ok (.aload_n 0, 1) := by decide +kernel
theorem dX1_init_31 : decode cX1_init 31 = .ok (.iconst 0, 1) := by decide +kernel
theorem dX1_init_32 : decode cX1_init 32 = .ok (.putfield 26, 3) := by decide +kernel
theorem dX1_init_35 : decode cX1_init 35 = .ok (.return_, 1) := by decide +kernel
theorem dX1_lay_0 : decode cX1_lay 0 = .ok (.aload_n 0, 1) := by decide +kernel
theorem dX1_lay_1 : decode cX1_lay 1 = .ok (.iconst 1, 1) := by decide +kernel
theorem dX1_lay_2 : decode cX1_lay 2 = .ok (.putfield 18, 3) := by decide +kernel
theorem dX1_lay_5 : decode cX1_lay 5 = .ok (.aload_n 0, 1) := by decide +kernel
theorem dX1_lay_6 : decode cX1_lay 6 = .ok (.iload_n 2, 1) := by decide +kernel
theorem dX1_lay_7 : decode cX1_lay 7 = .ok (.putfield 22, 3) := by decide +kernel
theorem dX1_lay_10 : decode cX1_lay 10 = .ok (.aload_n 0, 1) := by decide +kernel
theorem dX1_lay_11 : decode cX1_lay 11 = .ok (.aload_n 3, 1) := by decide +kernel
theorem dX1_lay_12 : decode cX1_lay 12 = .ok (.getfield 29, 3) := by decide +kernel
theorem dX1_lay_15 : decode cX1_lay 15 = .ok (.aload_n 0, 1) := by decide +kernel
theorem dX1_lay_16 : decode cX1_lay 16 = .ok (.getfield 9, 3) := by decide +kernel
theorem dX1_lay_19 : decode cX1_lay 19 = .ok (.arraylength, 1) := by decide +kernel
theorem dX1_lay_20 : decode cX1_lay 20 = .ok (.invokestatic 32, 3) := by decide +kernel
theorem dX1_lay_23 : decode cX1_lay 23 = .ok (.putfield 26, 3) := by decide +kernel
theorem dX1_lay_26 : decode cX1_lay 26 = .ok (.aload_n 0, 1) := by decide +kernel
theorem dX1_lay_27 : decode cX1_lay 27 = .ok (.getfield 15, 3) := by decide +kernel
theorem dX1_lay_30 : decode cX1_lay 30 = .ok (.iconst 0, 1) := by decide +kernel
theorem dX1_lay_31 : decode cX1_lay 31 = .ok (.iload_n 1, 1) := by decide +kernel
theorem dX1_lay_32 : decode cX1_lay 32 = .ok (.iastore, 1) := by decide +kernel
theorem dX1_lay_33 : decode cX1_lay 33 = .ok (.iload_n 1, 1) := by decide +kernel
theorem dX1_lay_34 : decode cX1_lay 34 = .ok (.istore 4, 2) := by decide +kernel
theorem dX1_lay_36 : decode cX1_lay 36 = .ok (.iconst 0, 1) := by decide +kernel
theorem dX1_lay_37 : decode cX1_lay 37 = .ok (.istore 5, 2) := by decide +kernel
theorem dX1_lay_39 : decode cX1_lay 39 = .ok (.iload 5, 2) := by decide +kernel
theorem dX1_lay_41 : decode cX1_lay 41 = .ok (.aload_n 0, 1) := by decide +kernel
theorem dX1_lay_42 : decode cX1_lay 42 = .ok (.getfield 26, 3) := by decide +kernel
theorem dX1_lay_45 : decode cX1_lay 45 = .ok (.if_icmp .ge 58, 3) := by decide +kernel
theorem dX1_lay_48 : decode cX1_lay 48 = .ok (.aload_n 0, 1) := by decide +kernel
theorem dX1_lay_49 : decode cX1_lay 49 = .ok (.getfield 9, 3) := by decide +kernel
theorem dX1_lay_52 : decode cX1_lay 52 = .ok (.iload 5, 2) := by decide +kernel
theorem dX1_lay_54 : decode cX1_lay 54 = .ok (.aload_n 3, 1) := by decide +kernel
theorem dX1_lay_55 : decode cX1_lay 55 = .ok (.getfield 38, 3) := by decide +kernel
theorem dX1_lay_58 : decode cX1_lay 58 = .ok (.iload 5, 2) := by decide +kernel
theorem dX1_lay_60 : decode cX1_lay 60 = .ok (.iaload, 1) := by decide +kernel
theorem dX1_lay_61 : decode cX1_lay 61 = .ok (.iastore, 1) := by decide +kernel
theorem dX1_lay_62 : decode cX1_lay 62 = .ok (.iload 4, 2) := by decide +kernel
theorem dX1_lay_64 : decode cX1_lay 64 = .ok (.aload_n 0, 1) := by decide +kernel
theorem dX1_lay_65 : decode cX1_lay 65 = .ok (.getfield 9, 3) := by decide +kernel
theorem dX1_lay_68 : decode cX1_lay 68 = .ok (.iload 5, 2) := by decide +kernel
theorem dX1_lay_70 : decode cX1_lay 70 = .ok (.iaload, 1) := by decide +kernel
theorem dX1_lay_71 : decode cX1_lay 71 = .ok (.invokestatic 39, 3) := by decide +kernel
theorem dX1_lay_74 : decode cX1_lay 74 = .ok (.istore 6, 2) := by decide +kernel
theorem dX1_lay_76 : decode cX1_lay 76 = .ok (.iload 6, 2) := by decide +kernel
theorem dX1_lay_78 : decode cX1_lay 78 = .ok (.iconst (-1), 1) := by decide +kernel
theorem dX1_lay_79 : decode cX1_lay 79 = .ok (.if_icmp .eq 7, 3) := by decide +kernel
theorem dX1_lay_82 : decode cX1_lay 82 = .ok (.iload 6, 2) := by decide +kernel
theorem dX1_lay_84 : decode cX1_lay 84 = .ok (.istore 4, 2) := by decide +kernel
theorem dX1_lay_86 : decode cX1_lay 86 = .ok (.aload_n 0, 1) := by decide +kernel
theorem dX1_lay_87 : decode cX1_lay 87 = .ok (.getfield 15, 3) := by decide +kernel
theorem dX1_lay_90 : decode cX1_lay 90 = .ok (.iload 5, 2) := by decide +kernel
theorem dX1_lay_92 : decode cX1_lay 92 = .ok (.iconst 1, 1) := by decide +kernel
theorem dX1_lay_93 : decode cX1_lay 93 = .ok (.iadd, 1) := by decide +kernel
theorem dX1_lay_94 : decode cX1_lay 94 = .ok (.iload 4, 2) := by decide +kernel
theorem dX1_lay_96 : decode cX1_lay 96 = .ok (.iastore, 1) := by decide +kernel
theorem dX1_lay_97 : decode cX1_lay 97 = .ok (.iinc 5 1, 3) := by decide +kernel
theorem dX1_lay_100 : decode cX1_lay 100 = .ok (.goto (-61), 3) := by decide +kernel
theorem dX1_lay_103 : decode cX1_lay 103 = .ok (.return_, 1) := by decide +kernel
theorem dX1_last_0 : decode cX1_last 0 = .ok (.aload_n 0, 1) := by decide +kernel
theorem dX1_last_1 : decode cX1_last 1 = .ok (.getfield 22, 3) := by decide +kernel
theorem dX1_last_4 : decode cX1_last 4 = .ok (.aload_n 0, 1) := by decide +kernel
theorem dX1_last_5 : decode cX1_last 5 = .ok (.getfield 26, 3) := by decide +kernel
theorem dX1_last_8 : decode cX1_last 8 = .ok (.iadd, 1) := by decide +kernel
theorem dX1_last_9 : decode cX1_last 9 = .ok (.ireturn, 1) := by decide +kernel
theorem dX1_placeAt_0 : decode cX1_placeAt 0 = .ok (.iload_n 1, 1) := by decide +kernel
theorem dX1_placeAt_1 : decode cX1_placeAt 1 = .ok (.aload_n 0, 1) := by decide +kernel
theorem dX1_placeAt_2 : decode cX1_placeAt 2 = .ok (.getfield 22, 3) := by decide +kernel
theorem dX1_placeAt_5 : decode cX1_placeAt 5 = .ok (.isub, 1) := by decide +kernel
theorem dX1_placeAt_6 : decode cX1_placeAt 6 = .ok (.istore_n 2, 1) := by decide +kernel
theorem dX1_placeAt_7 : decode cX1_placeAt 7 = .ok (.iload_n 2, 1) := by decide +kernel
theorem dX1_placeAt_8 : decode cX1_placeAt 8 = .ok (.ifCond .lt 29, 3) := by decide +kernel
theorem dX1_placeAt_11 : decode cX1_placeAt 11 = .ok (.iload_n 2, 1) := by decide +kernel
theorem dX1_placeAt_12 : decode cX1_placeAt 12 = .ok (.aload_n 0, 1) := by decide +kernel
theorem dX1_placeAt_13 : decode cX1_placeAt 13 = .ok (.getfield 26, 3) := by decide +kernel
theorem dX1_placeAt_16 : decode cX1_placeAt 16 = .ok (.if_icmp .gt 21, 3) := by decide +kernel
theorem dX1_placeAt_19 : decode cX1_placeAt 19 = .ok (.iload_n 2, 1) := by decide +kernel
theorem dX1_placeAt_20 : decode cX1_placeAt 20 = .ok (.aload_n 0, 1) := by decide +kernel
theorem dX1_placeAt_21 : decode cX1_placeAt 21 = .ok (.getfield 15, 3) := by decide +kernel
theorem dX1_placeAt_24 : decode cX1_placeAt 24 = .ok (.arraylength, 1) := by decide +kernel
theorem dX1_placeAt_25 : decode cX1_placeAt 25 = .ok (.if_icmp .ge 12, 3) := by decide +kernel
theorem dX1_placeAt_28 : decode cX1_placeAt 28 = .ok (.aload_n 0, 1) := by decide +kernel
theorem dX1_placeAt_29 : decode cX1_placeAt 29 = .ok (.getfield 15, 3) := by decide +kernel
theorem dX1_placeAt_32 : decode cX1_placeAt 32 = .ok (.iload_n 2, 1) := by decide +kernel
theorem dX1_placeAt_33 : decode cX1_placeAt 33 = .ok (.iaload, 1) := by decide +kernel
theorem dX1_placeAt_34 : decode cX1_placeAt 34 = .ok (.goto 5, 3) := by decide +kernel
theorem dX1_placeAt_37 : decode cX1_placeAt 37 = .ok (.bipush (-2), 2) := by decide +kernel
theorem dX1_placeAt_39 : decode cX1_placeAt 39 = .ok (.ireturn, 1) := by decide +kernel
theorem dX1_timesAt_0 : decode cX1_timesAt 0 = .ok (.iconst 0, 1) := by decide +kernel
theorem dX1_timesAt_1 : decode cX1_timesAt 1 = .ok (.istore_n 2, 1) := by decide +kernel
theorem dX1_timesAt_2 : decode cX1_timesAt 2 = .ok (.iconst 0, 1) := by decide +kernel
theorem dX1_timesAt_3 : decode cX1_timesAt 3 = .ok (.istore_n 3, 1) := by decide +kernel
theorem dX1_timesAt_4 : decode cX1_timesAt 4 = .ok (.iload_n 3, 1) := by decide +kernel
theorem dX1_timesAt_5 : decode cX1_timesAt 5 = .ok (.aload_n 0, 1) := by decide +kernel
theorem dX1_timesAt_6 : decode cX1_timesAt 6 = .ok (.getfield 26, 3) := by decide +kernel
theorem dX1_timesAt_9 : decode cX1_timesAt 9 = .ok (.if_icmp .gt 31, 3) := by decide +kernel
theorem dX1_timesAt_12 : decode cX1_timesAt 12 = .ok (.iload_n 3, 1) := by decide +kernel
theorem dX1_timesAt_13 : decode cX1_timesAt 13 = .ok (.aload_n 0, 1) := by decide +kernel
theorem dX1_timesAt_14 : decode cX1_timesAt 14 = .ok (.getfield 15, 3) := by decide +kernel
theorem dX1_timesAt_17 : decode cX1_timesAt 17 = .ok (.arraylength, 1) := by decide +kernel
theorem dX1_timesAt_18 : decode cX1_timesAt 18 = .ok (.if_icmp .ge 22, 3) := by decide +kernel
theorem dX1_timesAt_21 : decode cX1_timesAt 21 = .ok (.aload_n 0, 1) := by decide +kernel
theorem dX1_timesAt_22 : decode cX1_timesAt 22 = .ok (.getfield 15, 3) := by decide +kernel
theorem dX1_timesAt_25 : decode cX1_timesAt 25 = .ok (.iload_n 3, 1) := by decide +kernel
theorem dX1_timesAt_26 : decode cX1_timesAt 26 = .ok (.iaload, 1) := by decide +kernel
theorem dX1_timesAt_27 : decode cX1_timesAt 27 = .ok (.iload_n 1, 1) := by decide +kernel
theorem dX1_timesAt_28 : decode cX1_timesAt 28 = .ok (.if_icmp .ne 6, 3) := by decide +kernel
theorem dX1_timesAt_31 : decode cX1_timesAt 31 = .ok (.iinc 2 1, 3) := by decide +kernel
theorem dX1_timesAt_34 : decode cX1_timesAt 34 = .ok (.iinc 3 1, 3) := by decide +kernel
theorem dX1_timesAt_37 : decode cX1_timesAt 37 = .ok (.goto (-33), 3) := by decide +kernel
theorem dX1_timesAt_40 : decode cX1_timesAt 40 = .ok (.iload_n 2, 1) := by decide +kernel
theorem dX1_timesAt_41 : decode cX1_timesAt 41 = .ok (.ireturn, 1) := by decide +kernel
theorem dX1_wasAt_0 : decode cX1_wasAt 0 = .ok (.iload_n 3, 1) := by decide +kernel
theorem dX1_wasAt_1 : decode cX1_wasAt 1 = .ok (.aload_n 0, 1) := by decide +kernel
theorem dX1_wasAt_2 : decode cX1_wasAt 2 = .ok (.invokevirtual 42, 3) := by decide +kernel
theorem dX1_wasAt_5 : decode cX1_wasAt 5 = .ok (.invokestatic 32, 3) := by decide +kernel
theorem dX1_wasAt_8 : decode cX1_wasAt 8 = .ok (.istore 4, 2) := by decide +kernel
theorem dX1_wasAt_10 : decode cX1_wasAt 10 = .ok (.iload_n 2, 1) := by decide +kernel
theorem dX1_wasAt_11 : decode cX1_wasAt 11 = .ok (.aload_n 0, 1) := by decide +kernel
theorem dX1_wasAt_12 : decode cX1_wasAt 12 = .ok (.getfield 22, 3) := by decide +kernel
theorem dX1_wasAt_15 : decode cX1_wasAt 15 = .ok (.invokestatic 46, 3) := by decide +kernel
theorem dX1_wasAt_18 : decode cX1_wasAt 18 = .ok (.istore 5, 2) := by decide +kernel
theorem dX1_wasAt_20 : decode cX1_wasAt 20 = .ok (.iload 5, 2) := by decide +kernel
theorem dX1_wasAt_22 : decode cX1_wasAt 22 = .ok (.iload 4, 2) := by decide +kernel
theorem dX1_wasAt_24 : decode cX1_wasAt 24 = .ok (.if_icmp .gt 21, 3) := by decide +kernel
theorem dX1_wasAt_27 : decode cX1_wasAt 27 = .ok (.aload_n 0, 1) := by decide +kernel
theorem dX1_wasAt_28 : decode cX1_wasAt 28 = .ok (.iload 5, 2) := by decide +kernel
theorem dX1_wasAt_30 : decode cX1_wasAt 30 = .ok (.invokevirtual 49, 3) := by decide +kernel
theorem dX1_wasAt_33 : decode cX1_wasAt 33 = .ok (.iload_n 1, 1) := by decide +kernel
theorem dX1_wasAt_34 : decode cX1_wasAt 34 = .ok (.if_icmp .ne 5, 3) := by decide +kernel
theorem dX1_wasAt_37 : decode cX1_wasAt 37 = .ok (.iconst 1, 1) := by decide +kernel
theorem dX1_wasAt_38 : decode cX1_wasAt 38 = .ok (.ireturn, 1) := by decide +kernel
theorem dX1_wasAt_39 : decode cX1_wasAt 39 = .ok (.iinc 5 1, 3) := by decide +kernel
theorem dX1_wasAt_42 : decode cX1_wasAt 42 = .ok (.goto (-22), 3) := by decide +kernel
theorem dX1_wasAt_45 : decode cX1_wasAt 45 = .ok (.iconst 0, 1) := by decide +kernel
theorem dX1_wasAt_46 : decode cX1_wasAt 46 = .ok (.ireturn, 1) := by decide +kernel
theorem dX1_turns_0 : decode cX1_turns 0 = .ok (.iconst 0, 1) := by decide +kernel
theorem dX1_turns_1 : decode cX1_turns 1 = .ok (.istore_n 1, 1) := by decide +kernel
theorem dX1_turns_2 : decode cX1_turns 2 = .ok (.iconst 0, 1) := by decide +kernel
theorem dX1_turns_3 : decode cX1_turns 3 = .ok (.istore_n 2, 1) := by decide +kernel
theorem dX1_turns_4 : decode cX1_turns 4 = .ok (.iconst 0, 1) := by decide +kernel
theorem dX1_turns_5 : decode cX1_turns 5 = .ok (.istore_n 3, 1) := by decide +kernel
theorem dX1_turns_6 : decode cX1_turns 6 = .ok (.iload_n 3, 1) := by decide +kernel
theorem dX1_turns_7 : decode cX1_turns 7 = .ok (.aload_n 0, 1) := by decide +kernel
theorem dX1_turns_8 : decode cX1_turns 8 = .ok (.getfield 26, 3) := by decide +kernel
theorem dX1_turns_11 : decode cX1_turns 11 = .ok (.if_icmp .ge 51, 3) := by decide +kernel
theorem dX1_turns_14 : decode cX1_turns 14 = .ok (.iload_n 3, 1) := by decide +kernel
theorem dX1_turns_15 : decode cX1_turns 15 = .ok (.aload_n 0, 1) := by decide +kernel
theorem dX1_turns_16 : decode cX1_turns 16 = .ok (.getfield 9, 3) := by decide +kernel
theorem dX1_turns_19 : decode cX1_turns 19 = .ok (.arraylength, 1) := by decide +kernel
theorem dX1_turns_20 : decode cX1_turns 20 = .ok (.if_icmp .ge 42, 3) := by decide +kernel
theorem dX1_turns_23 : decode cX1_turns 23 = .ok (.aload_n 0, 1) := by decide +kernel
theorem dX1_turns_24 : decode cX1_turns 24 = .ok (.getfield 9, 3) := by decide +kernel
theorem dX1_turns_27 : decode cX1_turns 27 = .ok (.iload_n 3, 1) := by decide +kernel
theorem dX1_turns_28 : decode cX1_turns 28 = .ok (.iaload, 1) := by decide +kernel
theorem dX1_turns_29 : decode cX1_turns 29 = .ok (.ifCond .eq 27, 3) := by decide +kernel
theorem dX1_turns_32 : decode cX1_turns 32 = .ok (.iload_n 2, 1) := by decide +kernel
theorem dX1_turns_33 : decode cX1_turns 33 = .ok (.ifCond .eq 16, 3) := by decide +kernel
theorem dX1_turns_36 : decode cX1_turns 36 = .ok (.aload_n 0, 1) := by decide +kernel
theorem dX1_turns_37 : decode cX1_turns 37 = .ok (.getfield 9, 3) := by decide +kernel
theorem dX1_turns_40 : decode cX1_turns 40 = .ok (.iload_n 3, 1) := by decide +kernel
theorem dX1_turns_41 : decode cX1_turns 41 = .ok (.iaload, 1) := by decide +kernel
theorem dX1_turns_42 : decode cX1_turns 42 = .ok (.iload_n 2, 1) := by decide +kernel
theorem dX1_turns_43 : decode cX1_turns 43 = .ok (.if_icmp .eq 6, 3) := by decide +kernel
theorem dX1_turns_46 : decode cX1_turns 46 = .ok (.iinc 1 1, 3) := by decide +kernel
theorem dX1_turns_49 : decode cX1_turns 49 = .ok (.aload_n 0, 1) := by decide +kernel
theorem dX1_turns_50 : decode cX1_turns 50 = .ok (.getfield 9, 3) := by decide +kernel
theorem dX1_turns_53 : decode cX1_turns 53 = .ok (.iload_n 3, 1) := by decide +kernel
theorem dX1_turns_54 : decode cX1_turns 54 = .ok (.iaload, 1) := by decide +kernel
theorem dX1_turns_55 : decode cX1_turns 55 = .ok (.istore_n 2, 1) := by decide +kernel
theorem dX1_turns_56 : decode cX1_turns 56 = .ok (.iinc 3 1, 3) := by decide +kernel
theorem dX1_turns_59 : decode cX1_turns 59 = .ok (.goto (-53), 3) := by decide +kernel
theorem dX1_turns_62 : decode cX1_turns 62 = .ok (.iload_n 1, 1) := by decide +kernel
theorem dX1_turns_63 : decode cX1_turns 63 = .ok (.ireturn, 1) := by decide +kernel
theorem dX1_longestStraight_0 : decode cX1_longestStraight 0 = .ok (.iconst 0, 1) := by decide +kernel
theorem dX1_longestStraight_1 : decode cX1_longestStraight 1 = .ok (.istore_n 1, 1) := by decide +kernel
theorem dX1_longestStraight_2 : decode cX1_longestStraight 2 = .ok (.iconst 0, 1) := by decide +kernel
theorem dX1_longestStraight_3 : decode cX1_longestStraight 3 = .ok (.istore_n 2, 1) := by decide +kernel
theorem dX1_longestStraight_4 : decode cX1_longestStraight 4 = .ok (.iconst 0, 1) := by decide +kernel
theorem dX1_longestStraight_5 : decode cX1_longestStraight 5 = .ok (.istore_n 3, 1) := by decide +kernel
theorem dX1_longestStraight_6 : decode cX1_longestStraight 6 = .ok (.iconst 0, 1) := by decide +kernel
theorem dX1_longestStraight_7 : decode cX1_longestStraight 7 = .ok (.istore 4, 2) := by decide +kernel
theorem dX1_longestStraight_9 : decode cX1_longestStraight 9 = .ok (.iload 4, 2) := by decide +kernel
theorem dX1_longestStraight_11 : decode cX1_longestStraight 11 = .ok (.aload_n 0, 1) := by decide +kernel
theorem dX1_longestStraight_12 : decode cX1_longestStraight 12 = .ok (.getfield 26, 3) := by decide +kernel
theorem dX1_longestStraight_15 : decode cX1_longestStraight 15 = .ok (.if_icmp .ge 62, 3) := by decide +kernel
theorem dX1_longestStraight_18 : decode cX1_longestStraight 18 = .ok (.iload 4, 2) := by decide +kernel
theorem dX1_longestStraight_20 : decode cX1_longestStraight 20 = .ok (.aload_n 0, 1) := by decide +kernel
theorem dX1_longestStraight_21 : decode cX1_longestStraight 21 = .ok (.getfield 9, 3) := by decide +kernel
theorem dX1_longestStraight_24 : decode cX1_longestStraight 24 = .ok (.arraylength, 1) := by decide +kernel
theorem dX1_longestStraight_25 : decode cX1_longestStraight 25 = .ok (.if_icmp .ge 52, 3) := by decide +kernel
theorem dX1_longestStraight_28 : decode cX1_longestStraight 28 = .ok (.aload_n 0, 1) := by decide +kernel
theorem dX1_longestStraight_29 : decode cX1_longestStraight 29 = .ok (.getfield 9, 3) := by decide +kernel
theorem dX1_longestStraight_32 : decode cX1_longestStraight 32 = .ok (.iload 4, 2) := by decide +kernel
theorem dX1_longestStraight_34 : decode cX1_longestStraight 34 = .ok (.iaload, 1) := by decide +kernel
theorem dX1_longestStraight_35 : decode cX1_longestStraight 35 = .ok (.ifCond .eq 36, 3) := by decide +kernel
theorem dX1_longestStraight_38 : decode cX1_longestStraight 38 = .ok (.aload_n 0, 1) := by decide +kernel
theorem dX1_longestStraight_39 : decode cX1_longestStraight 39 = .ok (.getfield 9, 3) := by decide +kernel
theorem dX1_longestStraight_42 : decode cX1_longestStraight 42 = .ok (.iload 4, 2) := by decide +kernel
theorem dX1_longestStraight_44 : decode cX1_longestStraight 44 = .ok (.iaload, 1) := by decide +kernel
theorem dX1_longestStraight_45 : decode cX1_longestStraight 45 = .ok (.iload_n 3, 1) := by decide +kernel
theorem dX1_longestStraight_46 : decode cX1_longestStraight 46 = .ok (.if_icmp .ne 9, 3) := by decide +kernel
theorem dX1_longestStraight_49 : decode cX1_longestStraight 49 = .ok (.iload_n 2, 1) := by decide +kernel
theorem dX1_longestStraight_50 : decode cX1_longestStraight 50 = .ok (.iconst 1, 1) := by decide +kernel
theorem dX1_longestStraight_51 : decode cX1_longestStraight 51 = .ok (.iadd, 1) := by decide +kernel
theorem dX1_longestStraight_52 : decode cX1_longestStraight 52 = .ok (.goto 4, 3) := by decide +kernel
theorem dX1_longestStraight_55 : decode cX1_longestStraight 55 = .ok (.iconst 1, 1) := by decide +kernel
theorem dX1_longestStraight_56 : decode cX1_longestStraight 56 = .ok (.istore_n 2, 1) := by decide +kernel
theorem dX1_longestStraight_57 : decode cX1_longestStraight 57 = .ok (.aload_n 0, 1) := by decide +kernel
theorem dX1_longestStraight_58 : decode cX1_longestStraight 58 = .ok (.getfield 9, 3) := by decide +kernel
theorem dX1_longestStraight_61 : decode cX1_longestStraight 61 = .ok (.iload 4, 2) := by decide +kernel
theorem dX1_longestStraight_63 : decode cX1_longestStraight 63 = .ok (.iaload, 1) := by decide +kernel
theorem dX1_longestStraight_64 : decode cX1_longestStraight 64 = .ok (.istore_n 3, 1) := by decide +kernel
theorem dX1_longestStraight_65 : decode cX1_longestStraight 65 = .ok (.iload_n 1, 1) := by decide +kernel
theorem dX1_longestStraight_66 : decode cX1_longestStraight 66 = .ok (.iload_n 2, 1) := by decide +kernel
theorem dX1_longestStraight_67 : decode cX1_longestStraight 67 = .ok (.invokestatic 46, 3) := by decide +kernel
theorem dX1_longestStraight_70 : decode cX1_longestStraight 70 = .ok (.istore_n 1, 1) := by decide +kernel
theorem dX1_longestStraight_71 : decode cX1_longestStraight 71 = .ok (.iinc 4 1, 3) := by decide +kernel
theorem dX1_longestStraight_74 : decode cX1_longestStraight 74 = .ok (.goto (-65), 3) := by decide +kernel
theorem dX1_longestStraight_77 : decode cX1_longestStraight 77 = .ok (.iload_n 1, 1) := by decide +kernel
theorem dX1_longestStraight_78 : decode cX1_longestStraight 78 = .ok (.ireturn, 1) := by decide +kernel
theorem dX1_period_0 : decode cX1_period 0 = .ok (.iconst 1, 1) := by decide +kernel
theorem dX1_period_1 : decode cX1_period 1 = .ok (.istore_n 1, 1) := by decide +kernel
theorem dX1_period_2 : decode cX1_period 2 = .ok (.iload_n 1, 1) := by decide +kernel
theorem dX1_period_3 : decode cX1_period 3 = .ok (.aload_n 0, 1) := by decide +kernel
theorem dX1_period_4 : decode cX1_period 4 = .ok (.getfield 26, 3) := by decide +kernel
theorem dX1_period_7 : decode cX1_period 7 = .ok (.if_icmp .ge 19, 3) := by decide +kernel
theorem dX1_period_10 : decode cX1_period 10 = .ok (.aload_n 0, 1) := by decide +kernel
theorem dX1_period_11 : decode cX1_period 11 = .ok (.iload_n 1, 1) := by decide +kernel
theorem dX1_period_12 : decode cX1_period 12 = .ok (.invokevirtual 53, 3) := by decide +kernel
theorem dX1_period_15 : decode cX1_period 15 = .ok (.ifCond .eq 5, 3) := by decide +kernel
theorem dX1_period_18 : decode cX1_period 18 = .ok (.iload_n 1, 1) := by decide +kernel
theorem dX1_period_19 : decode cX1_period 19 = .ok (.ireturn, 1) := by decide +kernel
theorem dX1_period_20 : decode cX1_period 20 = .ok (.iinc 1 1, 3) := by decide +kernel
theorem dX1_period_23 : decode cX1_period 23 = .ok (.goto (-21), 3) := by decide +kernel
theorem dX1_period_26 : decode cX1_period 26 = .ok (.aload_n 0, 1) := by decide +kernel
theorem dX1_period_27 : decode cX1_period 27 = .ok (.getfield 26, 3) := by decide +kernel
theorem dX1_period_30 : decode cX1_period 30 = .ok (.ireturn, 1) := by decide +kernel
theorem dX1_repeatsAfter_0 : decode cX1_repeatsAfter 0 = .ok (.iload_n 1, 1) := by decide +kernel
theorem dX1_repeatsAfter_1 : decode cX1_repeatsAfter 1 = .ok (.iconst 0, 1) := by decide +kernel
theorem dX1_repeatsAfter_2 : decode cX1_repeatsAfter 2 = .ok (.invokestatic 46, 3) := by decide +kernel
theorem dX1_repeatsAfter_5 : decode cX1_repeatsAfter 5 = .ok (.istore_n 2, 1) := by decide +kernel
theorem dX1_repeatsAfter_6 : decode cX1_repeatsAfter 6 = .ok (.iload_n 2, 1) := by decide +kernel
theorem dX1_repeatsAfter_7 : decode cX1_repeatsAfter 7 = .ok (.aload_n 0, 1) := by decide +kernel
theorem dX1_repeatsAfter_8 : decode cX1_repeatsAfter 8 = .ok (.getfield 26, 3) := by decide +kernel
theorem dX1_repeatsAfter_11 : decode cX1_repeatsAfter 11 = .ok (.if_icmp .ge 37, 3) := by decide +kernel
theorem dX1_repeatsAfter_14 : decode cX1_repeatsAfter 14 = .ok (.iload_n 2, 1) := by decide +kernel
theorem dX1_repeatsAfter_15 : decode cX1_repeatsAfter 15 = .ok (.aload_n 0, 1) := by decide +kernel
theorem dX1_repeatsAfter_16 : decode cX1_repeatsAfter 16 = .ok (.getfield 9, 3) := by decide +kernel
theorem dX1_repeatsAfter_19 : decode cX1_repeatsAfter 19 = .ok (.arraylength, 1) := by decide +kernel
theorem dX1_repeatsAfter_20 : decode cX1_repeatsAfter 20 = .ok (.if_icmp .ge 28, 3) := by decide +kernel
theorem dX1_repeatsAfter_23 : decode cX1_repeatsAfter 23 = .ok (.aload_n 0, 1) := by decide +kernel
theorem dX1_repeatsAfter_24 : decode cX1_repeatsAfter 24 = .ok (.getfield 9, 3) := by decide +kernel
theorem dX1_repeatsAfter_27 : decode cX1_repeatsAfter 27 = .ok (.iload_n 2, 1) := by decide +kernel
theorem dX1_repeatsAfter_28 : decode cX1_repeatsAfter 28 = .ok (.iaload, 1) := by decide +kernel
theorem dX1_repeatsAfter_29 : decode cX1_repeatsAfter 29 = .ok (.aload_n 0, 1) := by decide +kernel
theorem dX1_repeatsAfter_30 : decode cX1_repeatsAfter 30 = .ok (.getfield 9, 3) := by decide +kernel
theorem dX1_repeatsAfter_33 : decode cX1_repeatsAfter 33 = .ok (.iload_n 2, 1) := by decide +kernel
theorem dX1_repeatsAfter_34 : decode cX1_repeatsAfter 34 = .ok (.iload_n 1, 1) := by decide +kernel
theorem dX1_repeatsAfter_35 : decode cX1_repeatsAfter 35 = .ok (.isub, 1) := by decide +kernel
theorem dX1_repeatsAfter_36 : decode cX1_repeatsAfter 36 = .ok (.iaload, 1) := by decide +kernel
theorem dX1_repeatsAfter_37 : decode cX1_repeatsAfter 37 = .ok (.if_icmp .eq 5, 3) := by decide +kernel
theorem dX1_repeatsAfter_40 : decode cX1_repeatsAfter 40 = .ok (.iconst 0, 1) := by decide +kernel
theorem dX1_repeatsAfter_41 : decode cX1_repeatsAfter 41 = .ok (.ireturn, 1) := by decide +kernel
theorem dX1_repeatsAfter_42 : decode cX1_repeatsAfter 42 = .ok (.iinc 2 1, 3) := by decide +kernel
theorem dX1_repeatsAfter_45 : decode cX1_repeatsAfter 45 = .ok (.goto (-39), 3) := by decide +kernel
theorem dX1_repeatsAfter_48 : decode cX1_repeatsAfter 48 = .ok (.iconst 1, 1) := by decide +kernel
theorem dX1_repeatsAfter_49 : decode cX1_repeatsAfter 49 = .ok (.ireturn, 1) := by decide +kernel
theorem dX10_init_0 : decode cX10_init 0 = .ok (.aload_n 0, 1) := by decide +kernel
theorem dX10_init_1 : decode cX10_init 1 = .ok (.invokespecial 3, 3) := by decide +kernel
theorem dX10_init_4 : decode cX10_init 4 = .ok (.aload_n 0, 1) := by decide +kernel
theorem dX10_init_5 : decode cX10_init 5 = .ok (.sipush 260, 3) := by decide +kernel
theorem dX10_init_8 : decode cX10_init 8 = .ok (.newarray .int, 2) := by decide +kernel
theorem dX10_init_10 : decode cX10_init 10 = .ok (.putfield 9, 3) := by decide +kernel
theorem dX10_init_13 : decode cX10_init 13 = .ok (.aload_n 0, 1) := by decide +kernel
theorem dX10_init_14 : decode cX10_init 14 = .ok (.iconst 0, 1) := by decide +kernel
theorem dX10_init_15 : decode cX10_init 15 = .ok (.putfield 15, 3) := by decide +kernel
theorem dX10_init_18 : decode cX10_init 18 = .ok (.aload_n 0, 1) := by decide +kernel
theorem dX10_init_19 : decode cX10_init 19 = .ok (.iconst 0, 1) := by decide +kernel
theorem dX10_init_20 : decode cX10_init 20 = .ok (.putfield 19, 3) := by decide +kernel
theorem dX10_init_23 : decode cX10_init 23 = .ok (.aload_n 0, 1) := by decide +kernel
theorem dX10_init_24 : decode cX10_init 24 = .ok (.iconst 0, 1) := by decide +kernel
theorem dX10_init_25 : decode cX10_init 25 = .ok (.putfield 22, 3) := by decide +kernel
theorem dX10_init_28 : decode cX10_init 28 = .ok (.aload_n 0, 1) := by decide +kernel
theorem dX10_init_29 : decode cX10_init 29 = .ok (.iconst 0, 1) := by decide +kernel
theorem dX10_init_30 : decode cX10_init 30 = .ok (.putfield 25, 3) := by decide +kernel
