theorem dX11_next_132 : decode cX11_next 132 = .ok (.putfield 153, 3) := by decide +kernel
theorem dX11_next_135 : decode cX11_next 135 = .ok (.aload_n 0, 1) := by decide +kernel
theorem dX11_next_136 : decode cX11_next 136 = .ok (.dup, 1) := by decide +kernel
theorem dX11_next_137 : decode cX11_next 137 = .ok (.getfield 21, 3) := by decide +kernel
theorem dX11_next_140 : decode cX11_next 140 = .ok (.iconst 1, 1) := by decide +kernel
theorem dX11_next_141 : decode cX11_next 141 = .ok (.iadd, 1) := by decide +kernel
theorem dX11_next_142 : decode cX11_next 142 = .ok (.putfield 21, 3) := by decide +kernel
theorem dX11_next_145 : decode cX11_next 145 = .ok (.return_, 1) := by decide +kernel
theorem dX11_next_146 : decode cX11_next 146 = .ok (.iload_n 1, 1) := by decide +kernel
theorem dX11_next_147 : decode cX11_next 147 = .ok (.invokestatic 146, 3) := by decide +kernel
theorem dX11_next_150 : decode cX11_next 150 = .ok (.istore_n 2, 1) := by decide +kernel
theorem dX11_next_151 : decode cX11_next 151 = .ok (.iconst 1, 1) := by decide +kernel
theorem dX11_next_152 : decode cX11_next 152 = .ok (.istore_n 3, 1) := by decide +kernel
theorem dX11_next_153 : decode cX11_next 153 = .ok (.aload_n 0, 1) := by decide +kernel
theorem dX11_next_154 : decode cX11_next 154 = .ok (.lconst 0, 1) := by decide +kernel
theorem dX11_next_155 : decode cX11_next 155 = .ok (.putfield 156, 3) := by decide +kernel
theorem dX11_next_158 : decode cX11_next 158 = .ok (.aload_n 0, 1) := by decide +kernel
theorem dX11_next_159 : decode cX11_next 159 = .ok (.iconst 0, 1) := by decide +kernel
theorem dX11_next_160 : decode cX11_next 160 = .ok (.putfield 153, 3) := by decide +kernel
theorem dX11_next_163 : decode cX11_next 163 = .ok (.aload_n 0, 1) := by decide +kernel
theorem dX11_next_164 : decode cX11_next 164 = .ok (.invokevirtual 133, 3) := by decide +kernel
theorem dX11_next_167 : decode cX11_next 167 = .ok (.invokestatic 146, 3) := by decide +kernel
theorem dX11_next_170 : decode cX11_next 170 = .ok (.ifCond .ne 13, 3) := by decide +kernel
theorem dX11_next_173 : decode cX11_next 173 = .ok (.aload_n 0, 1) := by decide +kernel
theorem dX11_next_174 : decode cX11_next 174 = .ok (.invokevirtual 133, 3) := by decide +kernel
theorem dX11_next_177 : decode cX11_next 177 = .ok (.invokestatic 150, 3) := by decide +kernel
theorem dX11_next_180 : decode cX11_next 180 = .ok (.ifCond .eq 100, 3) := by decide +kernel
theorem dX11_next_183 : decode cX11_next 183 = .ok (.iload_n 3, 1) := by decide +kernel
theorem dX11_next_184 : decode cX11_next 184 = .ok (.ifCond .eq 18, 3) := by decide +kernel
theorem dX11_next_187 : decode cX11_next 187 = .ok (.aload_n 0, 1) := by decide +kernel
theorem dX11_next_188 : decode cX11_next 188 = .ok (.invokevirtual 133, 3) := by decide +kernel
theorem dX11_next_191 : decode cX11_next 191 = .ok (.invokestatic 146, 3) := by decide +kernel
theorem dX11_next_194 : decode cX11_next 194 = .ok (.iload_n 2, 1) := by decide +kernel
theorem dX11_next_195 : decode cX11_next 195 = .ok (.if_icmp .ne 7, 3) := by decide +kernel
theorem dX11_next_198 : decode cX11_next 198 = .ok (.iconst 1, 1) := by decide +kernel
theorem dX11_next_199 : decode cX11_next 199 = .ok (.goto 4, 3) := by decide +kernel
theorem dX11_next_202 : decode cX11_next 202 = .ok (.iconst 0, 1) := by decide +kernel
theorem dX11_next_203 : decode cX11_next 203 = .ok (.istore_n 3, 1) := by decide +kernel
theorem dX11_next_204 : decode cX11_next 204 = .ok (.aload_n 0, 1) := by decide +kernel
theorem dX11_next_205 : decode cX11_next 205 = .ok (.getfield 140, 3) := by decide +kernel
theorem dX11_next_208 : decode cX11_next 208 = .ok (.bipush 7, 2) := by decide +kernel
theorem dX11_next_210 : decode cX11_next 210 = .ok (.if_icmp .ge 20, 3) := by decide +kernel
theorem dX11_next_213 : decode cX11_next 213 = .ok (.aload_n 0, 1) := by decide +kernel
theorem dX11_next_214 : decode cX11_next 214 = .ok (.aload_n 0, 1) := by decide +kernel
theorem dX11_next_215 : decode cX11_next 215 = .ok (.getfield 156, 3) := by decide +kernel
theorem dX11_next_218 : decode cX11_next 218 = .ok (.bipush 8, 2) := by decide +kernel
theorem dX11_next_220 : decode cX11_next 220 = .ok (.lshl, 1) := by decide +kernel
theorem dX11_next_221 : decode cX11_next 221 = .ok (.aload_n 0, 1) := by decide +kernel
theorem dX11_next_222 : decode cX11_next 222 = .ok (.invokevirtual 133, 3) := by decide +kernel
theorem dX11_next_225 : decode cX11_next 225 = .ok (.i2l, 1) := by decide +kernel
theorem dX11_next_226 : decode cX11_next 226 = .ok (.lor, 1) := by decide +kernel
theorem dX11_next_227 : decode cX11_next 227 = .ok (.putfield 156, 3) := by decide +kernel
theorem dX11_next_230 : decode cX11_next 230 = .ok (.aload_n 0, 1) := by decide +kernel
theorem dX11_next_231 : decode cX11_next 231 = .ok (.getfield 140, 3) := by decide +kernel
theorem dX11_next_234 : decode cX11_next 234 = .ok (.iconst 3, 1) := by decide +kernel
theorem dX11_next_235 : decode cX11_next 235 = .ok (.if_icmp .ge 22, 3) := by decide +kernel
theorem dX11_next_238 : decode cX11_next 238 = .ok (.aload_n 0, 1) := by decide +kernel
theorem dX11_next_239 : decode cX11_next 239 = .ok (.bipush 10, 2) := by decide +kernel
theorem dX11_next_241 : decode cX11_next 241 = .ok (.aload_n 0, 1) := by decide +kernel
theorem dX11_next_242 : decode cX11_next 242 = .ok (.getfield 153, 3) := by decide +kernel
theorem dX11_next_245 : decode cX11_next 245 = .ok (.imul, 1) := by decide +kernel
theorem dX11_next_246 : decode cX11_next 246 = .ok (.aload_n 0, 1) := by decide +kernel
theorem dX11_next_247 : decode cX11_next 247 = .ok (.invokevirtual 133, 3) := by decide +kernel
theorem dX11_next_250 : decode cX11_next 250 = .ok (.iadd, 1) := by decide +kernel
theorem dX11_next_251 : decode cX11_next 251 = .ok (.bipush 48, 2) := by decide +kernel
theorem dX11_next_253 : decode cX11_next 253 = .ok (.isub, 1) := by decide +kernel
theorem dX11_next_254 : decode cX11_next 254 = .ok (.putfield 153, 3) := by decide +kernel
theorem dX11_next_257 : decode cX11_next 257 = .ok (.aload_n 0, 1) := by decide +kernel
theorem dX11_next_258 : decode cX11_next 258 = .ok (.dup, 1) := by decide +kernel
theorem dX11_next_259 : decode cX11_next 259 = .ok (.getfield 140, 3) := by decide +kernel
theorem dX11_next_262 : decode cX11_next 262 = .ok (.iconst 1, 1) := by decide +kernel
theorem dX11_next_263 : decode cX11_next 263 = .ok (.iadd, 1) := by decide +kernel
theorem dX11_next_264 : decode cX11_next 264 = .ok (.putfield 140, 3) := by decide +kernel
theorem dX11_next_267 : decode cX11_next 267 = .ok (.aload_n 0, 1) := by decide +kernel
theorem dX11_next_268 : decode cX11_next 268 = .ok (.dup, 1) := by decide +kernel
theorem dX11_next_269 : decode cX11_next 269 = .ok (.getfield 21, 3) := by decide +kernel
theorem dX11_next_272 : decode cX11_next 272 = .ok (.iconst 1, 1) := by decide +kernel
theorem dX11_next_273 : decode cX11_next 273 = .ok (.iadd, 1) := by decide +kernel
theorem dX11_next_274 : decode cX11_next 274 = .ok (.putfield 21, 3) := by decide +kernel
theorem dX11_next_277 : decode cX11_next 277 = .ok (.goto (-114), 3) := by decide +kernel
theorem dX11_next_280 : decode cX11_next 280 = .ok (.aload_n 0, 1) := by decide +kernel
theorem dX11_next_281 : decode cX11_next 281 = .ok (.iload_n 3, 1) := by decide +kernel
theorem dX11_next_282 : decode cX11_next 282 = .ok (.ifCond .eq 20, 3) := by decide +kernel
theorem dX11_next_285 : decode cX11_next 285 = .ok (.aload_n 0, 1) := by decide +kernel
theorem dX11_next_286 : decode cX11_next 286 = .ok (.getfield 140, 3) := by decide +kernel
theorem dX11_next_289 : decode cX11_next 289 = .ok (.iload_n 2, 1) := by decide +kernel
theorem dX11_next_290 : decode cX11_next 290 = .ok (.ifCond .eq 8, 3) := by decide +kernel
theorem dX11_next_293 : decode cX11_next 293 = .ok (.bipush 7, 2) := by decide +kernel
theorem dX11_next_295 : decode cX11_next 295 = .ok (.goto 4, 3) := by decide +kernel
theorem dX11_next_298 : decode cX11_next 298 = .ok (.iconst 3, 1) := by decide +kernel
theorem dX11_next_299 : decode cX11_next 299 = .ok (.if_icmp .le 7, 3) := by decide +kernel
theorem dX11_next_302 : decode cX11_next 302 = .ok (.iconst 4, 1) := by decide +kernel
theorem dX11_next_303 : decode cX11_next 303 = .ok (.goto 12, 3) := by decide +kernel
theorem dX11_next_306 : decode cX11_next 306 = .ok (.iload_n 2, 1) := by decide +kernel
theorem dX11_next_307 : decode cX11_next 307 = .ok (.ifCond .eq 7, 3) := by decide +kernel
theorem dX11_next_310 : decode cX11_next 310 = .ok (.iconst 1, 1) := by decide +kernel
theorem dX11_next_311 : decode cX11_next 311 = .ok (.goto 4, 3) := by decide +kernel
theorem dX11_next_314 : decode cX11_next 314 = .ok (.iconst 2, 1) := by decide +kernel
theorem dX11_next_315 : decode cX11_next 315 = .ok (.putfield 143, 3) := by decide +kernel
theorem dX11_next_318 : decode cX11_next 318 = .ok (.return_, 1) := by decide +kernel
theorem dX11_bad_0 : decode cX11_bad 0 = .ok (.aload_n 0, 1) := by decide +kernel
theorem dX11_bad_1 : decode cX11_bad 1 = .ok (.iload_n 1, 1) := by decide +kernel
theorem dX11_bad_2 : decode cX11_bad 2 = .ok (.putfield 160, 3) := by decide +kernel
theorem dX11_bad_5 : decode cX11_bad 5 = .ok (.aload_n 0, 1) := by decide +kernel
theorem dX11_bad_6 : decode cX11_bad 6 = .ok (.aload_n 0, 1) := by decide +kernel
theorem dX11_bad_7 : decode cX11_bad 7 = .ok (.getfield 137, 3) := by decide +kernel
theorem dX11_bad_10 : decode cX11_bad 10 = .ok (.putfield 163, 3) := by decide +kernel
theorem dX11_bad_13 : decode cX11_bad 13 = .ok (.iconst 0, 1) := by decide +kernel
theorem dX11_bad_14 : decode cX11_bad 14 = .ok (.ireturn, 1) := by decide +kernel
theorem dX11_isWord_0 : decode cX11_isWord 0 = .ok (.aload_n 0, 1) := by decide +kernel
theorem dX11_isWord_1 : decode cX11_isWord 1 = .ok (.getfield 143, 3) := by decide +kernel
theorem dX11_isWord_4 : decode cX11_isWord 4 = .ok (.iconst 1, 1) := by decide +kernel
theorem dX11_isWord_5 : decode cX11_isWord 5 = .ok (.if_icmp .ne 16, 3) := by decide +kernel
theorem dX11_isWord_8 : decode cX11_isWord 8 = .ok (.aload_n 0, 1) := by decide +kernel
theorem dX11_isWord_9 : decode cX11_isWord 9 = .ok (.getfield 156, 3) := by decide +kernel
theorem dX11_isWord_12 : decode cX11_isWord 12 = .ok (.lload_n 1, 1) := by decide +kernel
theorem dX11_isWord_13 : decode cX11_isWord 13 = .ok (.lcmp, 1) := by decide +kernel
theorem dX11_isWord_14 : decode cX11_isWord 14 = .ok (.ifCond .ne 7, 3) := by decide +kernel
theorem dX11_isWord_17 : decode cX11_isWord 17 = .ok (.iconst 1, 1) := by decide +kernel
theorem dX11_isWord_18 : decode cX11_isWord 18 = .ok (.goto 4, 3) := by decide +kernel
theorem dX11_isWord_21 : decode cX11_isWord 21 = .ok (.iconst 0, 1) := by decide +kernel
theorem dX11_isWord_22 : decode cX11_isWord 22 = .ok (.ireturn, 1) := by decide +kernel
theorem dX11_isSign_0 : decode cX11_isSign 0 = .ok (.aload_n 0, 1) := by decide +kernel
theorem dX11_isSign_1 : decode cX11_isSign 1 = .ok (.getfield 143, 3) := by decide +kernel
theorem dX11_isSign_4 : decode cX11_isSign 4 = .ok (.iconst 3, 1) := by decide +kernel
theorem dX11_isSign_5 : decode cX11_isSign 5 = .ok (.if_icmp .ne 15, 3) := by decide +kernel
theorem dX11_isSign_8 : decode cX11_isSign 8 = .ok (.aload_n 0, 1) := by decide +kernel
theorem dX11_isSign_9 : decode cX11_isSign 9 = .ok (.getfield 153, 3) := by decide +kernel
theorem dX11_isSign_12 : decode cX11_isSign 12 = .ok (.iload_n 1, 1) := by decide +kernel
theorem dX11_isSign_13 : decode cX11_isSign 13 = .ok (.if_icmp .ne 7, 3) := by decide +kernel
theorem dX11_isSign_16 : decode cX11_isSign 16 = .ok (.iconst 1, 1) := by decide +kernel
theorem dX11_isSign_17 : decode cX11_isSign 17 = .ok (.goto 4, 3) := by decide +kernel
theorem dX11_isSign_20 : decode cX11_isSign 20 = .ok (.iconst 0, 1) := by decide +kernel
theorem dX11_isSign_21 : decode cX11_isSign 21 = .ok (.ireturn, 1) := by decide +kernel
theorem dX11_sign_0 : decode cX11_sign 0 = .ok (.aload_n 0, 1) := by decide +kernel
theorem dX11_sign_1 : decode cX11_sign 1 = .ok (.iload_n 1, 1) := by decide +kernel
theorem dX11_sign_2 : decode cX11_sign 2 = .ok (.invokevirtual 166, 3) := by decide +kernel
theorem dX11_sign_5 : decode cX11_sign 5 = .ok (.ifCond .ne 9, 3) := by decide +kernel
theorem dX11_sign_8 : decode cX11_sign 8 = .ok (.aload_n 0, 1) := by decide +kernel
theorem dX11_sign_9 : decode cX11_sign 9 = .ok (.iconst 1, 1) := by decide +kernel
theorem dX11_sign_10 : decode cX11_sign 10 = .ok (.invokevirtual 169, 3) := by decide +kernel
theorem dX11_sign_13 : decode cX11_sign 13 = .ok (.ireturn, 1) := by decide +kernel
theorem dX11_sign_14 : decode cX11_sign 14 = .ok (.aload_n 0, 1) := by decide +kernel
theorem dX11_sign_15 : decode cX11_sign 15 = .ok (.invokevirtual 172, 3) := by decide +kernel
theorem dX11_sign_18 : decode cX11_sign 18 = .ok (.iconst 1, 1) := by decide +kernel
theorem dX11_sign_19 : decode cX11_sign 19 = .ok (.ireturn, 1) := by decide +kernel
theorem dX11_isName_0 : decode cX11_isName 0 = .ok (.aload_n 0, 1) := by decide +kernel
theorem dX11_isName_1 : decode cX11_isName 1 = .ok (.getfield 143, 3) := by decide +kernel
theorem dX11_isName_4 : decode cX11_isName 4 = .ok (.iconst 1, 1) := by decide +kernel
theorem dX11_isName_5 : decode cX11_isName 5 = .ok (.if_icmp .ne 7, 3) := by decide +kernel
theorem dX11_isName_8 : decode cX11_isName 8 = .ok (.iconst 1, 1) := by decide +kernel
theorem dX11_isName_9 : decode cX11_isName 9 = .ok (.goto 4, 3) := by decide +kernel
theorem dX11_isName_12 : decode cX11_isName 12 = .ok (.iconst 0, 1) := by decide +kernel
theorem dX11_isName_13 : decode cX11_isName 13 = .ok (.istore_n 1, 1) := by decide +kernel
theorem dX11_isName_14 : decode cX11_isName 14 = .ok (.iconst 0, 1) := by decide +kernel
theorem dX11_isName_15 : decode cX11_isName 15 = .ok (.istore_n 2, 1) := by decide +kernel
theorem dX11_isName_16 : decode cX11_isName 16 = .ok (.iload_n 2, 1) := by decide +kernel
theorem dX11_isName_17 : decode cX11_isName 17 = .ok (.bipush 8, 2) := by decide +kernel
theorem dX11_isName_19 : decode cX11_isName 19 = .ok (.if_icmp .ge 33, 3) := by decide +kernel
theorem dX11_isName_22 : decode cX11_isName 22 = .ok (.iload_n 1, 1) := by decide +kernel
theorem dX11_isName_23 : decode cX11_isName 23 = .ok (.ifCond .eq 21, 3) := by decide +kernel
theorem dX11_isName_26 : decode cX11_isName 26 = .ok (.aload_n 0, 1) := by decide +kernel
theorem dX11_isName_27 : decode cX11_isName 27 = .ok (.getfield 156, 3) := by decide +kernel
theorem dX11_isName_30 : decode cX11_isName 30 = .ok (.aload_n 0, 1) := by decide +kernel
theorem dX11_isName_31 : decode cX11_isName 31 = .ok (.getfield 44, 3) := by decide +kernel
theorem dX11_isName_34 : decode cX11_isName 34 = .ok (.iload_n 2, 1) := by decide +kernel
theorem dX11_isName_35 : decode cX11_isName 35 = .ok (.laload, 1) := by decide +kernel
theorem dX11_isName_36 : decode cX11_isName 36 = .ok (.lcmp, 1) := by decide +kernel
theorem dX11_isName_37 : decode cX11_isName 37 = .ok (.ifCond .eq 7, 3) := by decide +kernel
theorem dX11_isName_40 : decode cX11_isName 40 = .ok (.iconst 1, 1) := by decide +kernel
theorem dX11_isName_41 : decode cX11_isName 41 = .ok (.goto 4, 3) := by decide +kernel
theorem dX11_isName_44 : decode cX11_isName 44 = .ok (.iconst 0, 1) := by decide +kernel
theorem dX11_isName_45 : decode cX11_isName 45 = .ok (.istore_n 1, 1) := by decide +kernel
theorem dX11_isName_46 : decode cX11_isName 46 = .ok (.iinc 2 1, 3) := by decide +kernel
theorem dX11_isName_49 : decode cX11_isName 49 = .ok (.goto (-33), 3) := by decide +kernel
theorem dX11_isName_52 : decode cX11_isName 52 = .ok (.iload_n 1, 1) := by decide +kernel
theorem dX11_isName_53 : decode cX11_isName 53 = .ok (.ireturn, 1) := by decide +kernel
theorem dX11_takes_0 : decode cX11_takes 0 = .ok (.aload_n 0, 1) := by decide +kernel
theorem dX11_takes_1 : decode cX11_takes 1 = .ok (.getfield 143, 3) := by decide +kernel
theorem dX11_takes_4 : decode cX11_takes 4 = .ok (.iconst 2, 1) := by decide +kernel
theorem dX11_takes_5 : decode cX11_takes 5 = .ok (.if_icmp .eq 9, 3) := by decide +kernel
theorem dX11_takes_8 : decode cX11_takes 8 = .ok (.aload_n 0, 1) := by decide +kernel
theorem dX11_takes_9 : decode cX11_takes 9 = .ok (.iconst 1, 1) := by decide +kernel
theorem dX11_takes_10 : decode cX11_takes 10 = .ok (.invokevirtual 169, 3) := by decide +kernel
theorem dX11_takes_13 : decode cX11_takes 13 = .ok (.ireturn, 1) := by decide +kernel
theorem dX11_takes_14 : decode cX11_takes 14 = .ok (.aload_n 0, 1) := by decide +kernel
theorem dX11_takes_15 : decode cX11_takes 15 = .ok (.getfield 153, 3) := by decide +kernel
theorem dX11_takes_18 : decode cX11_takes 18 = .ok (.iload_n 1, 1) := by decide +kernel
theorem dX11_takes_19 : decode cX11_takes 19 = .ok (.iload_n 2, 1) := by decide +kernel
theorem dX11_takes_20 : decode cX11_takes 20 = .ok (.invokestatic 175, 3) := by decide +kernel
theorem dX11_takes_23 : decode cX11_takes 23 = .ok (.ifCond .ne 9, 3) := by decide +kernel
theorem dX11_takes_26 : decode cX11_takes 26 = .ok (.aload_n 0, 1) := by decide +kernel
theorem dX11_takes_27 : decode cX11_takes 27 = .ok (.iconst 2, 1) := by decide +kernel
theorem dX11_takes_28 : decode cX11_takes 28 = .ok (.invokevirtual 169, 3) := by decide +kernel
theorem dX11_takes_31 : decode cX11_takes 31 = .ok (.ireturn, 1) := by decide +kernel
theorem dX11_takes_32 : decode cX11_takes 32 = .ok (.aload_n 0, 1) := by decide +kernel
theorem dX11_takes_33 : decode cX11_takes 33 = .ok (.aload_n 0, 1) := by decide +kernel
theorem dX11_takes_34 : decode cX11_takes 34 = .ok (.getfield 153, 3) := by decide +kernel
theorem dX11_takes_37 : decode cX11_takes 37 = .ok (.putfield 179, 3) := by decide +kernel
theorem dX11_takes_40 : decode cX11_takes 40 = .ok (.aload_n 0, 1) := by decide +kernel
theorem dX11_takes_41 : decode cX11_takes 41 = .ok (.invokevirtual 172, 3) := by decide +kernel
theorem dX11_takes_44 : decode cX11_takes 44 = .ok (.iconst 1, 1) := by decide +kernel
theorem dX11_takes_45 : decode cX11_takes 45 = .ok (.ireturn, 1) := by decide +kernel
theorem dX11_find_0 : decode cX11_find 0 = .ok (.iconst 0, 1) := by decide +kernel
theorem dX11_find_1 : decode cX11_find 1 = .ok (.istore_n 3, 1) := by decide +kernel
theorem dX11_find_2 : decode cX11_find 2 = .ok (.iload_n 3, 1) := by decide +kernel
theorem dX11_find_3 : decode cX11_find 3 = .ok (.iload_n 2, 1) := by decide +kernel
theorem dX11_find_4 : decode cX11_find 4 = .ok (.if_icmp .ge 27, 3) := by decide +kernel
theorem dX11_find_7 : decode cX11_find 7 = .ok (.aload_n 0, 1) := by decide +kernel
theorem dX11_find_8 : decode cX11_find 8 = .ok (.getfield 40, 3) := by decide +kernel
theorem dX11_find_11 : decode cX11_find 11 = .ok (.iload_n 1, 1) := by decide +kernel
theorem dX11_find_12 : decode cX11_find 12 = .ok (.iload_n 3, 1) := by decide +kernel
theorem dX11_find_13 : decode cX11_find 13 = .ok (.iadd, 1) := by decide +kernel
theorem dX11_find_14 : decode cX11_find 14 = .ok (.laload, 1) := by decide +kernel
theorem dX11_find_15 : decode cX11_find 15 = .ok (.aload_n 0, 1) := by decide +kernel
theorem dX11_find_16 : decode cX11_find 16 = .ok (.getfield 156, 3) := by decide +kernel
theorem dX11_find_19 : decode cX11_find 19 = .ok (.lcmp, 1) := by decide +kernel
theorem dX11_find_20 : decode cX11_find 20 = .ok (.ifCond .ne 5, 3) := by decide +kernel
theorem dX11_find_23 : decode cX11_find 23 = .ok (.iload_n 3, 1) := by decide +kernel
theorem dX11_find_24 : decode cX11_find 24 = .ok (.ireturn, 1) := by decide +kernel
theorem dX11_find_25 : decode cX11_find 25 = .ok (.iinc 3 1, 3) := by decide +kernel
theorem dX11_find_28 : decode cX11_find 28 = .ok (.goto (-26), 3) := by decide +kernel
theorem dX11_find_31 : decode cX11_find 31 = .ok (.iconst (-1), 1) := by decide +kernel
theorem dX11_find_32 : decode cX11_find 32 = .ok (.ireturn, 1) := by decide +kernel
theorem dX11_fresh_0 : decode cX11_fresh 0 = .ok (.aload_n 0, 1) := by decide +kernel
theorem dX11_fresh_1 : decode cX11_fresh 1 = .ok (.invokevirtual 182, 3) := by decide +kernel
theorem dX11_fresh_4 : decode cX11_fresh 4 = .ok (.ifCond .ne 9, 3) := by decide +kernel
theorem dX11_fresh_7 : decode cX11_fresh 7 = .ok (.aload_n 0, 1) := by decide +kernel
theorem dX11_fresh_8 : decode cX11_fresh 8 = .ok (.iconst 1, 1) := by decide +kernel
theorem dX11_fresh_9 : decode cX11_fresh 9 = .ok (.invokevirtual 169, 3) := by decide +kernel
theorem dX11_fresh_12 : decode cX11_fresh 12 = .ok (.ireturn, 1) := by decide +kernel
theorem dX11_fresh_13 : decode cX11_fresh 13 = .ok (.aload_n 0, 1) := by decide +kernel
theorem dX11_fresh_14 : decode cX11_fresh 14 = .ok (.bipush 10, 2) := by decide +kernel
theorem dX11_fresh_16 : decode cX11_fresh 16 = .ok (.aload_n 0, 1) := by decide +kernel
theorem dX11_fresh_17 : decode cX11_fresh 17 = .ok (.getfield 37, 3) := by decide +kernel
theorem dX11_fresh_20 : decode cX11_fresh 20 = .ok (.iconst 2, 1) := by decide +kernel
theorem dX11_fresh_21 : decode cX11_fresh 21 = .ok (.iaload, 1) := by decide +kernel
theorem dX11_fresh_22 : decode cX11_fresh 22 = .ok (.invokevirtual 186, 3) := by decide +kernel
theorem dX11_fresh_25 : decode cX11_fresh 25 = .ok (.ifCond .ge 18, 3) := by decide +kernel
theorem dX11_fresh_28 : decode cX11_fresh 28 = .ok (.aload_n 0, 1) := by decide +kernel
theorem dX11_fresh_29 : decode cX11_fresh 29 = .ok (.bipush 16, 2) := by decide +kernel
theorem dX11_fresh_31 : decode cX11_fresh 31 = .ok (.aload_n 0, 1) := by decide +kernel
theorem dX11_fresh_32 : decode cX11_fresh 32 = .ok (.getfield 37, 3) := by decide +kernel
theorem dX11_fresh_35 : decode cX11_fresh 35 = .ok (.iconst 3, 1) := by decide +kernel
theorem dX11_fresh_36 : decode cX11_fresh 36 = .ok (.iaload, 1) := by decide +kernel
theorem dX11_fresh_37 : decode cX11_fresh 37 = .ok (.invokevirtual 186, 3) := by decide +kernel
theorem dX11_fresh_40 : decode cX11_fresh 40 = .ok (.ifCond .lt 9, 3) := by decide +kernel
theorem dX11_fresh_43 : decode cX11_fresh 43 = .ok (.aload_n 0, 1) := by decide +kernel
theorem dX11_fresh_44 : decode cX11_fresh 44 = .ok (.iconst 3, 1) := by decide +kernel
theorem dX11_fresh_45 : decode cX11_fresh 45 = .ok (.invokevirtual 169, 3) := by decide +kernel
theorem dX11_fresh_48 : decode cX11_fresh 48 = .ok (.ireturn, 1) := by decide +kernel
theorem dX11_fresh_49 : decode cX11_fresh 49 = .ok (.aload_n 0, 1) := by decide +kernel
theorem dX11_fresh_50 : decode cX11_fresh 50 = .ok (.getfield 40, 3) := by decide +kernel
theorem dX11_fresh_53 : decode cX11_fresh 53 = .ok (.iload_n 1, 1) := by decide +kernel
theorem dX11_fresh_54 : decode cX11_fresh 54 = .ok (.aload_n 0, 1) := by decide +kernel
theorem dX11_fresh_55 : decode cX11_fresh 55 = .ok (.getfield 156, 3) := by decide +kernel
theorem dX11_fresh_58 : decode cX11_fresh 58 = .ok (.lastore, 1) := by decide +kernel
theorem dX11_fresh_59 : decode cX11_fresh 59 = .ok (.aload_n 0, 1) := by decide +kernel
theorem dX11_fresh_60 : decode cX11_fresh 60 = .ok (.invokevirtual 172, 3) := by decide +kernel
theorem dX11_fresh_63 : decode cX11_fresh 63 = .ok (.iconst 1, 1) := by decide +kernel
theorem dX11_fresh_64 : decode cX11_fresh 64 = .ok (.ireturn, 1) := by decide +kernel
theorem dX11_line_0 : decode cX11_line 0 = .ok (.aload_n 0, 1) := by decide +kernel
theorem dX11_line_1 : decode cX11_line 1 = .ok (.ldc2_w 114, 3) := by decide +kernel
theorem dX11_line_4 : decode cX11_line 4 = .ok (.invokevirtual 190, 3) := by decide +kernel
theorem dX11_line_7 : decode cX11_line 7 = .ok (.ifCond .eq 58, 3) := by decide +kernel
theorem dX11_line_10 : decode cX11_line 10 = .ok (.aload_n 0, 1) := by decide +kernel
theorem dX11_line_11 : decode cX11_line 11 = .ok (.getfield 194, 3) := by decide +kernel
theorem dX11_line_14 : decode cX11_line 14 = .ok (.ifCond .ne 12, 3) := by decide +kernel
theorem dX11_line_17 : decode cX11_line 17 = .ok (.aload_n 0, 1) := by decide +kernel
theorem dX11_line_18 : decode cX11_line 18 = .ok (.getfield 37, 3) := by decide +kernel
theorem dX11_line_21 : decode cX11_line 21 = .ok (.iconst 2, 1) := by decide +kernel
theorem dX11_line_22 : decode cX11_line 22 = .ok (.iaload, 1) := by decide +kernel
theorem dX11_line_23 : decode cX11_line 23 = .ok (.ifCond .le 9, 3) := by decide +kernel
theorem dX11_line_26 : decode cX11_line 26 = .ok (.aload_n 0, 1) := by decide +kernel
theorem dX11_line_27 : decode cX11_line 27 = .ok (.iconst 3, 1) := by decide +kernel
theorem dX11_line_28 : decode cX11_line 28 = .ok (.invokevirtual 169, 3) := by decide +kernel
theorem dX11_line_31 : decode cX11_line 31 = .ok (.ireturn, 1) := by decide +kernel
theorem dX11_line_32 : decode cX11_line 32 = .ok (.aload_n 0, 1) := by decide +kernel
theorem dX11_line_33 : decode cX11_line 33 = .ok (.iconst 1, 1) := by decide +kernel
theorem dX11_line_34 : decode cX11_line 34 = .ok (.putfield 194, 3) := by decide +kernel
theorem dX11_line_37 : decode cX11_line 37 = .ok (.aload_n 0, 1) := by decide +kernel
theorem dX11_line_38 : decode cX11_line 38 = .ok (.invokevirtual 172, 3) := by decide +kernel
theorem dX11_line_41 : decode cX11_line 41 = .ok (.aload_n 0, 1) := by decide +kernel
theorem dX11_line_42 : decode cX11_line 42 = .ok (.iconst 2, 1) := by decide +kernel
theorem dX11_line_43 : decode cX11_line 43 = .ok (.bipush 60, 2) := by decide +kernel
theorem dX11_line_45 : decode cX11_line 45 = .ok (.invokevirtual 198, 3) := by decide +kernel
theorem dX11_line_48 : decode cX11_line 48 = .ok (.ifCond .ne 5, 3) := by decide +kernel
theorem dX11_line_51 : decode cX11_line 51 = .ok (.iconst 0, 1) := by decide +kernel
theorem dX11_line_52 : decode cX11_line 52 = .ok (.ireturn, 1) := by decide +kernel
theorem dX11_line_53 : decode cX11_line 53 = .ok (.aload_n 0, 1) := by decide +kernel
theorem dX11_line_54 : decode cX11_line 54 = .ok (.getfield 37, 3) := by decide +kernel
theorem dX11_line_57 : decode cX11_line 57 = .ok (.iconst 0, 1) := by decide +kernel
theorem dX11_line_58 : decode cX11_line 58 = .ok (.aload_n 0, 1) := by decide +kernel
theorem dX11_line_59 : decode cX11_line 59 = .ok (.getfield 179, 3) := by decide +kernel
theorem dX11_line_62 : decode cX11_line 62 = .ok (.iastore, 1) := by decide +kernel
theorem dX11_line_63 : decode cX11_line 63 = .ok (.iconst 1, 1) := by decide +kernel
theorem dX11_line_64 : decode cX11_line 64 = .ok (.ireturn, 1) := by decide +kernel
theorem dX11_line_65 : decode cX11_line 65 = .ok (.aload_n 0, 1) := by decide +kernel
theorem dX11_line_66 : decode cX11_line 66 = .ok (.ldc2_w 116, 3) := by decide +kernel
theorem dX11_line_69 : decode cX11_line 69 = .ok (.invokevirtual 190, 3) := by decide +kernel
theorem dX11_line_72 : decode cX11_line 72 = .ok (.ifCond .eq 8, 3) := by decide +kernel
theorem dX11_line_75 : decode cX11_line 75 = .ok (.aload_n 0, 1) := by decide +kernel
theorem dX11_line_76 : decode cX11_line 76 = .ok (.invokevirtual 202, 3) := by decide +kernel
theorem dX11_line_79 : decode cX11_line 79 = .ok (.ireturn, 1) := by decide +kernel
theorem dX11_line_80 : decode cX11_line 80 = .ok (.aload_n 0, 1) := by decide +kernel
theorem dX11_line_81 : decode cX11_line 81 = .ok (.ldc2_w 120, 3) := by decide +kernel
theorem dX11_line_84 : decode cX11_line 84 = .ok (.invokevirtual 190, 3) := by decide +kernel
theorem dX11_line_87 : decode cX11_line 87 = .ok (.ifCond .eq 8, 3) := by decide +kernel
theorem dX11_line_90 : decode cX11_line 90 = .ok (.aload_n 0, 1) := by decide +kernel
theorem dX11_line_91 : decode cX11_line 91 = .ok (.invokevirtual 205, 3) := by decide +kernel
theorem dX11_line_94 : decode cX11_line 94 = .ok (.ireturn, 1) := by decide +kernel
theorem dX11_line_95 : decode cX11_line 95 = .ok (.aload_n 0, 1) := by decide +kernel
theorem dX11_line_96 : decode cX11_line 96 = .ok (.ldc2_w 126, 3) := by decide +kernel
theorem dX11_line_99 : decode cX11_line 99 = .ok (.invokevirtual 190, 3) := by decide +kernel
theorem dX11_line_102 : decode cX11_line 102 = .ok (.ifCond .eq 102, 3) := by decide +kernel
theorem dX11_line_105 : decode cX11_line 105 = .ok (.aload_n 0, 1) := by decide +kernel
theorem dX11_line_106 : decode cX11_line 106 = .ok (.getfield 37, 3) := by decide +kernel
theorem dX11_line_109 : decode cX11_line 109 = .ok (.iconst 3, 1) := by decide +kernel
theorem dX11_line_110 : decode cX11_line 110 = .ok (.iaload, 1) := by decide +kernel
theorem dX11_line_111 : decode cX11_line 111 = .ok (.istore_n 1, 1) := by decide +kernel
theorem dX11_line_112 : decode cX11_line 112 = .ok (.iload_n 1, 1) := by decide +kernel
theorem dX11_line_113 : decode cX11_line 113 = .ok (.iconst 4, 1) := by decide +kernel
theorem dX11_line_114 : decode cX11_line 114 = .ok (.if_icmp .ne 9, 3) := by decide +kernel
theorem dX11_line_117 : decode cX11_line 117 = .ok (.aload_n 0, 1) := by decide +kernel
theorem dX11_line_118 : decode cX11_line 118 = .ok (.iconst 4, 1) := by decide +kernel
theorem dX11_line_119 : decode cX11_line 119 = .ok (.invokevirtual 169, 3) := by decide +kernel
theorem dX11_line_122 : decode cX11_line 122 = .ok (.ireturn, 1) := by decide +kernel
theorem dX11_line_123 : decode cX11_line 123 = .ok (.aload_n 0, 1) := by decide +kernel
theorem dX11_line_124 : decode cX11_line 124 = .ok (.invokevirtual 172, 3) := by decide +kernel
theorem dX11_line_127 : decode cX11_line 127 = .ok (.aload_n 0, 1) := by decide +kernel
theorem dX11_line_128 : decode cX11_line 128 = .ok (.bipush 16, 2) := by decide +kernel
theorem dX11_line_130 : decode cX11_line 130 = .ok (.iload_n 1, 1) := by decide +kernel
theorem dX11_line_131 : decode cX11_line 131 = .ok (.iadd, 1) := by decide +kernel
theorem dX11_line_132 : decode cX11_line 132 = .ok (.invokevirtual 208, 3) := by decide +kernel
theorem dX11_line_135 : decode cX11_line 135 = .ok (.ifCond .ne 5, 3) := by decide +kernel
theorem dX11_line_138 : decode cX11_line 138 = .ok (.iconst 0, 1) := by decide +kernel
theorem dX11_line_139 : decode cX11_line 139 = .ok (.ireturn, 1) := by decide +kernel
theorem dX11_line_140 : decode cX11_line 140 = .ok (.aload_n 0, 1) := by decide +kernel
theorem dX11_line_141 : decode cX11_line 141 = .ok (.iconst 0, 1) := by decide +kernel
theorem dX11_line_142 : decode cX11_line 142 = .ok (.invokevirtual 211, 3) := by decide +kernel
theorem dX11_line_145 : decode cX11_line 145 = .ok (.ifCond .ne 5, 3) := by decide +kernel
theorem dX11_line_148 : decode cX11_line 148 = .ok (.iconst 0, 1) := by decide +kernel
theorem dX11_line_149 : decode cX11_line 149 = .ok (.ireturn, 1) := by decide +kernel
theorem dX11_line_150 : decode cX11_line 150 = .ok (.aload_n 0, 1) := by decide +kernel
theorem dX11_line_151 : decode cX11_line 151 = .ok (.getfield 37, 3) := by decide +kernel
theorem dX11_line_154 : decode cX11_line 154 = .ok (.bipush 50, 2) := by decide +kernel
theorem dX11_line_156 : decode cX11_line 156 = .ok (.iconst 2, 1) := by decide +kernel
theorem dX11_line_157 : decode cX11_line 157 = .ok (.iload_n 1, 1) := by decide +kernel
theorem dX11_line_158 : decode cX11_line 158 = .ok (.imul, 1) := by decide +kernel
theorem dX11_line_159 : decode cX11_line 159 = .ok (.iadd, 1) := by decide +kernel
theorem dX11_line_160 : decode cX11_line 160 = .ok (.aload_n 0, 1) := by decide +kernel
theorem dX11_line_161 : decode cX11_line 161 = .ok (.getfield 179, 3) := by decide +kernel
theorem dX11_line_164 : decode cX11_line 164 = .ok (.iastore, 1) := by decide +kernel
theorem dX11_line_165 : decode cX11_line 165 = .ok (.aload_n 0, 1) := by decide +kernel
theorem dX11_line_166 : decode cX11_line 166 = .ok (.iconst 0, 1) := by decide +kernel
theorem dX11_line_167 : decode cX11_line 167 = .ok (.invokevirtual 211, 3) := by decide +kernel
theorem dX11_line_170 : decode cX11_line 170 = .ok (.ifCond .ne 5, 3) := by decide +kernel
theorem dX11_line_173 : decode cX11_line 173 = .ok (.iconst 0, 1) := by decide +kernel
theorem dX11_line_174 : decode cX11_line 174 = .ok (.ireturn, 1) := by decide +kernel
theorem dX11_line_175 : decode cX11_line 175 = .ok (.aload_n 0, 1) := by decide +kernel
theorem dX11_line_176 : decode cX11_line 176 = .ok (.getfield 37, 3) := by decide +kernel
theorem dX11_line_179 : decode cX11_line 179 = .ok (.bipush 50, 2) := by decide +kernel
theorem dX11_line_181 : decode cX11_line 181 = .ok (.iconst 2, 1) := by decide +kernel
theorem dX11_line_182 : decode cX11_line 182 = .ok (.iload_n 1, 1) := by decide +kernel
theorem dX11_line_183 : decode cX11_line 183 = .ok (.imul, 1) := by decide +kernel
theorem dX11_line_184 : decode cX11_line 184 = .ok (.iadd, 1) := by decide +kernel
theorem dX11_line_185 : decode cX11_line 185 = .ok (.iconst 1, 1) := by decide +kernel
theorem dX11_line_186 : decode cX11_line 186 = .ok (.iadd, 1) := by decide +kernel
theorem dX11_line_187 : decode cX11_line 187 = .ok (.aload_n 0, 1) := by decide +kernel
theorem dX11_line_188 : decode cX11_line 188 = .ok (.getfield 179, 3) := by decide +kernel
theorem dX11_line_191 : decode cX11_line 191 = .ok (.iastore, 1) := by decide +kernel
theorem dX11_line_192 : decode cX11_line 192 = .ok (.aload_n 0, 1) := by decide +kernel
theorem dX11_line_193 : decode cX11_line 193 = .ok (.getfield 37, 3) := by decide +kernel
theorem dX11_line_196 : decode cX11_line 196 = .ok (.iconst 3, 1) := by decide +kernel
theorem dX11_line_197 : decode cX11_line 197 = .ok (.dup2, 1) := by decide +kernel
theorem dX11_line_198 : decode cX11_line 198 = .ok (.iaload, 1) := by decide +kernel
theorem dX11_line_199 : decode cX11_line 199 = .ok (.iconst 1, 1) := by decide +kernel
theorem dX11_line_200 : decode cX11_line 200 = .ok (.iadd, 1) := by decide +kernel
theorem dX11_line_201 : decode cX11_line 201 = .ok (.iastore, 1) := by decide +kernel
theorem dX11_line_202 : decode cX11_line 202 = .ok (.iconst 1, 1) := by decide +kernel
theorem dX11_line_203 : decode cX11_line 203 = .ok (.ireturn, 1) := by decide +kernel
theorem dX11_line_204 : decode cX11_line 204 = .ok (.aload_n 0, 1) := by decide +kernel
theorem dX11_line_205 : decode cX11_line 205 = .ok (.ldc2_w 128, 3) := by decide +kernel
theorem dX11_line_208 : decode cX11_line 208 = .ok (.invokevirtual 190, 3) := by decide +kernel
theorem dX11_line_211 : decode cX11_line 211 = .ok (.ifCond .eq 10, 3) := by decide +kernel
theorem dX11_line_214 : decode cX11_line 214 = .ok (.aload_n 0, 1) := by decide +kernel
theorem dX11_line_215 : decode cX11_line 215 = .ok (.invokevirtual 215, 3) := by decide +kernel
theorem dX11_line_218 : decode cX11_line 218 = .ok (.goto 8, 3) := by decide +kernel
theorem dX11_line_221 : decode cX11_line 221 = .ok (.aload_n 0, 1) := by decide +kernel
theorem dX11_line_222 : decode cX11_line 222 = .ok (.iconst 1, 1) := by decide +kernel
theorem dX11_line_223 : decode cX11_line 223 = .ok (.invokevirtual 169, 3) := by decide +kernel
theorem dX11_line_226 : decode cX11_line 226 = .ok (.ireturn, 1) := by decide +kernel
theorem dX11_takesSigned_0 : decode cX11_takesSigned 0 = .ok (.aload_n 0, 1) := by decide +kernel
theorem dX11_takesSigned_1 : decode cX11_takesSigned 1 = .ok (.bipush 45, 2) := by decide +kernel
theorem dX11_takesSigned_3 : decode cX11_takesSigned 3 = .ok (.invokevirtual 166, 3) := by decide +kernel
theorem dX11_takesSigned_6 : decode cX11_takesSigned 6 = .ok (.istore_n 2, 1) := by decide +kernel
theorem dX11_takesSigned_7 : decode cX11_takesSigned 7 = .ok (.iload_n 2, 1) := by decide +kernel
theorem dX11_takesSigned_8 : decode cX11_takesSigned 8 = .ok (.ifCond .eq 7, 3) := by decide +kernel
theorem dX11_takesSigned_11 : decode cX11_takesSigned 11 = .ok (.aload_n 0, 1) := by decide +kernel
theorem dX11_takesSigned_12 : decode cX11_takesSigned 12 = .ok (.invokevirtual 172, 3) := by decide +kernel
theorem dX11_takesSigned_15 : decode cX11_takesSigned 15 = .ok (.aload_n 0, 1) := by decide +kernel
theorem dX11_takesSigned_16 : decode cX11_takesSigned 16 = .ok (.getfield 143, 3) := by decide +kernel
theorem dX11_takesSigned_19 : decode cX11_takesSigned 19 = .ok (.iconst 2, 1) := by decide +kernel
theorem dX11_takesSigned_20 : decode cX11_takesSigned 20 = .ok (.if_icmp .eq 9, 3) := by decide +kernel
theorem dX11_takesSigned_23 : decode cX11_takesSigned 23 = .ok (.aload_n 0, 1) := by decide +kernel
theorem dX11_takesSigned_24 : decode cX11_takesSigned 24 = .ok (.iconst 1, 1) := by decide +kernel
theorem dX11_takesSigned_25 : decode cX11_takesSigned 25 = .ok (.invokevirtual 169, 3) := by decide +kernel
theorem dX11_takesSigned_28 : decode cX11_takesSigned 28 = .ok (.ireturn, 1) := by decide +kernel
theorem dX11_takesSigned_29 : decode cX11_takesSigned 29 = .ok (.aload_n 0, 1) := by decide +kernel
theorem dX11_takesSigned_30 : decode cX11_takesSigned 30 = .ok (.getfield 153, 3) := by decide +kernel
theorem dX11_takesSigned_33 : decode cX11_takesSigned 33 = .ok (.bipush 99, 2) := by decide +kernel
theorem dX11_takesSigned_35 : decode cX11_takesSigned 35 = .ok (.if_icmp .gt 14, 3) := by decide +kernel
theorem dX11_takesSigned_38 : decode cX11_takesSigned 38 = .ok (.iload_n 1, 1) := by decide +kernel
theorem dX11_takesSigned_39 : decode cX11_takesSigned 39 = .ok (.ifCond .eq 16, 3) := by decide +kernel
theorem dX11_takesSigned_42 : decode cX11_takesSigned 42 = .ok (.aload_n 0, 1) := by decide +kernel
theorem dX11_takesSigned_43 : decode cX11_takesSigned 43 = .ok (.getfield 153, 3) := by decide +kernel
theorem dX11_takesSigned_46 : decode cX11_takesSigned 46 = .ok (.ifCond .ne 9, 3) := by decide +kernel
theorem dX11_takesSigned_49 : decode cX11_takesSigned 49 = .ok (.aload_n 0, 1) := by decide +kernel
theorem dX11_takesSigned_50 : decode cX11_takesSigned 50 = .ok (.iconst 2, 1) := by decide +kernel
theorem dX11_takesSigned_51 : decode cX11_takesSigned 51 = .ok (.invokevirtual 169, 3) := by decide +kernel
theorem dX11_takesSigned_54 : decode cX11_takesSigned 54 = .ok (.ireturn, 1) := by decide +kernel
theorem dX11_takesSigned_55 : decode cX11_takesSigned 55 = .ok (.aload_n 0, 1) := by decide +kernel
theorem dX11_takesSigned_56 : decode cX11_takesSigned 56 = .ok (.iload_n 2, 1) := by decide +kernel
theorem dX11_takesSigned_57 : decode cX11_takesSigned 57 = .ok (.ifCond .eq 11, 3) := by decide +kernel
theorem dX11_takesSigned_60 : decode cX11_takesSigned 60 = .ok (.aload_n 0, 1) := by decide +kernel
theorem dX11_takesSigned_61 : decode cX11_takesSigned 61 = .ok (.getfield 153, 3) := by decide +kernel
theorem dX11_takesSigned_64 : decode cX11_takesSigned 64 = .ok (.ineg, 1) := by decide +kernel
theorem dX11_takesSigned_65 : decode cX11_takesSigned 65 = .ok (.goto 7, 3) := by decide +kernel
theorem dX11_takesSigned_68 : decode cX11_takesSigned 68 = .ok (.aload_n 0, 1) := by decide +kernel
theorem dX11_takesSigned_69 : decode cX11_takesSigned 69 = .ok (.getfield 153, 3) := by decide +kernel
theorem dX11_takesSigned_72 : decode cX11_takesSigned 72 = .ok (.putfield 179, 3) := by decide +kernel
theorem dX11_takesSigned_75 : decode cX11_takesSigned 75 = .ok (.aload_n 0, 1) := by decide +kernel
theorem dX11_takesSigned_76 : decode cX11_takesSigned 76 = .ok (.invokevirtual 172, 3) := by decide +kernel
theorem dX11_takesSigned_79 : decode cX11_takesSigned 79 = .ok (.iconst 1, 1) := by decide +kernel
theorem dX11_takesSigned_80 : decode cX11_takesSigned 80 = .ok (.ireturn, 1) := by decide +kernel
theorem dX11_readHearer_0 : decode cX11_readHearer 0 = .ok (.aload_n 0, 1) := by decide +kernel
theorem dX11_readHearer_1 : decode cX11_readHearer 1 = .ok (.getfield 37, 3) := by decide +kernel
theorem dX11_readHearer_4 : decode cX11_readHearer 4 = .ok (.iconst 1, 1) := by decide +kernel
theorem dX11_readHearer_5 : decode cX11_readHearer 5 = .ok (.iaload, 1) := by decide +kernel
theorem dX11_readHearer_6 : decode cX11_readHearer 6 = .ok (.istore_n 1, 1) := by decide +kernel
theorem dX11_readHearer_7 : decode cX11_readHearer 7 = .ok (.iload_n 1, 1) := by decide +kernel
theorem dX11_readHearer_8 : decode cX11_readHearer 8 = .ok (.bipush 10, 2) := by decide +kernel
theorem dX11_readHearer_10 : decode cX11_readHearer 10 = .ok (.if_icmp .ne 9, 3) := by decide +kernel
theorem dX11_readHearer_13 : decode cX11_readHearer 13 = .ok (.aload_n 0, 1) := by decide +kernel
theorem dX11_readHearer_14 : decode cX11_readHearer 14 = .ok (.iconst 4, 1) := by decide +kernel
theorem dX11_readHearer_15 : decode cX11_readHearer 15 = .ok (.invokevirtual 169, 3) := by decide +kernel
theorem dX11_readHearer_18 : decode cX11_readHearer 18 = .ok (.ireturn, 1) := by decide +kernel
theorem dX11_readHearer_19 : decode cX11_readHearer 19 = .ok (.aload_n 0, 1) := by decide +kernel
theorem dX11_readHearer_20 : decode cX11_readHearer 20 = .ok (.invokevirtual 172, 3) := by decide +kernel
theorem dX11_readHearer_23 : decode cX11_readHearer 23 = .ok (.aload_n 0, 1) := by decide +kernel
theorem dX11_readHearer_24 : decode cX11_readHearer 24 = .ok (.getfield 143, 3) := by decide +kernel
theorem dX11_readHearer_27 : decode cX11_readHearer 27 = .ok (.iconst 2, 1) := by decide +kernel
theorem dX11_readHearer_28 : decode cX11_readHearer 28 = .ok (.if_icmp .eq 9, 3) := by decide +kernel
theorem dX11_readHearer_31 : decode cX11_readHearer 31 = .ok (.aload_n 0, 1) := by decide +kernel
theorem dX11_readHearer_32 : decode cX11_readHearer 32 = .ok (.iconst 1, 1) := by decide +kernel
theorem dX11_readHearer_33 : decode cX11_readHearer 33 = .ok (.invokevirtual 169, 3) := by decide +kernel
theorem dX11_readHearer_36 : decode cX11_readHearer 36 = .ok (.ireturn, 1) := by decide +kernel
theorem dX11_readHearer_37 : decode cX11_readHearer 37 = .ok (.aload_n 0, 1) := by decide +kernel
theorem dX11_readHearer_38 : decode cX11_readHearer 38 = .ok (.getfield 153, 3) := by decide +kernel
theorem dX11_readHearer_41 : decode cX11_readHearer 41 = .ok (.bipush 99, 2) := by decide +kernel
theorem dX11_readHearer_43 : decode cX11_readHearer 43 = .ok (.if_icmp .le 9, 3) := by decide +kernel
theorem dX11_readHearer_46 : decode cX11_readHearer 46 = .ok (.aload_n 0, 1) := by decide +kernel
theorem dX11_readHearer_47 : decode cX11_readHearer 47 = .ok (.iconst 2, 1) := by decide +kernel
theorem dX11_readHearer_48 : decode cX11_readHearer 48 = .ok (.invokevirtual 169, 3) := by decide +kernel
theorem dX11_readHearer_51 : decode cX11_readHearer 51 = .ok (.ireturn, 1) := by decide +kernel
theorem dX11_readHearer_52 : decode cX11_readHearer 52 = .ok (.iconst 0, 1) := by decide +kernel
theorem dX11_readHearer_53 : decode cX11_readHearer 53 = .ok (.istore_n 2, 1) := by decide +kernel
theorem dX11_readHearer_54 : decode cX11_readHearer 54 = .ok (.iload_n 2, 1) := by decide +kernel
theorem dX11_readHearer_55 : decode cX11_readHearer 55 = .ok (.iload_n 1, 1) := by decide +kernel
theorem dX11_readHearer_56 : decode cX11_readHearer 56 = .ok (.if_icmp .ge 33, 3) := by decide +kernel
theorem dX11_readHearer_59 : decode cX11_readHearer 59 = .ok (.aload_n 0, 1) := by decide +kernel
theorem dX11_readHearer_60 : decode cX11_readHearer 60 = .ok (.getfield 37, 3) := by decide +kernel
theorem dX11_readHearer_63 : decode cX11_readHearer 63 = .ok (.bipush 6, 2) := by decide +kernel
theorem dX11_readHearer_65 : decode cX11_readHearer 65 = .ok (.iconst 2, 1) := by decide +kernel
theorem dX11_readHearer_66 : decode cX11_readHearer 66 = .ok (.iload_n 2, 1) := by decide +kernel
theorem dX11_readHearer_67 : decode cX11_readHearer 67 = .ok (.imul, 1) := by decide +kernel
theorem dX11_readHearer_68 : decode cX11_readHearer 68 = .ok (.iadd, 1) := by decide +kernel
theorem dX11_readHearer_69 : decode cX11_readHearer 69 = .ok (.iaload, 1) := by decide +kernel
theorem dX11_readHearer_70 : decode cX11_readHearer 70 = .ok (.aload_n 0, 1) := by decide +kernel
theorem dX11_readHearer_71 : decode cX11_readHearer 71 = .ok (.getfield 153, 3) := by decide +kernel
theorem dX11_readHearer_74 : decode cX11_readHearer 74 = .ok (.if_icmp .ne 9, 3) := by decide +kernel
theorem dX11_readHearer_77 : decode cX11_readHearer 77 = .ok (.aload_n 0, 1) := by decide +kernel
theorem dX11_readHearer_78 : decode cX11_readHearer 78 = .ok (.iconst 3, 1) := by decide +kernel
theorem dX11_readHearer_79 : decode cX11_readHearer 79 = .ok (.invokevirtual 169, 3) := by decide +kernel
theorem dX11_readHearer_82 : decode cX11_readHearer 82 = .ok (.ireturn, 1) := by decide +kernel
theorem dX11_readHearer_83 : decode cX11_readHearer 83 = .ok (.iinc 2 1, 3) := by decide +kernel
theorem dX11_readHearer_86 : decode cX11_readHearer 86 = .ok (.goto (-32), 3) := by decide +kernel
theorem dX11_readHearer_89 : decode cX11_readHearer 89 = .ok (.aload_n 0, 1) := by decide +kernel
theorem dX11_readHearer_90 : decode cX11_readHearer 90 = .ok (.getfield 37, 3) := by decide +kernel
theorem dX11_readHearer_93 : decode cX11_readHearer 93 = .ok (.bipush 6, 2) := by decide +kernel
theorem dX11_readHearer_95 : decode cX11_readHearer 95 = .ok (.iconst 2, 1) := by decide +kernel
theorem dX11_readHearer_96 : decode cX11_readHearer 96 = .ok (.iload_n 1, 1) := by decide +kernel
theorem dX11_readHearer_97 : decode cX11_readHearer 97 = .ok (.imul, 1) := by decide +kernel
theorem dX11_readHearer_98 : decode cX11_readHearer 98 = .ok (.iadd, 1) := by decide +kernel
theorem dX11_readHearer_99 : decode cX11_readHearer 99 = .ok (.aload_n 0, 1) := by decide +kernel
theorem dX11_readHearer_100 : decode cX11_readHearer 100 = .ok (.getfield 153, 3) := by decide +kernel
theorem dX11_readHearer_103 : decode cX11_readHearer 103 = .ok (.iastore, 1) := by decide +kernel
theorem dX11_readHearer_104 : decode cX11_readHearer 104 = .ok (.aload_n 0, 1) := by decide +kernel
theorem dX11_readHearer_105 : decode cX11_readHearer 105 = .ok (.getfield 37, 3) := by decide +kernel
theorem dX11_readHearer_108 : decode cX11_readHearer 108 = .ok (.bipush 6, 2) := by decide +kernel
theorem dX11_readHearer_110 : decode cX11_readHearer 110 = .ok (.iconst 2, 1) := by decide +kernel
theorem dX11_readHearer_111 : decode cX11_readHearer 111 = .ok (.iload_n 1, 1) := by decide +kernel
theorem dX11_readHearer_112 : decode cX11_readHearer 112 = .ok (.imul, 1) := by decide +kernel
theorem dX11_readHearer_113 : decode cX11_readHearer 113 = .ok (.iadd, 1) := by decide +kernel
theorem dX11_readHearer_114 : decode cX11_readHearer 114 = .ok (.iconst 1, 1) := by decide +kernel
theorem dX11_readHearer_115 : decode cX11_readHearer 115 = .ok (.iadd, 1) := by decide +kernel
theorem dX11_readHearer_116 : decode cX11_readHearer 116 = .ok (.iconst 1, 1) := by decide +kernel
theorem dX11_readHearer_117 : decode cX11_readHearer 117 = .ok (.iastore, 1) := by decide +kernel
theorem dX11_readHearer_118 : decode cX11_readHearer 118 = .ok (.aload_n 0, 1) := by decide +kernel
theorem dX11_readHearer_119 : decode cX11_readHearer 119 = .ok (.invokevirtual 172, 3) := by decide +kernel
theorem dX11_readHearer_122 : decode cX11_readHearer 122 = .ok (.aload_n 0, 1) := by decide +kernel
theorem dX11_readHearer_123 : decode cX11_readHearer 123 = .ok (.ldc2_w 118, 3) := by decide +kernel
theorem dX11_readHearer_126 : decode cX11_readHearer 126 = .ok (.invokevirtual 190, 3) := by decide +kernel
theorem dX11_readHearer_129 : decode cX11_readHearer 129 = .ok (.ifCond .eq 37, 3) := by decide +kernel
theorem dX11_readHearer_132 : decode cX11_readHearer 132 = .ok (.aload_n 0, 1) := by decide +kernel
theorem dX11_readHearer_133 : decode cX11_readHearer 133 = .ok (.invokevirtual 172, 3) := by decide +kernel
theorem dX11_readHearer_136 : decode cX11_readHearer 136 = .ok (.aload_n 0, 1) := by decide +kernel
theorem dX11_readHearer_137 : decode cX11_readHearer 137 = .ok (.iconst 1, 1) := by decide +kernel
theorem dX11_readHearer_138 : decode cX11_readHearer 138 = .ok (.sipush 999, 3) := by decide +kernel
theorem dX11_readHearer_141 : decode cX11_readHearer 141 = .ok (.invokevirtual 198, 3) := by decide +kernel
theorem dX11_readHearer_144 : decode cX11_readHearer 144 = .ok (.ifCond .ne 5, 3) := by decide +kernel
theorem dX11_readHearer_147 : decode cX11_readHearer 147 = .ok (.iconst 0, 1) := by decide +kernel
theorem dX11_readHearer_148 : decode cX11_readHearer 148 = .ok (.ireturn, 1) := by decide +kernel
theorem dX11_readHearer_149 : decode cX11_readHearer 149 = .ok (.aload_n 0, 1) := by decide +kernel
theorem dX11_readHearer_150 : decode cX11_readHearer 150 = .ok (.getfield 37, 3) := by decide +kernel
theorem dX11_readHearer_153 : decode cX11_readHearer 153 = .ok (.bipush 6, 2) := by decide +kernel
theorem dX11_readHearer_155 : decode cX11_readHearer 155 = .ok (.iconst 2, 1) := by decide +kernel
theorem dX11_readHearer_156 : decode cX11_readHearer 156 = .ok (.iload_n 1, 1) := by decide +kernel
theorem dX11_readHearer_157 : decode cX11_readHearer 157 = .ok (.imul, 1) := by decide +kernel
theorem dX11_readHearer_158 : decode cX11_readHearer 158 = .ok (.iadd, 1) := by decide +kernel
theorem dX11_readHearer_159 : decode cX11_readHearer 159 = .ok (.iconst 1, 1) := by decide +kernel
theorem dX11_readHearer_160 : decode cX11_readHearer 160 = .ok (.iadd, 1) := by decide +kernel
theorem dX11_readHearer_161 : decode cX11_readHearer 161 = .ok (.aload_n 0, 1) := by decide +kernel
theorem dX11_readHearer_162 : decode cX11_readHearer 162 = .ok (.getfield 179, 3) := by decide +kernel
theorem dX11_readHearer_165 : decode cX11_readHearer 165 = .ok (.iastore, 1) := by decide +kernel
theorem dX11_readHearer_166 : decode cX11_readHearer 166 = .ok (.aload_n 0, 1) := by decide +kernel
theorem dX11_readHearer_167 : decode cX11_readHearer 167 = .ok (.getfield 37, 3) := by decide +kernel
theorem dX11_readHearer_170 : decode cX11_readHearer 170 = .ok (.iconst 1, 1) := by decide +kernel
theorem dX11_readHearer_171 : decode cX11_readHearer 171 = .ok (.dup2, 1) := by decide +kernel
theorem dX11_readHearer_172 : decode cX11_readHearer 172 = .ok (.iaload, 1) := by decide +kernel
theorem dX11_readHearer_173 : decode cX11_readHearer 173 = .ok (.iconst 1, 1) := by decide +kernel
theorem dX11_readHearer_174 : decode cX11_readHearer 174 = .ok (.iadd, 1) := by decide +kernel
theorem dX11_readHearer_175 : decode cX11_readHearer 175 = .ok (.iastore, 1) := by decide +kernel
theorem dX11_readHearer_176 : decode cX11_readHearer 176 = .ok (.iconst 1, 1) := by decide +kernel
theorem dX11_readHearer_177 : decode cX11_readHearer 177 = .ok (.ireturn, 1) := by decide +kernel
theorem dX11_readSender_0 : decode cX11_readSender 0 = .ok (.aload_n 0, 1) := by decide +kernel
theorem dX11_readSender_1 : decode cX11_readSender 1 = .ok (.getfield 37, 3) := by decide +kernel
theorem dX11_readSender_4 : decode cX11_readSender 4 = .ok (.iconst 2, 1) := by decide +kernel
theorem dX11_readSender_5 : decode cX11_readSender 5 = .ok (.iaload, 1) := by decide +kernel
theorem dX11_readSender_6 : decode cX11_readSender 6 = .ok (.istore_n 1, 1) := by decide +kernel
theorem dX11_readSender_7 : decode cX11_readSender 7 = .ok (.iload_n 1, 1) := by decide +kernel
theorem dX11_readSender_8 : decode cX11_readSender 8 = .ok (.bipush 6, 2) := by decide +kernel
theorem dX11_readSender_10 : decode cX11_readSender 10 = .ok (.if_icmp .ne 9, 3) := by decide +kernel
theorem dX11_readSender_13 : decode cX11_readSender 13 = .ok (.aload_n 0, 1) := by decide +kernel
theorem dX11_readSender_14 : decode cX11_readSender 14 = .ok (.iconst 4, 1) := by decide +kernel
theorem dX11_readSender_15 : decode cX11_readSender 15 = .ok (.invokevirtual 169, 3) := by decide +kernel
theorem dX11_readSender_18 : decode cX11_readSender 18 = .ok (.ireturn, 1) := by decide +kernel
theorem dX11_readSender_19 : decode cX11_readSender 19 = .ok (.aload_n 0, 1) := by decide +kernel
theorem dX11_readSender_20 : decode cX11_readSender 20 = .ok (.invokevirtual 172, 3) := by decide +kernel
theorem dX11_readSender_23 : decode cX11_readSender 23 = .ok (.aload_n 0, 1) := by decide +kernel
theorem dX11_readSender_24 : decode cX11_readSender 24 = .ok (.bipush 10, 2) := by decide +kernel
theorem dX11_readSender_26 : decode cX11_readSender 26 = .ok (.iload_n 1, 1) := by decide +kernel
theorem dX11_readSender_27 : decode cX11_readSender 27 = .ok (.iadd, 1) := by decide +kernel
theorem dX11_readSender_28 : decode cX11_readSender 28 = .ok (.invokevirtual 208, 3) := by decide +kernel
theorem dX11_readSender_31 : decode cX11_readSender 31 = .ok (.ifCond .ne 5, 3) := by decide +kernel
theorem dX11_readSender_34 : decode cX11_readSender 34 = .ok (.iconst 0, 1) := by decide +kernel
theorem dX11_readSender_35 : decode cX11_readSender 35 = .ok (.ireturn, 1) := by decide +kernel
theorem dX11_readSender_36 : decode cX11_readSender 36 = .ok (.bipush 26, 2) := by decide +kernel
theorem dX11_readSender_38 : decode cX11_readSender 38 = .ok (.iconst 4, 1) := by decide +kernel
theorem dX11_readSender_39 : decode cX11_readSender 39 = .ok (.iload_n 1, 1) := by decide +kernel
theorem dX11_readSender_40 : decode cX11_readSender 40 = .ok (.imul, 1) := by decide +kernel
theorem dX11_readSender_41 : decode cX11_readSender 41 = .ok (.iadd, 1) := by decide +kernel
theorem dX11_readSender_42 : decode cX11_readSender 42 = .ok (.istore_n 2, 1) := by decide +kernel
theorem dX11_readSender_43 : decode cX11_readSender 43 = .ok (.aload_n 0, 1) := by decide +kernel
theorem dX11_readSender_44 : decode cX11_readSender 44 = .ok (.iconst 0, 1) := by decide +kernel
theorem dX11_readSender_45 : decode cX11_readSender 45 = .ok (.aload_n 0, 1) := by decide +kernel
theorem dX11_readSender_46 : decode cX11_readSender 46 = .ok (.getfield 37, 3) := by decide +kernel
theorem dX11_readSender_49 : decode cX11_readSender 49 = .ok (.iconst 0, 1) := by decide +kernel
theorem dX11_readSender_50 : decode cX11_readSender 50 = .ok (.iaload, 1) := by decide +kernel
theorem dX11_readSender_51 : decode cX11_readSender 51 = .ok (.iconst 1, 1) := by decide +kernel
theorem dX11_readSender_52 : decode cX11_readSender 52 = .ok (.isub, 1) := by decide +kernel
theorem dX11_readSender_53 : decode cX11_readSender 53 = .ok (.invokevirtual 198, 3) := by decide +kernel
theorem dX11_readSender_56 : decode cX11_readSender 56 = .ok (.ifCond .ne 5, 3) := by decide +kernel
theorem dX11_readSender_59 : decode cX11_readSender 59 = .ok (.iconst 0, 1) := by decide +kernel
theorem dX11_readSender_60 : decode cX11_readSender 60 = .ok (.ireturn, 1) := by decide +kernel
theorem dX11_readSender_61 : decode cX11_readSender 61 = .ok (.aload_n 0, 1) := by decide +kernel
theorem dX11_readSender_62 : decode cX11_readSender 62 = .ok (.getfield 37, 3) := by decide +kernel
theorem dX11_readSender_65 : decode cX11_readSender 65 = .ok (.iload_n 2, 1) := by decide +kernel
theorem dX11_readSender_66 : decode cX11_readSender 66 = .ok (.aload_n 0, 1) := by decide +kernel
theorem dX11_readSender_67 : decode cX11_readSender 67 = .ok (.getfield 179, 3) := by decide +kernel
theorem dX11_readSender_70 : decode cX11_readSender 70 = .ok (.iastore, 1) := by decide +kernel
theorem dX11_readSender_71 : decode cX11_readSender 71 = .ok (.aload_n 0, 1) := by decide +kernel
theorem dX11_readSender_72 : decode cX11_readSender 72 = .ok (.iconst 1, 1) := by decide +kernel
theorem dX11_readSender_73 : decode cX11_readSender 73 = .ok (.sipush 999, 3) := by decide +kernel
theorem dX11_readSender_76 : decode cX11_readSender 76 = .ok (.invokevirtual 198, 3) := by decide +kernel
theorem dX11_readSender_79 : decode cX11_readSender 79 = .ok (.ifCond .ne 5, 3) := by decide +kernel
theorem dX11_readSender_82 : decode cX11_readSender 82 = .ok (.iconst 0, 1) := by decide +kernel
theorem dX11_readSender_83 : decode cX11_readSender 83 = .ok (.ireturn, 1) := by decide +kernel
theorem dX11_readSender_84 : decode cX11_readSender 84 = .ok (.aload_n 0, 1) := by decide +kernel
theorem dX11_readSender_85 : decode cX11_readSender 85 = .ok (.getfield 37, 3) := by decide +kernel
theorem dX11_readSender_88 : decode cX11_readSender 88 = .ok (.iload_n 2, 1) := by decide +kernel
theorem dX11_readSender_89 : decode cX11_readSender 89 = .ok (.iconst 1, 1) := by decide +kernel
theorem dX11_readSender_90 : decode cX11_readSender 90 = .ok (.iadd, 1) := by decide +kernel
theorem dX11_readSender_91 : decode cX11_readSender 91 = .ok (.aload_n 0, 1) := by decide +kernel
theorem dX11_readSender_92 : decode cX11_readSender 92 = .ok (.getfield 179, 3) := by decide +kernel
theorem dX11_readSender_95 : decode cX11_readSender 95 = .ok (.iastore, 1) := by decide +kernel
theorem dX11_readSender_96 : decode cX11_readSender 96 = .ok (.aload_n 0, 1) := by decide +kernel
theorem dX11_readSender_97 : decode cX11_readSender 97 = .ok (.getfield 37, 3) := by decide +kernel
theorem dX11_readSender_100 : decode cX11_readSender 100 = .ok (.iload_n 2, 1) := by decide +kernel
theorem dX11_readSender_101 : decode cX11_readSender 101 = .ok (.iconst 2, 1) := by decide +kernel
theorem dX11_readSender_102 : decode cX11_readSender 102 = .ok (.iadd, 1) := by decide +kernel
theorem dX11_readSender_103 : decode cX11_readSender 103 = .ok (.iconst 0, 1) := by decide +kernel
theorem dX11_readSender_104 : decode cX11_readSender 104 = .ok (.iastore, 1) := by decide +kernel
theorem dX11_readSender_105 : decode cX11_readSender 105 = .ok (.aload_n 0, 1) := by decide +kernel
theorem dX11_readSender_106 : decode cX11_readSender 106 = .ok (.getfield 37, 3) := by decide +kernel
theorem dX11_readSender_109 : decode cX11_readSender 109 = .ok (.iload_n 2, 1) := by decide +kernel
theorem dX11_readSender_110 : decode cX11_readSender 110 = .ok (.iconst 3, 1) := by decide +kernel
theorem dX11_readSender_111 : decode cX11_readSender 111 = .ok (.iadd, 1) := by decide +kernel
theorem dX11_readSender_112 : decode cX11_readSender 112 = .ok (.iload_n 1, 1) := by decide +kernel
theorem dX11_readSender_113 : decode cX11_readSender 113 = .ok (.iastore, 1) := by decide +kernel
theorem dX11_readSender_114 : decode cX11_readSender 114 = .ok (.aload_n 0, 1) := by decide +kernel
theorem dX11_readSender_115 : decode cX11_readSender 115 = .ok (.ldc2_w 122, 3) := by decide +kernel
theorem dX11_readSender_118 : decode cX11_readSender 118 = .ok (.invokevirtual 190, 3) := by decide +kernel
theorem dX11_readSender_121 : decode cX11_readSender 121 = .ok (.ifCond .eq 37, 3) := by decide +kernel
theorem dX11_readSender_124 : decode cX11_readSender 124 = .ok (.aload_n 0, 1) := by decide +kernel
theorem dX11_readSender_125 : decode cX11_readSender 125 = .ok (.invokevirtual 172, 3) := by decide +kernel
theorem dX11_readSender_128 : decode cX11_readSender 128 = .ok (.aload_n 0, 1) := by decide +kernel
theorem dX11_readSender_129 : decode cX11_readSender 129 = .ok (.iconst 0, 1) := by decide +kernel
theorem dX11_readSender_130 : decode cX11_readSender 130 = .ok (.aload_n 0, 1) := by decide +kernel
theorem dX11_readSender_131 : decode cX11_readSender 131 = .ok (.getfield 37, 3) := by decide +kernel
theorem dX11_readSender_134 : decode cX11_readSender 134 = .ok (.iconst 0, 1) := by decide +kernel
theorem dX11_readSender_135 : decode cX11_readSender 135 = .ok (.iaload, 1) := by decide +kernel
theorem dX11_readSender_136 : decode cX11_readSender 136 = .ok (.iconst 1, 1) := by decide +kernel
theorem dX11_readSender_137 : decode cX11_readSender 137 = .ok (.isub, 1) := by decide +kernel
theorem dX11_readSender_138 : decode cX11_readSender 138 = .ok (.invokevirtual 198, 3) := by decide +kernel
theorem dX11_readSender_141 : decode cX11_readSender 141 = .ok (.ifCond .ne 5, 3) := by decide +kernel
theorem dX11_readSender_144 : decode cX11_readSender 144 = .ok (.iconst 0, 1) := by decide +kernel
theorem dX11_readSender_145 : decode cX11_readSender 145 = .ok (.ireturn, 1) := by decide +kernel
theorem dX11_readSender_146 : decode cX11_readSender 146 = .ok (.aload_n 0, 1) := by decide +kernel
theorem dX11_readSender_147 : decode cX11_readSender 147 = .ok (.getfield 37, 3) := by decide +kernel
theorem dX11_readSender_150 : decode cX11_readSender 150 = .ok (.iload_n 2, 1) := by decide +kernel
theorem dX11_readSender_151 : decode cX11_readSender 151 = .ok (.iconst 2, 1) := by decide +kernel
theorem dX11_readSender_152 : decode cX11_readSender 152 = .ok (.iadd, 1) := by decide +kernel
theorem dX11_readSender_153 : decode cX11_readSender 153 = .ok (.aload_n 0, 1) := by decide +kernel
theorem dX11_readSender_154 : decode cX11_readSender 154 = .ok (.getfield 179, 3) := by decide +kernel
theorem dX11_readSender_157 : decode cX11_readSender 157 = .ok (.iastore, 1) := by decide +kernel
theorem dX11_readSender_158 : decode cX11_readSender 158 = .ok (.aload_n 0, 1) := by decide +kernel
theorem dX11_readSender_159 : decode cX11_readSender 159 = .ok (.ldc2_w 124, 3) := by decide +kernel
theorem dX11_readSender_162 : decode cX11_readSender 162 = .ok (.invokevirtual 190, 3) := by decide +kernel
theorem dX11_readSender_165 : decode cX11_readSender 165 = .ok (.ifCond .eq 63, 3) := by decide +kernel
theorem dX11_readSender_168 : decode cX11_readSender 168 = .ok (.aload_n 0, 1) := by decide +kernel
theorem dX11_readSender_169 : decode cX11_readSender 169 = .ok (.invokevirtual 172, 3) := by decide +kernel
theorem dX11_readSender_172 : decode cX11_readSender 172 = .ok (.aload_n 0, 1) := by decide +kernel
theorem dX11_readSender_173 : decode cX11_readSender 173 = .ok (.invokevirtual 182, 3) := by decide +kernel
theorem dX11_readSender_176 : decode cX11_readSender 176 = .ok (.ifCond .ne 9, 3) := by decide +kernel
theorem dX11_readSender_179 : decode cX11_readSender 179 = .ok (.aload_n 0, 1) := by decide +kernel
theorem dX11_readSender_180 : decode cX11_readSender 180 = .ok (.iconst 1, 1) := by decide +kernel
theorem dX11_readSender_181 : decode cX11_readSender 181 = .ok (.invokevirtual 169, 3) := by decide +kernel
theorem dX11_readSender_184 : decode cX11_readSender 184 = .ok (.ireturn, 1) := by decide +kernel
theorem dX11_readSender_185 : decode cX11_readSender 185 = .ok (.aload_n 0, 1) := by decide +kernel
theorem dX11_readSender_186 : decode cX11_readSender 186 = .ok (.bipush 10, 2) := by decide +kernel
theorem dX11_readSender_188 : decode cX11_readSender 188 = .ok (.iload_n 1, 1) := by decide +kernel
theorem dX11_readSender_189 : decode cX11_readSender 189 = .ok (.invokevirtual 186, 3) := by decide +kernel
theorem dX11_readSender_192 : decode cX11_readSender 192 = .ok (.istore_n 3, 1) := by decide +kernel
theorem dX11_readSender_193 : decode cX11_readSender 193 = .ok (.iload_n 3, 1) := by decide +kernel
theorem dX11_readSender_194 : decode cX11_readSender 194 = .ok (.ifCond .ge 9, 3) := by decide +kernel
theorem dX11_readSender_197 : decode cX11_readSender 197 = .ok (.aload_n 0, 1) := by decide +kernel
theorem dX11_readSender_198 : decode cX11_readSender 198 = .ok (.iconst 3, 1) := by decide +kernel
theorem dX11_readSender_199 : decode cX11_readSender 199 = .ok (.invokevirtual 169, 3) := by decide +kernel
theorem dX11_readSender_202 : decode cX11_readSender 202 = .ok (.ireturn, 1) := by decide +kernel
theorem dX11_readSender_203 : decode cX11_readSender 203 = .ok (.aload_n 0, 1) := by decide +kernel
theorem dX11_readSender_204 : decode cX11_readSender 204 = .ok (.getfield 37, 3) := by decide +kernel
theorem dX11_readSender_207 : decode cX11_readSender 207 = .ok (.iload_n 2, 1) := by decide +kernel
theorem dX11_readSender_208 : decode cX11_readSender 208 = .ok (.iconst 3, 1) := by decide +kernel
theorem dX11_readSender_209 : decode cX11_readSender 209 = .ok (.iadd, 1) := by decide +kernel
theorem dX11_readSender_210 : decode cX11_readSender 210 = .ok (.aload_n 0, 1) := by decide +kernel
theorem dX11_readSender_211 : decode cX11_readSender 211 = .ok (.getfield 37, 3) := by decide +kernel
theorem dX11_readSender_214 : decode cX11_readSender 214 = .ok (.bipush 26, 2) := by decide +kernel
theorem dX11_readSender_216 : decode cX11_readSender 216 = .ok (.iconst 4, 1) := by decide +kernel
theorem dX11_readSender_217 : decode cX11_readSender 217 = .ok (.iload_n 3, 1) := by decide +kernel
theorem dX11_readSender_218 : decode cX11_readSender 218 = .ok (.imul, 1) := by decide +kernel
theorem dX11_readSender_219 : decode cX11_readSender 219 = .ok (.iadd, 1) := by decide +kernel
theorem dX11_readSender_220 : decode cX11_readSender 220 = .ok (.iconst 3, 1) := by decide +kernel
theorem dX11_readSender_221 : decode cX11_readSender 221 = .ok (.iadd, 1) := by decide +kernel
theorem dX11_readSender_222 : decode cX11_readSender 222 = .ok (.iaload, 1) := by decide +kernel
theorem dX11_readSender_223 : decode cX11_readSender 223 = .ok (.iastore, 1) := by decide +kernel
theorem dX11_readSender_224 : decode cX11_readSender 224 = .ok (.aload_n 0, 1) := by decide +kernel
theorem dX11_readSender_225 : decode cX11_readSender 225 = .ok (.invokevirtual 172, 3) := by decide +kernel
theorem dX11_readSender_228 : decode cX11_readSender 228 = .ok (.aload_n 0, 1) := by decide +kernel
theorem dX11_readSender_229 : decode cX11_readSender 229 = .ok (.getfield 37, 3) := by decide +kernel
theorem dX11_readSender_232 : decode cX11_readSender 232 = .ok (.iconst 2, 1) := by decide +kernel
theorem dX11_readSender_233 : decode cX11_readSender 233 = .ok (.dup2, 1) := by decide +kernel
theorem dX11_readSender_234 : decode cX11_readSender 234 = .ok (.iaload, 1) := by decide +kernel
theorem dX11_readSender_235 : decode cX11_readSender 235 = .ok (.iconst 1, 1) := by decide +kernel
theorem dX11_readSender_236 : decode cX11_readSender 236 = .ok (.iadd, 1) := by decide +kernel
theorem dX11_readSender_237 : decode cX11_readSender 237 = .ok (.iastore, 1) := by decide +kernel
theorem dX11_readSender_238 : decode cX11_readSender 238 = .ok (.iconst 1, 1) := by decide +kernel
theorem dX11_readSender_239 : decode cX11_readSender 239 = .ok (.ireturn, 1) := by decide +kernel
theorem dX11_readBearing_0 : decode cX11_readBearing 0 = .ok (.aload_n 0, 1) := by decide +kernel
theorem dX11_readBearing_1 : decode cX11_readBearing 1 = .ok (.getfield 37, 3) := by decide +kernel
theorem dX11_readBearing_4 : decode cX11_readBearing 4 = .ok (.iconst 4, 1) := by decide +kernel
theorem dX11_readBearing_5 : decode cX11_readBearing 5 = .ok (.iaload, 1) := by decide +kernel
theorem dX11_readBearing_6 : decode cX11_readBearing 6 = .ok (.istore_n 1, 1) := by decide +kernel
theorem dX11_readBearing_7 : decode cX11_readBearing 7 = .ok (.iload_n 1, 1) := by decide +kernel
theorem dX11_readBearing_8 : decode cX11_readBearing 8 = .ok (.bipush 8, 2) := by decide +kernel
theorem dX11_readBearing_10 : decode cX11_readBearing 10 = .ok (.if_icmp .ne 9, 3) := by decide +kernel
theorem dX11_readBearing_13 : decode cX11_readBearing 13 = .ok (.aload_n 0, 1) := by decide +kernel
theorem dX11_readBearing_14 : decode cX11_readBearing 14 = .ok (.iconst 4, 1) := by decide +kernel
theorem dX11_readBearing_15 : decode cX11_readBearing 15 = .ok (.invokevirtual 169, 3) := by decide +kernel
theorem dX11_readBearing_18 : decode cX11_readBearing 18 = .ok (.ireturn, 1) := by decide +kernel
theorem dX11_readBearing_19 : decode cX11_readBearing 19 = .ok (.aload_n 0, 1) := by decide +kernel
theorem dX11_readBearing_20 : decode cX11_readBearing 20 = .ok (.invokevirtual 172, 3) := by decide +kernel
theorem dX11_readBearing_23 : decode cX11_readBearing 23 = .ok (.aload_n 0, 1) := by decide +kernel
theorem dX11_readBearing_24 : decode cX11_readBearing 24 = .ok (.invokevirtual 182, 3) := by decide +kernel
theorem dX11_readBearing_27 : decode cX11_readBearing 27 = .ok (.ifCond .ne 9, 3) := by decide +kernel
theorem dX11_readBearing_30 : decode cX11_readBearing 30 = .ok (.aload_n 0, 1) := by decide +kernel
theorem dX11_readBearing_31 : decode cX11_readBearing 31 = .ok (.iconst 1, 1) := by decide +kernel
theorem dX11_readBearing_32 : decode cX11_readBearing 32 = .ok (.invokevirtual 169, 3) := by decide +kernel
theorem dX11_readBearing_35 : decode cX11_readBearing 35 = .ok (.ireturn, 1) := by decide +kernel
theorem dX11_readBearing_36 : decode cX11_readBearing 36 = .ok (.aload_n 0, 1) := by decide +kernel
theorem dX11_readBearing_37 : decode cX11_readBearing 37 = .ok (.bipush 16, 2) := by decide +kernel
theorem dX11_readBearing_39 : decode cX11_readBearing 39 = .ok (.aload_n 0, 1) := by decide +kernel
theorem dX11_readBearing_40 : decode cX11_readBearing 40 = .ok (.getfield 37, 3) := by decide +kernel
theorem dX11_readBearing_43 : decode cX11_readBearing 43 = .ok (.iconst 3, 1) := by decide +kernel
theorem dX11_readBearing_44 : decode cX11_readBearing 44 = .ok (.iaload, 1) := by decide +kernel
theorem dX11_readBearing_45 : decode cX11_readBearing 45 = .ok (.invokevirtual 186, 3) := by decide +kernel
theorem dX11_readBearing_48 : decode cX11_readBearing 48 = .ok (.istore_n 2, 1) := by decide +kernel
theorem dX11_readBearing_49 : decode cX11_readBearing 49 = .ok (.iload_n 2, 1) := by decide +kernel
theorem dX11_readBearing_50 : decode cX11_readBearing 50 = .ok (.ifCond .ge 9, 3) := by decide +kernel
theorem dX11_readBearing_53 : decode cX11_readBearing 53 = .ok (.aload_n 0, 1) := by decide +kernel
theorem dX11_readBearing_54 : decode cX11_readBearing 54 = .ok (.iconst 3, 1) := by decide +kernel
theorem dX11_readBearing_55 : decode cX11_readBearing 55 = .ok (.invokevirtual 169, 3) := by decide +kernel
theorem dX11_readBearing_58 : decode cX11_readBearing 58 = .ok (.ireturn, 1) := by decide +kernel
theorem dX11_readBearing_59 : decode cX11_readBearing 59 = .ok (.aload_n 0, 1) := by decide +kernel
theorem dX11_readBearing_60 : decode cX11_readBearing 60 = .ok (.invokevirtual 172, 3) := by decide +kernel
theorem dX11_readBearing_63 : decode cX11_readBearing 63 = .ok (.aload_n 0, 1) := by decide +kernel
theorem dX11_readBearing_64 : decode cX11_readBearing 64 = .ok (.iconst 0, 1) := by decide +kernel
theorem dX11_readBearing_65 : decode cX11_readBearing 65 = .ok (.invokevirtual 211, 3) := by decide +kernel
theorem dX11_readBearing_68 : decode cX11_readBearing 68 = .ok (.ifCond .ne 5, 3) := by decide +kernel
theorem dX11_readBearing_71 : decode cX11_readBearing 71 = .ok (.iconst 0, 1) := by decide +kernel
theorem dX11_readBearing_72 : decode cX11_readBearing 72 = .ok (.ireturn, 1) := by decide +kernel
theorem dX11_readBearing_73 : decode cX11_readBearing 73 = .ok (.aload_n 0, 1) := by decide +kernel
theorem dX11_readBearing_74 : decode cX11_readBearing 74 = .ok (.getfield 179, 3) := by decide +kernel
theorem dX11_readBearing_77 : decode cX11_readBearing 77 = .ok (.istore_n 3, 1) := by decide +kernel
theorem dX11_readBearing_78 : decode cX11_readBearing 78 = .ok (.aload_n 0, 1) := by decide +kernel
theorem dX11_readBearing_79 : decode cX11_readBearing 79 = .ok (.iload_n 3, 1) := by decide +kernel
theorem dX11_readBearing_80 : decode cX11_readBearing 80 = .ok (.ifCond .ne 7, 3) := by decide +kernel
theorem dX11_readBearing_83 : decode cX11_readBearing 83 = .ok (.iconst 1, 1) := by decide +kernel
theorem dX11_readBearing_84 : decode cX11_readBearing 84 = .ok (.goto 4, 3) := by decide +kernel
theorem dX11_readBearing_87 : decode cX11_readBearing 87 = .ok (.iconst 0, 1) := by decide +kernel
theorem dX11_readBearing_88 : decode cX11_readBearing 88 = .ok (.invokevirtual 211, 3) := by decide +kernel
theorem dX11_readBearing_91 : decode cX11_readBearing 91 = .ok (.ifCond .ne 5, 3) := by decide +kernel
theorem dX11_readBearing_94 : decode cX11_readBearing 94 = .ok (.iconst 0, 1) := by decide +kernel
theorem dX11_readBearing_95 : decode cX11_readBearing 95 = .ok (.ireturn, 1) := by decide +kernel
theorem dX11_readBearing_96 : decode cX11_readBearing 96 = .ok (.aload_n 0, 1) := by decide +kernel
theorem dX11_readBearing_97 : decode cX11_readBearing 97 = .ok (.getfield 37, 3) := by decide +kernel
theorem dX11_readBearing_100 : decode cX11_readBearing 100 = .ok (.bipush 58, 2) := by decide +kernel
theorem dX11_readBearing_102 : decode cX11_readBearing 102 = .ok (.iconst 3, 1) := by decide +kernel
theorem dX11_readBearing_103 : decode cX11_readBearing 103 = .ok (.iload_n 1, 1) := by decide +kernel
theorem dX11_readBearing_104 : decode cX11_readBearing 104 = .ok (.imul, 1) := by decide +kernel
theorem dX11_readBearing_105 : decode cX11_readBearing 105 = .ok (.iadd, 1) := by decide +kernel
theorem dX11_readBearing_106 : decode cX11_readBearing 106 = .ok (.iload_n 2, 1) := by decide +kernel
theorem dX11_readBearing_107 : decode cX11_readBearing 107 = .ok (.iastore, 1) := by decide +kernel
theorem dX11_readBearing_108 : decode cX11_readBearing 108 = .ok (.aload_n 0, 1) := by decide +kernel
theorem dX11_readBearing_109 : decode cX11_readBearing 109 = .ok (.getfield 37, 3) := by decide +kernel
theorem dX11_readBearing_112 : decode cX11_readBearing 112 = .ok (.bipush 58, 2) := by decide +kernel
theorem dX11_readBearing_114 : decode cX11_readBearing 114 = .ok (.iconst 3, 1) := by decide +kernel
theorem dX11_readBearing_115 : decode cX11_readBearing 115 = .ok (.iload_n 1, 1) := by decide +kernel
theorem dX11_readBearing_116 : decode cX11_readBearing 116 = .ok (.imul, 1) := by decide +kernel
theorem dX11_readBearing_117 : decode cX11_readBearing 117 = .ok (.iadd, 1) := by decide +kernel
theorem dX11_readBearing_118 : decode cX11_readBearing 118 = .ok (.iconst 1, 1) := by decide +kernel
theorem dX11_readBearing_119 : decode cX11_readBearing 119 = .ok (.iadd, 1) := by decide +kernel
theorem dX11_readBearing_120 : decode cX11_readBearing 120 = .ok (.iload_n 3, 1) := by decide +kernel
theorem dX11_readBearing_121 : decode cX11_readBearing 121 = .ok (.iastore, 1) := by decide +kernel
theorem dX11_readBearing_122 : decode cX11_readBearing 122 = .ok (.aload_n 0, 1) := by decide +kernel
theorem dX11_readBearing_123 : decode cX11_readBearing 123 = .ok (.getfield 37, 3) := by decide +kernel
theorem dX11_readBearing_126 : decode cX11_readBearing 126 = .ok (.bipush 58, 2) := by decide +kernel
theorem dX11_readBearing_128 : decode cX11_readBearing 128 = .ok (.iconst 3, 1) := by decide +kernel
theorem dX11_readBearing_129 : decode cX11_readBearing 129 = .ok (.iload_n 1, 1) := by decide +kernel
theorem dX11_readBearing_130 : decode cX11_readBearing 130 = .ok (.imul, 1) := by decide +kernel
theorem dX11_readBearing_131 : decode cX11_readBearing 131 = .ok (.iadd, 1) := by decide +kernel
theorem dX11_readBearing_132 : decode cX11_readBearing 132 = .ok (.iconst 2, 1) := by decide +kernel
theorem dX11_readBearing_133 : decode cX11_readBearing 133 = .ok (.iadd, 1) := by decide +kernel
theorem dX11_readBearing_134 : decode cX11_readBearing 134 = .ok (.aload_n 0, 1) := by decide +kernel
theorem dX11_readBearing_135 : decode cX11_readBearing 135 = .ok (.getfield 179, 3) := by decide +kernel
theorem dX11_readBearing_138 : decode cX11_readBearing 138 = .ok (.iastore, 1) := by decide +kernel
theorem dX11_readBearing_139 : decode cX11_readBearing 139 = .ok (.aload_n 0, 1) := by decide +kernel
theorem dX11_readBearing_140 : decode cX11_readBearing 140 = .ok (.getfield 37, 3) := by decide +kernel
theorem dX11_readBearing_143 : decode cX11_readBearing 143 = .ok (.iconst 4, 1) := by decide +kernel
theorem dX11_readBearing_144 : decode cX11_readBearing 144 = .ok (.dup2, 1) := by decide +kernel
theorem dX11_readBearing_145 : decode cX11_readBearing 145 = .ok (.iaload, 1) := by decide +kernel
theorem dX11_readBearing_146 : decode cX11_readBearing 146 = .ok (.iconst 1, 1) := by decide +kernel
theorem dX11_readBearing_147 : decode cX11_readBearing 147 = .ok (.iadd, 1) := by decide +kernel
theorem dX11_readBearing_148 : decode cX11_readBearing 148 = .ok (.iastore, 1) := by decide +kernel
theorem dX11_readBearing_149 : decode cX11_readBearing 149 = .ok (.iconst 1, 1) := by decide +kernel
theorem dX11_readBearing_150 : decode cX11_readBearing 150 = .ok (.ireturn, 1) := by decide +kernel
theorem dX11_field_0 : decode cX11_field 0 = .ok (.aload_n 0, 1) := by decide +kernel
theorem dX11_field_1 : decode cX11_field 1 = .ok (.iconst 0, 1) := by decide +kernel
theorem dX11_field_2 : decode cX11_field 2 = .ok (.putfield 1, 3) := by decide +kernel
theorem dX11_field_5 : decode cX11_field 5 = .ok (.aload_n 0, 1) := by decide +kernel
theorem dX11_field_6 : decode cX11_field 6 = .ok (.sipush 900, 3) := by decide +kernel
theorem dX11_field_9 : decode cX11_field 9 = .ok (.invokevirtual 218, 3) := by decide +kernel
theorem dX11_field_12 : decode cX11_field 12 = .ok (.aload_n 0, 1) := by decide +kernel
theorem dX11_field_13 : decode cX11_field 13 = .ok (.iconst 0, 1) := by decide +kernel
theorem dX11_field_14 : decode cX11_field 14 = .ok (.putfield 160, 3) := by decide +kernel
theorem dX11_field_17 : decode cX11_field 17 = .ok (.aload_n 0, 1) := by decide +kernel
theorem dX11_field_18 : decode cX11_field 18 = .ok (.iconst 0, 1) := by decide +kernel
theorem dX11_field_19 : decode cX11_field 19 = .ok (.putfield 221, 3) := by decide +kernel
theorem dX11_field_22 : decode cX11_field 22 = .ok (.aload_n 0, 1) := by decide +kernel
theorem dX11_field_23 : decode cX11_field 23 = .ok (.iconst 0, 1) := by decide +kernel
theorem dX11_field_24 : decode cX11_field 24 = .ok (.putfield 194, 3) := by decide +kernel
theorem dX11_field_27 : decode cX11_field 27 = .ok (.iconst 0, 1) := by decide +kernel
theorem dX11_field_28 : decode cX11_field 28 = .ok (.istore_n 1, 1) := by decide +kernel
theorem dX11_field_29 : decode cX11_field 29 = .ok (.iload_n 1, 1) := by decide +kernel
theorem dX11_field_30 : decode cX11_field 30 = .ok (.bipush 82, 2) := by decide +kernel
theorem dX11_field_32 : decode cX11_field 32 = .ok (.if_icmp .ge 16, 3) := by decide +kernel
theorem dX11_field_35 : decode cX11_field 35 = .ok (.aload_n 0, 1) := by decide +kernel
theorem dX11_field_36 : decode cX11_field 36 = .ok (.getfield 37, 3) := by decide +kernel
theorem dX11_field_39 : decode cX11_field 39 = .ok (.iload_n 1, 1) := by decide +kernel
theorem dX11_field_40 : decode cX11_field 40 = .ok (.iconst 0, 1) := by decide +kernel
theorem dX11_field_41 : decode cX11_field 41 = .ok (.iastore, 1) := by decide +kernel
theorem dX11_field_42 : decode cX11_field 42 = .ok (.iinc 1 1, 3) := by decide +kernel
theorem dX11_field_45 : decode cX11_field 45 = .ok (.goto (-16), 3) := by decide +kernel
theorem dX11_field_48 : decode cX11_field 48 = .ok (.aload_n 0, 1) := by decide +kernel
theorem dX11_field_49 : decode cX11_field 49 = .ok (.getfield 37, 3) := by decide +kernel
theorem dX11_field_52 : decode cX11_field 52 = .ok (.iconst 0, 1) := by decide +kernel
theorem dX11_field_53 : decode cX11_field 53 = .ok (.bipush 12, 2) := by decide +kernel
theorem dX11_field_55 : decode cX11_field 55 = .ok (.iastore, 1) := by decide +kernel
theorem dX11_field_56 : decode cX11_field 56 = .ok (.aload_n 0, 1) := by decide +kernel
theorem dX11_field_57 : decode cX11_field 57 = .ok (.invokevirtual 172, 3) := by decide +kernel
theorem dX11_field_60 : decode cX11_field 60 = .ok (.aload_n 0, 1) := by decide +kernel
theorem dX11_field_61 : decode cX11_field 61 = .ok (.getfield 143, 3) := by decide +kernel
theorem dX11_field_64 : decode cX11_field 64 = .ok (.ifCond .eq 39, 3) := by decide +kernel
theorem dX11_field_67 : decode cX11_field 67 = .ok (.aload_n 0, 1) := by decide +kernel
theorem dX11_field_68 : decode cX11_field 68 = .ok (.invokevirtual 224, 3) := by decide +kernel
theorem dX11_field_71 : decode cX11_field 71 = .ok (.ifCond .eq 12, 3) := by decide +kernel
theorem dX11_field_74 : decode cX11_field 74 = .ok (.aload_n 0, 1) := by decide +kernel
theorem dX11_field_75 : decode cX11_field 75 = .ok (.bipush 59, 2) := by decide +kernel
theorem dX11_field_77 : decode cX11_field 77 = .ok (.invokevirtual 227, 3) := by decide +kernel
theorem dX11_field_80 : decode cX11_field 80 = .ok (.ifCond .ne 10, 3) := by decide +kernel
theorem dX11_field_83 : decode cX11_field 83 = .ok (.iconst (-1), 1) := by decide +kernel
theorem dX11_field_84 : decode cX11_field 84 = .ok (.aload_n 0, 1) := by decide +kernel
theorem dX11_field_85 : decode cX11_field 85 = .ok (.getfield 163, 3) := by decide +kernel
theorem dX11_field_88 : decode cX11_field 88 = .ok (.isub, 1) := by decide +kernel
theorem dX11_field_89 : decode cX11_field 89 = .ok (.ireturn, 1) := by decide +kernel
theorem dX11_field_90 : decode cX11_field 90 = .ok (.aload_n 0, 1) := by decide +kernel
theorem dX11_field_91 : decode cX11_field 91 = .ok (.dup, 1) := by decide +kernel
theorem dX11_field_92 : decode cX11_field 92 = .ok (.getfield 221, 3) := by decide +kernel
theorem dX11_field_95 : decode cX11_field 95 = .ok (.iconst 1, 1) := by decide +kernel
theorem dX11_field_96 : decode cX11_field 96 = .ok (.iadd, 1) := by decide +kernel
theorem dX11_field_97 : decode cX11_field 97 = .ok (.putfield 221, 3) := by decide +kernel
theorem dX11_field_100 : decode cX11_field 100 = .ok (.goto (-40), 3) := by decide +kernel
theorem dX11_field_103 : decode cX11_field 103 = .ok (.iconst 0, 1) := by decide +kernel
theorem dX11_field_104 : decode cX11_field 104 = .ok (.istore_n 1, 1) := by decide +kernel
theorem dX11_field_105 : decode cX11_field 105 = .ok (.iload_n 1, 1) := by decide +kernel
theorem dX11_field_106 : decode cX11_field 106 = .ok (.bipush 82, 2) := by decide +kernel
theorem dX11_field_108 : decode cX11_field 108 = .ok (.if_icmp .ge 21, 3) := by decide +kernel
theorem dX11_field_111 : decode cX11_field 111 = .ok (.aload_n 0, 1) := by decide +kernel
theorem dX11_field_112 : decode cX11_field 112 = .ok (.getfield 33, 3) := by decide +kernel
theorem dX11_field_115 : decode cX11_field 115 = .ok (.iload_n 1, 1) := by decide +kernel
theorem dX11_field_116 : decode cX11_field 116 = .ok (.aload_n 0, 1) := by decide +kernel
theorem dX11_field_117 : decode cX11_field 117 = .ok (.getfield 37, 3) := by decide +kernel
theorem dX11_field_120 : decode cX11_field 120 = .ok (.iload_n 1, 1) := by decide +kernel
theorem dX11_field_121 : decode cX11_field 121 = .ok (.iaload, 1) := by decide +kernel
theorem dX11_field_122 : decode cX11_field 122 = .ok (.iastore, 1) := by decide +kernel
theorem dX11_field_123 : decode cX11_field 123 = .ok (.iinc 1 1, 3) := by decide +kernel
theorem dX11_field_126 : decode cX11_field 126 = .ok (.goto (-21), 3) := by decide +kernel
theorem dX11_field_129 : decode cX11_field 129 = .ok (.iconst 0, 1) := by decide +kernel
theorem dX11_field_130 : decode cX11_field 130 = .ok (.istore_n 1, 1) := by decide +kernel
theorem dX11_field_131 : decode cX11_field 131 = .ok (.iload_n 1, 1) := by decide +kernel
theorem dX11_field_132 : decode cX11_field 132 = .ok (.bipush 10, 2) := by decide +kernel
theorem dX11_field_134 : decode cX11_field 134 = .ok (.if_icmp .ge 24, 3) := by decide +kernel
theorem dX11_field_137 : decode cX11_field 137 = .ok (.aload_n 0, 1) := by decide +kernel
theorem dX11_field_138 : decode cX11_field 138 = .ok (.getfield 40, 3) := by decide +kernel
theorem dX11_field_141 : decode cX11_field 141 = .ok (.iload_n 1, 1) := by decide +kernel
theorem dX11_field_142 : decode cX11_field 142 = .ok (.aload_n 0, 1) := by decide +kernel
theorem dX11_field_143 : decode cX11_field 143 = .ok (.getfield 40, 3) := by decide +kernel
theorem dX11_field_146 : decode cX11_field 146 = .ok (.bipush 10, 2) := by decide +kernel
theorem dX11_field_148 : decode cX11_field 148 = .ok (.iload_n 1, 1) := by decide +kernel
theorem dX11_field_149 : decode cX11_field 149 = .ok (.iadd, 1) := by decide +kernel
theorem dX11_field_150 : decode cX11_field 150 = .ok (.laload, 1) := by decide +kernel
theorem dX11_field_151 : decode cX11_field 151 = .ok (.lastore, 1) := by decide +kernel
theorem dX11_field_152 : decode cX11_field 152 = .ok (.iinc 1 1, 3) := by decide +kernel
theorem dX11_field_155 : decode cX11_field 155 = .ok (.goto (-24), 3) := by decide +kernel
theorem dX11_field_158 : decode cX11_field 158 = .ok (.aload_n 0, 1) := by decide +kernel
theorem dX11_field_159 : decode cX11_field 159 = .ok (.invokevirtual 130, 3) := by decide +kernel
theorem dX11_field_162 : decode cX11_field 162 = .ok (.aload_n 0, 1) := by decide +kernel
theorem dX11_field_163 : decode cX11_field 163 = .ok (.getfield 221, 3) := by decide +kernel
theorem dX11_field_166 : decode cX11_field 166 = .ok (.ireturn, 1) := by decide +kernel
theorem dX11_fault_0 : decode cX11_fault 0 = .ok (.aload_n 0, 1) := by decide +kernel
theorem dX11_fault_1 : decode cX11_fault 1 = .ok (.iconst 0, 1) := by decide +kernel
theorem dX11_fault_2 : decode cX11_fault 2 = .ok (.putfield 1, 3) := by decide +kernel
theorem dX11_fault_5 : decode cX11_fault 5 = .ok (.aload_n 0, 1) := by decide +kernel
theorem dX11_fault_6 : decode cX11_fault 6 = .ok (.getfield 160, 3) := by decide +kernel
theorem dX11_fault_9 : decode cX11_fault 9 = .ok (.ireturn, 1) := by decide +kernel
theorem dX11_isPrime_0 : decode cX11_isPrime 0 = .ok (.iconst 2, 1) := by decide +kernel
theorem dX11_isPrime_1 : decode cX11_isPrime 1 = .ok (.istore_n 1, 1) := by decide +kernel
theorem dX11_isPrime_2 : decode cX11_isPrime 2 = .ok (.iload_n 1, 1) := by decide +kernel
theorem dX11_isPrime_3 : decode cX11_isPrime 3 = .ok (.iload_n 1, 1) := by decide +kernel
theorem dX11_isPrime_4 : decode cX11_isPrime 4 = .ok (.imul, 1) := by decide +kernel
theorem dX11_isPrime_5 : decode cX11_isPrime 5 = .ok (.iload_n 0, 1) := by decide +kernel
theorem dX11_isPrime_6 : decode cX11_isPrime 6 = .ok (.if_icmp .gt 17, 3) := by decide +kernel
theorem dX11_isPrime_9 : decode cX11_isPrime 9 = .ok (.iload_n 0, 1) := by decide +kernel
theorem dX11_isPrime_10 : decode cX11_isPrime 10 = .ok (.iload_n 1, 1) := by decide +kernel
theorem dX11_isPrime_11 : decode cX11_isPrime 11 = .ok (.irem, 1) := by decide +kernel
theorem dX11_isPrime_12 : decode cX11_isPrime 12 = .ok (.ifCond .ne 5, 3) := by decide +kernel
theorem dX11_isPrime_15 : decode cX11_isPrime 15 = .ok (.iconst 0, 1) := by decide +kernel
theorem dX11_isPrime_16 : decode cX11_isPrime 16 = .ok (.ireturn, 1) := by decide +kernel
theorem dX11_isPrime_17 : decode cX11_isPrime 17 = .ok (.iinc 1 1, 3) := by decide +kernel
theorem dX11_isPrime_20 : decode cX11_isPrime 20 = .ok (.goto (-18), 3) := by decide +kernel
theorem dX11_isPrime_23 : decode cX11_isPrime 23 = .ok (.iconst 1, 1) := by decide +kernel
theorem dX11_isPrime_24 : decode cX11_isPrime 24 = .ok (.ireturn, 1) := by decide +kernel
theorem dX11_power_0 : decode cX11_power 0 = .ok (.iconst 1, 1) := by decide +kernel
theorem dX11_power_1 : decode cX11_power 1 = .ok (.istore_n 3, 1) := by decide +kernel
theorem dX11_power_2 : decode cX11_power 2 = .ok (.iconst 0, 1) := by decide +kernel
theorem dX11_power_3 : decode cX11_power 3 = .ok (.istore 4, 2) := by decide +kernel
theorem dX11_power_5 : decode cX11_power 5 = .ok (.iload 4, 2) := by decide +kernel
theorem dX11_power_7 : decode cX11_power 7 = .ok (.iload_n 2, 1) := by decide +kernel
theorem dX11_power_8 : decode cX11_power 8 = .ok (.if_icmp .ge 18, 3) := by decide +kernel
theorem dX11_power_11 : decode cX11_power 11 = .ok (.iload_n 3, 1) := by decide +kernel
theorem dX11_power_12 : decode cX11_power 12 = .ok (.iload_n 1, 1) := by decide +kernel
theorem dX11_power_13 : decode cX11_power 13 = .ok (.imul, 1) := by decide +kernel
theorem dX11_power_14 : decode cX11_power 14 = .ok (.aload_n 0, 1) := by decide +kernel
theorem dX11_power_15 : decode cX11_power 15 = .ok (.getfield 230, 3) := by decide +kernel
theorem dX11_power_18 : decode cX11_power 18 = .ok (.irem, 1) := by decide +kernel
theorem dX11_power_19 : decode cX11_power 19 = .ok (.istore_n 3, 1) := by decide +kernel
theorem dX11_power_20 : decode cX11_power 20 = .ok (.iinc 4 1, 3) := by decide +kernel
theorem dX11_power_23 : decode cX11_power 23 = .ok (.goto (-18), 3) := by decide +kernel
theorem dX11_power_26 : decode cX11_power 26 = .ok (.iload_n 3, 1) := by decide +kernel
theorem dX11_power_27 : decode cX11_power 27 = .ok (.ireturn, 1) := by decide +kernel
theorem dX11_comesRound_0 : decode cX11_comesRound 0 = .ok (.iconst 1, 1) := by decide +kernel
theorem dX11_comesRound_1 : decode cX11_comesRound 1 = .ok (.istore_n 3, 1) := by decide +kernel
theorem dX11_comesRound_2 : decode cX11_comesRound 2 = .ok (.iconst 1, 1) := by decide +kernel
theorem dX11_comesRound_3 : decode cX11_comesRound 3 = .ok (.istore 4, 2) := by decide +kernel
theorem dX11_comesRound_5 : decode cX11_comesRound 5 = .ok (.iload 4, 2) := by decide +kernel
theorem dX11_comesRound_7 : decode cX11_comesRound 7 = .ok (.iload_n 2, 1) := by decide +kernel
theorem dX11_comesRound_8 : decode cX11_comesRound 8 = .ok (.if_icmp .gt 35, 3) := by decide +kernel
theorem dX11_comesRound_11 : decode cX11_comesRound 11 = .ok (.iload_n 3, 1) := by decide +kernel
theorem dX11_comesRound_12 : decode cX11_comesRound 12 = .ok (.iload_n 1, 1) := by decide +kernel
theorem dX11_comesRound_13 : decode cX11_comesRound 13 = .ok (.imul, 1) := by decide +kernel
theorem dX11_comesRound_14 : decode cX11_comesRound 14 = .ok (.aload_n 0, 1) := by decide +kernel
theorem dX11_comesRound_15 : decode cX11_comesRound 15 = .ok (.getfield 230, 3) := by decide +kernel
theorem dX11_comesRound_18 : decode cX11_comesRound 18 = .ok (.irem, 1) := by decide +kernel
theorem dX11_comesRound_19 : decode cX11_comesRound 19 = .ok (.istore_n 3, 1) := by decide +kernel
theorem dX11_comesRound_20 : decode cX11_comesRound 20 = .ok (.iload_n 3, 1) := by decide +kernel
theorem dX11_comesRound_21 : decode cX11_comesRound 21 = .ok (.iconst 1, 1) := by decide +kernel
theorem dX11_comesRound_22 : decode cX11_comesRound 22 = .ok (.if_icmp .ne 15, 3) := by decide +kernel
theorem dX11_comesRound_25 : decode cX11_comesRound 25 = .ok (.iload 4, 2) := by decide +kernel
theorem dX11_comesRound_27 : decode cX11_comesRound 27 = .ok (.iload_n 2, 1) := by decide +kernel
theorem dX11_comesRound_28 : decode cX11_comesRound 28 = .ok (.if_icmp .ne 7, 3) := by decide +kernel
theorem dX11_comesRound_31 : decode cX11_comesRound 31 = .ok (.iconst 1, 1) := by decide +kernel
theorem dX11_comesRound_32 : decode cX11_comesRound 32 = .ok (.goto 4, 3) := by decide +kernel
theorem dX11_comesRound_35 : decode cX11_comesRound 35 = .ok (.iconst 0, 1) := by decide +kernel
theorem dX11_comesRound_36 : decode cX11_comesRound 36 = .ok (.ireturn, 1) := by decide +kernel
theorem dX11_comesRound_37 : decode cX11_comesRound 37 = .ok (.iinc 4 1, 3) := by decide +kernel
theorem dX11_comesRound_40 : decode cX11_comesRound 40 = .ok (.goto (-35), 3) := by decide +kernel
theorem dX11_comesRound_43 : decode cX11_comesRound 43 = .ok (.iconst 0, 1) := by decide +kernel
theorem dX11_comesRound_44 : decode cX11_comesRound 44 = .ok (.ireturn, 1) := by decide +kernel
theorem dX11_settle_0 : decode cX11_settle 0 = .ok (.aload_n 0, 1) := by decide +kernel
theorem dX11_settle_1 : decode cX11_settle 1 = .ok (.getfield 33, 3) := by decide +kernel
theorem dX11_settle_4 : decode cX11_settle 4 = .ok (.iconst 0, 1) := by decide +kernel
theorem dX11_settle_5 : decode cX11_settle 5 = .ok (.iaload, 1) := by decide +kernel
theorem dX11_settle_6 : decode cX11_settle 6 = .ok (.istore_n 1, 1) := by decide +kernel
theorem dX11_settle_7 : decode cX11_settle 7 = .ok (.aload_n 0, 1) := by decide +kernel
theorem dX11_settle_8 : decode cX11_settle 8 = .ok (.sipush 1001, 3) := by decide +kernel
theorem dX11_settle_11 : decode cX11_settle 11 = .ok (.putfield 230, 3) := by decide +kernel
theorem dX11_settle_14 : decode cX11_settle 14 = .ok (.aload_n 0, 1) := by decide +kernel
theorem dX11_settle_15 : decode cX11_settle 15 = .ok (.getfield 230, 3) := by decide +kernel
theorem dX11_settle_18 : decode cX11_settle 18 = .ok (.iload_n 1, 1) := by decide +kernel
theorem dX11_settle_19 : decode cX11_settle 19 = .ok (.irem, 1) := by decide +kernel
theorem dX11_settle_20 : decode cX11_settle 20 = .ok (.iconst 1, 1) := by decide +kernel
theorem dX11_settle_21 : decode cX11_settle 21 = .ok (.iload_n 1, 1) := by decide +kernel
theorem dX11_settle_22 : decode cX11_settle 22 = .ok (.irem, 1) := by decide +kernel
theorem dX11_settle_23 : decode cX11_settle 23 = .ok (.if_icmp .ne 13, 3) := by decide +kernel
theorem dX11_settle_26 : decode cX11_settle 26 = .ok (.aload_n 0, 1) := by decide +kernel
theorem dX11_settle_27 : decode cX11_settle 27 = .ok (.getfield 230, 3) := by decide +kernel
theorem dX11_settle_30 : decode cX11_settle 30 = .ok (.invokestatic 233, 3) := by decide +kernel
theorem dX11_settle_33 : decode cX11_settle 33 = .ok (.ifCond .ne 16, 3) := by decide +kernel
theorem dX11_settle_36 : decode cX11_settle 36 = .ok (.aload_n 0, 1) := by decide +kernel
theorem dX11_settle_37 : decode cX11_settle 37 = .ok (.dup, 1) := by decide +kernel
theorem dX11_settle_38 : decode cX11_settle 38 = .ok (.getfield 230, 3) := by decide +kernel
theorem dX11_settle_41 : decode cX11_settle 41 = .ok (.iconst 1, 1) := by decide +kernel
theorem dX11_settle_42 : decode cX11_settle 42 = .ok (.iadd, 1) := by decide +kernel
theorem dX11_settle_43 : decode cX11_settle 43 = .ok (.putfield 230, 3) := by decide +kernel
theorem dX11_settle_46 : decode cX11_settle 46 = .ok (.goto (-32), 3) := by decide +kernel
theorem dX11_settle_49 : decode cX11_settle 49 = .ok (.aload_n 0, 1) := by decide +kernel
theorem dX11_settle_50 : decode cX11_settle 50 = .ok (.iconst 1, 1) := by decide +kernel
theorem dX11_settle_51 : decode cX11_settle 51 = .ok (.putfield 236, 3) := by decide +kernel
theorem dX11_settle_54 : decode cX11_settle 54 = .ok (.aload_n 0, 1) := by decide +kernel
theorem dX11_settle_55 : decode cX11_settle 55 = .ok (.aload_n 0, 1) := by decide +kernel
theorem dX11_settle_56 : decode cX11_settle 56 = .ok (.getfield 236, 3) := by decide +kernel
theorem dX11_settle_59 : decode cX11_settle 59 = .ok (.iload_n 1, 1) := by decide +kernel
theorem dX11_settle_60 : decode cX11_settle 60 = .ok (.invokevirtual 239, 3) := by decide +kernel
theorem dX11_settle_63 : decode cX11_settle 63 = .ok (.ifCond .ne 16, 3) := by decide +kernel
theorem dX11_settle_66 : decode cX11_settle 66 = .ok (.aload_n 0, 1) := by decide +kernel
theorem dX11_settle_67 : decode cX11_settle 67 = .ok (.dup, 1) := by decide +kernel
theorem dX11_settle_68 : decode cX11_settle 68 = .ok (.getfield 236, 3) := by decide +kernel
theorem dX11_settle_71 : decode cX11_settle 71 = .ok (.iconst 1, 1) := by decide +kernel
theorem dX11_settle_72 : decode cX11_settle 72 = .ok (.iadd, 1) := by decide +kernel
theorem dX11_settle_73 : decode cX11_settle 73 = .ok (.putfield 236, 3) := by decide +kernel
theorem dX11_settle_76 : decode cX11_settle 76 = .ok (.goto (-22), 3) := by decide +kernel
theorem dX11_settle_79 : decode cX11_settle 79 = .ok (.iconst 0, 1) := by decide +kernel
theorem dX11_settle_80 : decode cX11_settle 80 = .ok (.istore_n 2, 1) := by decide +kernel
theorem dX11_settle_81 : decode cX11_settle 81 = .ok (.iload_n 2, 1) := by decide +kernel
theorem dX11_settle_82 : decode cX11_settle 82 = .ok (.iload_n 1, 1) := by decide +kernel
theorem dX11_settle_83 : decode cX11_settle 83 = .ok (.if_icmp .ge 24, 3) := by decide +kernel
theorem dX11_settle_86 : decode cX11_settle 86 = .ok (.aload_n 0, 1) := by decide +kernel
theorem dX11_settle_87 : decode cX11_settle 87 = .ok (.getfield 47, 3) := by decide +kernel
theorem dX11_settle_90 : decode cX11_settle 90 = .ok (.iload_n 2, 1) := by decide +kernel
theorem dX11_settle_91 : decode cX11_settle 91 = .ok (.aload_n 0, 1) := by decide +kernel
theorem dX11_settle_92 : decode cX11_settle 92 = .ok (.aload_n 0, 1) := by decide +kernel
theorem dX11_settle_93 : decode cX11_settle 93 = .ok (.getfield 236, 3) := by decide +kernel
theorem dX11_settle_96 : decode cX11_settle 96 = .ok (.iload_n 2, 1) := by decide +kernel
theorem dX11_settle_97 : decode cX11_settle 97 = .ok (.invokevirtual 242, 3) := by decide +kernel
theorem dX11_settle_100 : decode cX11_settle 100 = .ok (.iastore, 1) := by decide +kernel
theorem dX11_settle_101 : decode cX11_settle 101 = .ok (.iinc 2 1, 3) := by decide +kernel
theorem dX11_settle_104 : decode cX11_settle 104 = .ok (.goto (-23), 3) := by decide +kernel
theorem dX11_settle_107 : decode cX11_settle 107 = .ok (.return_, 1) := by decide +kernel
theorem dX11_waveOf_0 : decode cX11_waveOf 0 = .ok (.aload_n 0, 1) := by decide +kernel
theorem dX11_waveOf_1 : decode cX11_waveOf 1 = .ok (.getfield 47, 3) := by decide +kernel
theorem dX11_waveOf_4 : decode cX11_waveOf 4 = .ok (.iload_n 1, 1) := by decide +kernel
theorem dX11_waveOf_5 : decode cX11_waveOf 5 = .ok (.iload_n 2, 1) := by decide +kernel
theorem dX11_waveOf_6 : decode cX11_waveOf 6 = .ok (.imul, 1) := by decide +kernel
theorem dX11_waveOf_7 : decode cX11_waveOf 7 = .ok (.aload_n 0, 1) := by decide +kernel
theorem dX11_waveOf_8 : decode cX11_waveOf 8 = .ok (.getfield 33, 3) := by decide +kernel
theorem dX11_waveOf_11 : decode cX11_waveOf 11 = .ok (.iconst 0, 1) := by decide +kernel
theorem dX11_waveOf_12 : decode cX11_waveOf 12 = .ok (.iaload, 1) := by decide +kernel
theorem dX11_waveOf_13 : decode cX11_waveOf 13 = .ok (.irem, 1) := by decide +kernel
theorem dX11_waveOf_14 : decode cX11_waveOf 14 = .ok (.iaload, 1) := by decide +kernel
theorem dX11_waveOf_15 : decode cX11_waveOf 15 = .ok (.ireturn, 1) := by decide +kernel
theorem dX11_inverse_0 : decode cX11_inverse 0 = .ok (.iconst 1, 1) := by decide +kernel
theorem dX11_inverse_1 : decode cX11_inverse 1 = .ok (.istore_n 2, 1) := by decide +kernel
theorem dX11_inverse_2 : decode cX11_inverse 2 = .ok (.iload_n 1, 1) := by decide +kernel
theorem dX11_inverse_3 : decode cX11_inverse 3 = .ok (.istore_n 3, 1) := by decide +kernel
theorem dX11_inverse_4 : decode cX11_inverse 4 = .ok (.aload_n 0, 1) := by decide +kernel
theorem dX11_inverse_5 : decode cX11_inverse 5 = .ok (.getfield 230, 3) := by decide +kernel
theorem dX11_inverse_8 : decode cX11_inverse 8 = .ok (.iconst 2, 1) := by decide +kernel
theorem dX11_inverse_9 : decode cX11_inverse 9 = .ok (.isub, 1) := by decide +kernel
theorem dX11_inverse_10 : decode cX11_inverse 10 = .ok (.istore 4, 2) := by decide +kernel
theorem dX11_inverse_12 : decode cX11_inverse 12 = .ok (.iload 4, 2) := by decide +kernel
theorem dX11_inverse_14 : decode cX11_inverse 14 = .ok (.ifCond .le 38, 3) := by decide +kernel
theorem dX11_inverse_17 : decode cX11_inverse 17 = .ok (.iload 4, 2) := by decide +kernel
theorem dX11_inverse_19 : decode cX11_inverse 19 = .ok (.iconst 1, 1) := by decide +kernel
theorem dX11_inverse_20 : decode cX11_inverse 20 = .ok (.iand, 1) := by decide +kernel
theorem dX11_inverse_21 : decode cX11_inverse 21 = .ok (.iconst 1, 1) := by decide +kernel
theorem dX11_inverse_22 : decode cX11_inverse 22 = .ok (.if_icmp .ne 12, 3) := by decide +kernel
theorem dX11_inverse_25 : decode cX11_inverse 25 = .ok (.iload_n 2, 1) := by decide +kernel
theorem dX11_inverse_26 : decode cX11_inverse 26 = .ok (.iload_n 3, 1) := by decide +kernel
theorem dX11_inverse_27 : decode cX11_inverse 27 = .ok (.imul, 1) := by decide +kernel
theorem dX11_inverse_28 : decode cX11_inverse 28 = .ok (.aload_n 0, 1) := by decide +kernel
theorem dX11_inverse_29 : decode cX11_inverse 29 = .ok (.getfield 230, 3) := by decide +kernel
theorem dX11_inverse_32 : decode cX11_inverse 32 = .ok (.irem, 1) := by decide +kernel
theorem dX11_inverse_33 : decode cX11_inverse 33 = .ok (.istore_n 2, 1) := by decide +kernel
theorem dX11_inverse_34 : decode cX11_inverse 34 = .ok (.iload_n 3, 1) := by decide +kernel
theorem dX11_inverse_35 : decode cX11_inverse 35 = .ok (.iload_n 3, 1) := by decide +kernel
theorem dX11_inverse_36 : decode cX11_inverse 36 = .ok (.imul, 1) := by decide +kernel
theorem dX11_inverse_37 : decode cX11_inverse 37 = .ok (.aload_n 0, 1) := by decide +kernel
theorem dX11_inverse_38 : decode cX11_inverse 38 = .ok (.getfield 230, 3) := by decide +kernel
theorem dX11_inverse_41 : decode cX11_inverse 41 = .ok (.irem, 1) := by decide +kernel
theorem dX11_inverse_42 : decode cX11_inverse 42 = .ok (.istore_n 3, 1) := by decide +kernel
theorem dX11_inverse_43 : decode cX11_inverse 43 = .ok (.iload 4, 2) := by decide +kernel
theorem dX11_inverse_45 : decode cX11_inverse 45 = .ok (.iconst 1, 1) := by decide +kernel
theorem dX11_inverse_46 : decode cX11_inverse 46 = .ok (.ishr, 1) := by decide +kernel
theorem dX11_inverse_47 : decode cX11_inverse 47 = .ok (.istore 4, 2) := by decide +kernel
theorem dX11_inverse_49 : decode cX11_inverse 49 = .ok (.goto (-37), 3) := by decide +kernel
theorem dX11_inverse_52 : decode cX11_inverse 52 = .ok (.iload_n 2, 1) := by decide +kernel
theorem dX11_inverse_53 : decode cX11_inverse 53 = .ok (.ireturn, 1) := by decide +kernel
theorem dX11_steps_0 : decode cX11_steps 0 = .ok (.aload_n 0, 1) := by decide +kernel
theorem dX11_steps_1 : decode cX11_steps 1 = .ok (.iconst 0, 1) := by decide +kernel
theorem dX11_steps_2 : decode cX11_steps 2 = .ok (.putfield 245, 3) := by decide +kernel
theorem dX11_steps_5 : decode cX11_steps 5 = .ok (.iconst 0, 1) := by decide +kernel
theorem dX11_steps_6 : decode cX11_steps 6 = .ok (.istore_n 2, 1) := by decide +kernel
theorem dX11_steps_7 : decode cX11_steps 7 = .ok (.iload_n 2, 1) := by decide +kernel
theorem dX11_steps_8 : decode cX11_steps 8 = .ok (.iload_n 1, 1) := by decide +kernel
theorem dX11_steps_9 : decode cX11_steps 9 = .ok (.if_icmp .ge 329, 3) := by decide +kernel
theorem dX11_steps_12 : decode cX11_steps 12 = .ok (.aload_n 0, 1) := by decide +kernel
theorem dX11_steps_13 : decode cX11_steps 13 = .ok (.getfield 53, 3) := by decide +kernel
theorem dX11_steps_16 : decode cX11_steps 16 = .ok (.iload_n 2, 1) := by decide +kernel
theorem dX11_steps_17 : decode cX11_steps 17 = .ok (.iconst (-1), 1) := by decide +kernel
theorem dX11_steps_18 : decode cX11_steps 18 = .ok (.iastore, 1) := by decide +kernel
theorem dX11_steps_19 : decode cX11_steps 19 = .ok (.iconst (-1), 1) := by decide +kernel
theorem dX11_steps_20 : decode cX11_steps 20 = .ok (.istore_n 3, 1) := by decide +kernel
theorem dX11_steps_21 : decode cX11_steps 21 = .ok (.aload_n 0, 1) := by decide +kernel
theorem dX11_steps_22 : decode cX11_steps 22 = .ok (.getfield 248, 3) := by decide +kernel
theorem dX11_steps_25 : decode cX11_steps 25 = .ok (.iconst 1, 1) := by decide +kernel
theorem dX11_steps_26 : decode cX11_steps 26 = .ok (.isub, 1) := by decide +kernel
theorem dX11_steps_27 : decode cX11_steps 27 = .ok (.istore 4, 2) := by decide +kernel
theorem dX11_steps_29 : decode cX11_steps 29 = .ok (.iload 4, 2) := by decide +kernel
theorem dX11_steps_31 : decode cX11_steps 31 = .ok (.aload_n 0, 1) := by decide +kernel
theorem dX11_steps_32 : decode cX11_steps 32 = .ok (.getfield 245, 3) := by decide +kernel
theorem dX11_steps_35 : decode cX11_steps 35 = .ok (.if_icmp .lt 29, 3) := by decide +kernel
theorem dX11_steps_38 : decode cX11_steps 38 = .ok (.aload_n 0, 1) := by decide +kernel
theorem dX11_steps_39 : decode cX11_steps 39 = .ok (.getfield 50, 3) := by decide +kernel
theorem dX11_steps_42 : decode cX11_steps 42 = .ok (.aload_n 0, 1) := by decide +kernel
theorem dX11_steps_43 : decode cX11_steps 43 = .ok (.getfield 251, 3) := by decide +kernel
theorem dX11_steps_46 : decode cX11_steps 46 = .ok (.iload 4, 2) := by decide +kernel
theorem dX11_steps_48 : decode cX11_steps 48 = .ok (.imul, 1) := by decide +kernel
theorem dX11_steps_49 : decode cX11_steps 49 = .ok (.iload_n 2, 1) := by decide +kernel
theorem dX11_steps_50 : decode cX11_steps 50 = .ok (.iadd, 1) := by decide +kernel
theorem dX11_steps_51 : decode cX11_steps 51 = .ok (.iaload, 1) := by decide +kernel
theorem dX11_steps_52 : decode cX11_steps 52 = .ok (.ifCond .eq 6, 3) := by decide +kernel
theorem dX11_steps_55 : decode cX11_steps 55 = .ok (.iload 4, 2) := by decide +kernel
theorem dX11_steps_57 : decode cX11_steps 57 = .ok (.istore_n 3, 1) := by decide +kernel
theorem dX11_steps_58 : decode cX11_steps 58 = .ok (.iinc 4 (-1), 3) := by decide +kernel
theorem dX11_steps_61 : decode cX11_steps 61 = .ok (.goto (-32), 3) := by decide +kernel
theorem dX11_steps_64 : decode cX11_steps 64 = .ok (.iload_n 3, 1) := by decide +kernel
theorem dX11_steps_65 : decode cX11_steps 65 = .ok (.ifCond .ge 6, 3) := by decide +kernel
theorem dX11_steps_68 : decode cX11_steps 68 = .ok (.goto 264, 3) := by decide +kernel
theorem dX11_steps_71 : decode cX11_steps 71 = .ok (.aload_n 0, 1) := by decide +kernel
theorem dX11_steps_72 : decode cX11_steps 72 = .ok (.aload_n 0, 1) := by decide +kernel
theorem dX11_steps_73 : decode cX11_steps 73 = .ok (.getfield 50, 3) := by decide +kernel
theorem dX11_steps_76 : decode cX11_steps 76 = .ok (.aload_n 0, 1) := by decide +kernel
theorem dX11_steps_77 : decode cX11_steps 77 = .ok (.getfield 251, 3) := by decide +kernel
theorem dX11_steps_80 : decode cX11_steps 80 = .ok (.iload_n 3, 1) := by decide +kernel
theorem dX11_steps_81 : decode cX11_steps 81 = .ok (.imul, 1) := by decide +kernel
theorem dX11_steps_82 : decode cX11_steps 82 = .ok (.iload_n 2, 1) := by decide +kernel
theorem dX11_steps_83 : decode cX11_steps 83 = .ok (.iadd, 1) := by decide +kernel
theorem dX11_steps_84 : decode cX11_steps 84 = .ok (.iaload, 1) := by decide +kernel
theorem dX11_steps_85 : decode cX11_steps 85 = .ok (.invokevirtual 254, 3) := by decide +kernel
theorem dX11_steps_88 : decode cX11_steps 88 = .ok (.istore 4, 2) := by decide +kernel
theorem dX11_steps_90 : decode cX11_steps 90 = .ok (.iconst 0, 1) := by decide +kernel
theorem dX11_steps_91 : decode cX11_steps 91 = .ok (.istore 5, 2) := by decide +kernel
theorem dX11_steps_93 : decode cX11_steps 93 = .ok (.iload 5, 2) := by decide +kernel
theorem dX11_steps_95 : decode cX11_steps 95 = .ok (.aload_n 0, 1) := by decide +kernel
theorem dX11_steps_96 : decode cX11_steps 96 = .ok (.getfield 251, 3) := by decide +kernel
theorem dX11_steps_99 : decode cX11_steps 99 = .ok (.if_icmp .ge 83, 3) := by decide +kernel
theorem dX11_steps_102 : decode cX11_steps 102 = .ok (.aload_n 0, 1) := by decide +kernel
theorem dX11_steps_103 : decode cX11_steps 103 = .ok (.getfield 50, 3) := by decide +kernel
theorem dX11_steps_106 : decode cX11_steps 106 = .ok (.aload_n 0, 1) := by decide +kernel
theorem dX11_steps_107 : decode cX11_steps 107 = .ok (.getfield 251, 3) := by decide +kernel
theorem dX11_steps_110 : decode cX11_steps 110 = .ok (.iload_n 3, 1) := by decide +kernel
theorem dX11_steps_111 : decode cX11_steps 111 = .ok (.imul, 1) := by decide +kernel
theorem dX11_steps_112 : decode cX11_steps 112 = .ok (.iload 5, 2) := by decide +kernel
theorem dX11_steps_114 : decode cX11_steps 114 = .ok (.iadd, 1) := by decide +kernel
theorem dX11_steps_115 : decode cX11_steps 115 = .ok (.iaload, 1) := by decide +kernel
theorem dX11_steps_116 : decode cX11_steps 116 = .ok (.istore 6, 2) := by decide +kernel
theorem dX11_steps_118 : decode cX11_steps 118 = .ok (.aload_n 0, 1) := by decide +kernel
theorem dX11_steps_119 : decode cX11_steps 119 = .ok (.getfield 50, 3) := by decide +kernel
theorem dX11_steps_122 : decode cX11_steps 122 = .ok (.aload_n 0, 1) := by decide +kernel
theorem dX11_steps_123 : decode cX11_steps 123 = .ok (.getfield 251, 3) := by decide +kernel
theorem dX11_steps_126 : decode cX11_steps 126 = .ok (.iload_n 3, 1) := by decide +kernel
theorem dX11_steps_127 : decode cX11_steps 127 = .ok (.imul, 1) := by decide +kernel
theorem dX11_steps_128 : decode cX11_steps 128 = .ok (.iload 5, 2) := by decide +kernel
theorem dX11_steps_130 : decode cX11_steps 130 = .ok (.iadd, 1) := by decide +kernel
theorem dX11_steps_131 : decode cX11_steps 131 = .ok (.aload_n 0, 1) := by decide +kernel
theorem dX11_steps_132 : decode cX11_steps 132 = .ok (.getfield 50, 3) := by decide +kernel
theorem dX11_steps_135 : decode cX11_steps 135 = .ok (.aload_n 0, 1) := by decide +kernel
theorem dX11_steps_136 : decode cX11_steps 136 = .ok (.getfield 251, 3) := by decide +kernel
theorem dX11_steps_139 : decode cX11_steps 139 = .ok (.aload_n 0, 1) := by decide +kernel
theorem dX11_steps_140 : decode cX11_steps 140 = .ok (.getfield 245, 3) := by decide +kernel
theorem dX11_steps_143 : decode cX11_steps 143 = .ok (.imul, 1) := by decide +kernel
theorem dX11_steps_144 : decode cX11_steps 144 = .ok (.iload 5, 2) := by decide +kernel
theorem dX11_steps_146 : decode cX11_steps 146 = .ok (.iadd, 1) := by decide +kernel
theorem dX11_steps_147 : decode cX11_steps 147 = .ok (.iaload, 1) := by decide +kernel
theorem dX11_steps_148 : decode cX11_steps 148 = .ok (.iastore, 1) := by decide +kernel
theorem dX11_steps_149 : decode cX11_steps 149 = .ok (.aload_n 0, 1) := by decide +kernel
theorem dX11_steps_150 : decode cX11_steps 150 = .ok (.getfield 50, 3) := by decide +kernel
theorem dX11_steps_153 : decode cX11_steps 153 = .ok (.aload_n 0, 1) := by decide +kernel
theorem dX11_steps_154 : decode cX11_steps 154 = .ok (.getfield 251, 3) := by decide +kernel
theorem dX11_steps_157 : decode cX11_steps 157 = .ok (.aload_n 0, 1) := by decide +kernel
theorem dX11_steps_158 : decode cX11_steps 158 = .ok (.getfield 245, 3) := by decide +kernel
theorem dX11_steps_161 : decode cX11_steps 161 = .ok (.imul, 1) := by decide +kernel
theorem dX11_steps_162 : decode cX11_steps 162 = .ok (.iload 5, 2) := by decide +kernel
theorem dX11_steps_164 : decode cX11_steps 164 = .ok (.iadd, 1) := by decide +kernel
theorem dX11_steps_165 : decode cX11_steps 165 = .ok (.iload 6, 2) := by decide +kernel
theorem dX11_steps_167 : decode cX11_steps 167 = .ok (.iload 4, 2) := by decide +kernel
theorem dX11_steps_169 : decode cX11_steps 169 = .ok (.imul, 1) := by decide +kernel
theorem dX11_steps_170 : decode cX11_steps 170 = .ok (.aload_n 0, 1) := by decide +kernel
theorem dX11_steps_171 : decode cX11_steps 171 = .ok (.getfield 230, 3) := by decide +kernel
theorem dX11_steps_174 : decode cX11_steps 174 = .ok (.irem, 1) := by decide +kernel
theorem dX11_steps_175 : decode cX11_steps 175 = .ok (.iastore, 1) := by decide +kernel
theorem dX11_steps_176 : decode cX11_steps 176 = .ok (.iinc 5 1, 3) := by decide +kernel
theorem dX11_steps_179 : decode cX11_steps 179 = .ok (.goto (-86), 3) := by decide +kernel
theorem dX11_steps_182 : decode cX11_steps 182 = .ok (.iconst 0, 1) := by decide +kernel
theorem dX11_steps_183 : decode cX11_steps 183 = .ok (.istore 5, 2) := by decide +kernel
theorem dX11_steps_185 : decode cX11_steps 185 = .ok (.iload 5, 2) := by decide +kernel
theorem dX11_steps_187 : decode cX11_steps 187 = .ok (.aload_n 0, 1) := by decide +kernel
theorem dX11_steps_188 : decode cX11_steps 188 = .ok (.getfield 248, 3) := by decide +kernel
theorem dX11_steps_191 : decode cX11_steps 191 = .ok (.if_icmp .ge 121, 3) := by decide +kernel
theorem dX11_steps_194 : decode cX11_steps 194 = .ok (.aload_n 0, 1) := by decide +kernel
theorem dX11_steps_195 : decode cX11_steps 195 = .ok (.getfield 50, 3) := by decide +kernel
theorem dX11_steps_198 : decode cX11_steps 198 = .ok (.aload_n 0, 1) := by decide +kernel
theorem dX11_steps_199 : decode cX11_steps 199 = .ok (.getfield 251, 3) := by decide +kernel
theorem dX11_steps_202 : decode cX11_steps 202 = .ok (.iload 5, 2) := by decide +kernel
theorem dX11_steps_204 : decode cX11_steps 204 = .ok (.imul, 1) := by decide +kernel
theorem dX11_steps_205 : decode cX11_steps 205 = .ok (.iload_n 2, 1) := by decide +kernel
theorem dX11_steps_206 : decode cX11_steps 206 = .ok (.iadd, 1) := by decide +kernel
theorem dX11_steps_207 : decode cX11_steps 207 = .ok (.iaload, 1) := by decide +kernel
theorem dX11_steps_208 : decode cX11_steps 208 = .ok (.istore 6, 2) := by decide +kernel
theorem dX11_steps_210 : decode cX11_steps 210 = .ok (.iload 5, 2) := by decide +kernel
theorem dX11_steps_212 : decode cX11_steps 212 = .ok (.aload_n 0, 1) := by decide +kernel
theorem dX11_steps_213 : decode cX11_steps 213 = .ok (.getfield 245, 3) := by decide +kernel
theorem dX11_steps_216 : decode cX11_steps 216 = .ok (.if_icmp .eq 90, 3) := by decide +kernel
theorem dX11_steps_219 : decode cX11_steps 219 = .ok (.iload 6, 2) := by decide +kernel
theorem dX11_steps_221 : decode cX11_steps 221 = .ok (.ifCond .ne 6, 3) := by decide +kernel
theorem dX11_steps_224 : decode cX11_steps 224 = .ok (.goto 82, 3) := by decide +kernel
theorem dX11_steps_227 : decode cX11_steps 227 = .ok (.iconst 0, 1) := by decide +kernel
theorem dX11_steps_228 : decode cX11_steps 228 = .ok (.istore 7, 2) := by decide +kernel
theorem dX11_steps_230 : decode cX11_steps 230 = .ok (.iload 7, 2) := by decide +kernel
theorem dX11_steps_232 : decode cX11_steps 232 = .ok (.aload_n 0, 1) := by decide +kernel
theorem dX11_steps_233 : decode cX11_steps 233 = .ok (.getfield 251, 3) := by decide +kernel
theorem dX11_steps_236 : decode cX11_steps 236 = .ok (.if_icmp .ge 70, 3) := by decide +kernel
theorem dX11_steps_239 : decode cX11_steps 239 = .ok (.aload_n 0, 1) := by decide +kernel
theorem dX11_steps_240 : decode cX11_steps 240 = .ok (.getfield 50, 3) := by decide +kernel
theorem dX11_steps_243 : decode cX11_steps 243 = .ok (.aload_n 0, 1) := by decide +kernel
theorem dX11_steps_244 : decode cX11_steps 244 = .ok (.getfield 251, 3) := by decide +kernel
theorem dX11_steps_247 : decode cX11_steps 247 = .ok (.iload 5, 2) := by decide +kernel
theorem dX11_steps_249 : decode cX11_steps 249 = .ok (.imul, 1) := by decide +kernel
theorem dX11_steps_250 : decode cX11_steps 250 = .ok (.iload 7, 2) := by decide +kernel
theorem dX11_steps_252 : decode cX11_steps 252 = .ok (.iadd, 1) := by decide +kernel
theorem dX11_steps_253 : decode cX11_steps 253 = .ok (.aload_n 0, 1) := by decide +kernel
theorem dX11_steps_254 : decode cX11_steps 254 = .ok (.getfield 50, 3) := by decide +kernel
theorem dX11_steps_257 : decode cX11_steps 257 = .ok (.aload_n 0, 1) := by decide +kernel
theorem dX11_steps_258 : decode cX11_steps 258 = .ok (.getfield 251, 3) := by decide +kernel
theorem dX11_steps_261 : decode cX11_steps 261 = .ok (.iload 5, 2) := by decide +kernel
theorem dX11_steps_263 : decode cX11_steps 263 = .ok (.imul, 1) := by decide +kernel
theorem dX11_steps_264 : decode cX11_steps 264 = .ok (.iload 7, 2) := by decide +kernel
theorem dX11_steps_266 : decode cX11_steps 266 = .ok (.iadd, 1) := by decide +kernel
theorem dX11_steps_267 : decode cX11_steps 267 = .ok (.iaload, 1) := by decide +kernel
theorem dX11_steps_268 : decode cX11_steps 268 = .ok (.aload_n 0, 1) := by decide +kernel
theorem dX11_steps_269 : decode cX11_steps 269 = .ok (.getfield 230, 3) := by decide +kernel
theorem dX11_steps_272 : decode cX11_steps 272 = .ok (.iload 6, 2) := by decide +kernel
theorem dX11_steps_274 : decode cX11_steps 274 = .ok (.isub, 1) := by decide +kernel
theorem dX11_steps_275 : decode cX11_steps 275 = .ok (.aload_n 0, 1) := by decide +kernel
theorem dX11_steps_276 : decode cX11_steps 276 = .ok (.getfield 50, 3) := by decide +kernel
theorem dX11_steps_279 : decode cX11_steps 279 = .ok (.aload_n 0, 1) := by decide +kernel
theorem dX11_steps_280 : decode cX11_steps 280 = .ok (.getfield 251, 3) := by decide +kernel
theorem dX11_steps_283 : decode cX11_steps 283 = .ok (.aload_n 0, 1) := by decide +kernel
theorem dX11_steps_284 : decode cX11_steps 284 = .ok (.getfield 245, 3) := by decide +kernel
theorem dX11_steps_287 : decode cX11_steps 287 = .ok (.imul, 1) := by decide +kernel
theorem dX11_steps_288 : decode cX11_steps 288 = .ok (.iload 7, 2) := by decide +kernel
theorem dX11_steps_290 : decode cX11_steps 290 = .ok (.iadd, 1) := by decide +kernel
theorem dX11_steps_291 : decode cX11_steps 291 = .ok (.iaload, 1) := by decide +kernel
theorem dX11_steps_292 : decode cX11_steps 292 = .ok (.imul, 1) := by decide +kernel
theorem dX11_steps_293 : decode cX11_steps 293 = .ok (.iadd, 1) := by decide +kernel
theorem dX11_steps_294 : decode cX11_steps 294 = .ok (.aload_n 0, 1) := by decide +kernel
theorem dX11_steps_295 : decode cX11_steps 295 = .ok (.getfield 230, 3) := by decide +kernel
theorem dX11_steps_298 : decode cX11_steps 298 = .ok (.irem, 1) := by decide +kernel
theorem dX11_steps_299 : decode cX11_steps 299 = .ok (.iastore, 1) := by decide +kernel
theorem dX11_steps_300 : decode cX11_steps 300 = .ok (.iinc 7 1, 3) := by decide +kernel
theorem dX11_steps_303 : decode cX11_steps 303 = .ok (.goto (-73), 3) := by decide +kernel
theorem dX11_steps_306 : decode cX11_steps 306 = .ok (.iinc 5 1, 3) := by decide +kernel
theorem dX11_steps_309 : decode cX11_steps 309 = .ok (.goto (-124), 3) := by decide +kernel
theorem dX11_steps_312 : decode cX11_steps 312 = .ok (.aload_n 0, 1) := by decide +kernel
theorem dX11_steps_313 : decode cX11_steps 313 = .ok (.getfield 53, 3) := by decide +kernel
theorem dX11_steps_316 : decode cX11_steps 316 = .ok (.iload_n 2, 1) := by decide +kernel
theorem dX11_steps_317 : decode cX11_steps 317 = .ok (.aload_n 0, 1) := by decide +kernel
theorem dX11_steps_318 : decode cX11_steps 318 = .ok (.getfield 245, 3) := by decide +kernel
theorem dX11_steps_321 : decode cX11_steps 321 = .ok (.iastore, 1) := by decide +kernel
theorem dX11_steps_322 : decode cX11_steps 322 = .ok (.aload_n 0, 1) := by decide +kernel
theorem dX11_steps_323 : decode cX11_steps 323 = .ok (.dup, 1) := by decide +kernel
theorem dX11_steps_324 : decode cX11_steps 324 = .ok (.getfield 245, 3) := by decide +kernel
theorem dX11_steps_327 : decode cX11_steps 327 = .ok (.iconst 1, 1) := by decide +kernel
theorem dX11_steps_328 : decode cX11_steps 328 = .ok (.iadd, 1) := by decide +kernel
theorem dX11_steps_329 : decode cX11_steps 329 = .ok (.putfield 245, 3) := by decide +kernel
theorem dX11_steps_332 : decode cX11_steps 332 = .ok (.iinc 2 1, 3) := by decide +kernel
theorem dX11_steps_335 : decode cX11_steps 335 = .ok (.goto (-328), 3) := by decide +kernel
theorem dX11_steps_338 : decode cX11_steps 338 = .ok (.return_, 1) := by decide +kernel
theorem dX11_isMade_0 : decode cX11_isMade 0 = .ok (.aload_n 0, 1) := by decide +kernel
theorem dX11_isMade_1 : decode cX11_isMade 1 = .ok (.aload_n 0, 1) := by decide +kernel
theorem dX11_isMade_2 : decode cX11_isMade 2 = .ok (.getfield 251, 3) := by decide +kernel
theorem dX11_isMade_5 : decode cX11_isMade 5 = .ok (.iconst 1, 1) := by decide +kernel
theorem dX11_isMade_6 : decode cX11_isMade 6 = .ok (.isub, 1) := by decide +kernel
theorem dX11_isMade_7 : decode cX11_isMade 7 = .ok (.invokevirtual 258, 3) := by decide +kernel
theorem dX11_isMade_10 : decode cX11_isMade 10 = .ok (.aload_n 0, 1) := by decide +kernel
theorem dX11_isMade_11 : decode cX11_isMade 11 = .ok (.getfield 245, 3) := by decide +kernel
theorem dX11_isMade_14 : decode cX11_isMade 14 = .ok (.istore_n 1, 1) := by decide +kernel
theorem dX11_isMade_15 : decode cX11_isMade 15 = .ok (.iload_n 1, 1) := by decide +kernel
theorem dX11_isMade_16 : decode cX11_isMade 16 = .ok (.aload_n 0, 1) := by decide +kernel
theorem dX11_isMade_17 : decode cX11_isMade 17 = .ok (.getfield 248, 3) := by decide +kernel
theorem dX11_isMade_20 : decode cX11_isMade 20 = .ok (.if_icmp .ge 32, 3) := by decide +kernel
theorem dX11_isMade_23 : decode cX11_isMade 23 = .ok (.aload_n 0, 1) := by decide +kernel
theorem dX11_isMade_24 : decode cX11_isMade 24 = .ok (.getfield 50, 3) := by decide +kernel
theorem dX11_isMade_27 : decode cX11_isMade 27 = .ok (.aload_n 0, 1) := by decide +kernel
theorem dX11_isMade_28 : decode cX11_isMade 28 = .ok (.getfield 251, 3) := by decide +kernel
theorem dX11_isMade_31 : decode cX11_isMade 31 = .ok (.iload_n 1, 1) := by decide +kernel
theorem dX11_isMade_32 : decode cX11_isMade 32 = .ok (.imul, 1) := by decide +kernel
theorem dX11_isMade_33 : decode cX11_isMade 33 = .ok (.aload_n 0, 1) := by decide +kernel
theorem dX11_isMade_34 : decode cX11_isMade 34 = .ok (.getfield 251, 3) := by decide +kernel
theorem dX11_isMade_37 : decode cX11_isMade 37 = .ok (.iadd, 1) := by decide +kernel
theorem dX11_isMade_38 : decode cX11_isMade 38 = .ok (.iconst 1, 1) := by decide +kernel
theorem dX11_isMade_39 : decode cX11_isMade 39 = .ok (.isub, 1) := by decide +kernel
theorem dX11_isMade_40 : decode cX11_isMade 40 = .ok (.iaload, 1) := by decide +kernel
theorem dX11_isMade_41 : decode cX11_isMade 41 = .ok (.ifCond .eq 5, 3) := by decide +kernel
theorem dX11_isMade_44 : decode cX11_isMade 44 = .ok (.iconst 0, 1) := by decide +kernel
theorem dX11_isMade_45 : decode cX11_isMade 45 = .ok (.ireturn, 1) := by decide +kernel
theorem dX11_isMade_46 : decode cX11_isMade 46 = .ok (.iinc 1 1, 3) := by decide +kernel
theorem dX11_isMade_49 : decode cX11_isMade 49 = .ok (.goto (-34), 3) := by decide +kernel
theorem dX11_isMade_52 : decode cX11_isMade 52 = .ok (.iconst 1, 1) := by decide +kernel
theorem dX11_isMade_53 : decode cX11_isMade 53 = .ok (.ireturn, 1) := by decide +kernel
theorem dX11_share_0 : decode cX11_share 0 = .ok (.aload_n 0, 1) := by decide +kernel
theorem dX11_share_1 : decode cX11_share 1 = .ok (.getfield 53, 3) := by decide +kernel
theorem dX11_share_4 : decode cX11_share 4 = .ok (.iload_n 1, 1) := by decide +kernel
theorem dX11_share_5 : decode cX11_share 5 = .ok (.iaload, 1) := by decide +kernel
theorem dX11_share_6 : decode cX11_share 6 = .ok (.ifCond .ge 7, 3) := by decide +kernel
theorem dX11_share_9 : decode cX11_share 9 = .ok (.iconst 0, 1) := by decide +kernel
theorem dX11_share_10 : decode cX11_share 10 = .ok (.goto 26, 3) := by decide +kernel
theorem dX11_share_13 : decode cX11_share 13 = .ok (.aload_n 0, 1) := by decide +kernel
theorem dX11_share_14 : decode cX11_share 14 = .ok (.getfield 50, 3) := by decide +kernel
theorem dX11_share_17 : decode cX11_share 17 = .ok (.aload_n 0, 1) := by decide +kernel
theorem dX11_share_18 : decode cX11_share 18 = .ok (.getfield 251, 3) := by decide +kernel
theorem dX11_share_21 : decode cX11_share 21 = .ok (.aload_n 0, 1) := by decide +kernel
theorem dX11_share_22 : decode cX11_share 22 = .ok (.getfield 53, 3) := by decide +kernel
theorem dX11_share_25 : decode cX11_share 25 = .ok (.iload_n 1, 1) := by decide +kernel
theorem dX11_share_26 : decode cX11_share 26 = .ok (.iaload, 1) := by decide +kernel
theorem dX11_share_27 : decode cX11_share 27 = .ok (.imul, 1) := by decide +kernel
theorem dX11_share_28 : decode cX11_share 28 = .ok (.aload_n 0, 1) := by decide +kernel
theorem dX11_share_29 : decode cX11_share 29 = .ok (.getfield 251, 3) := by decide +kernel
theorem dX11_share_32 : decode cX11_share 32 = .ok (.iadd, 1) := by decide +kernel
theorem dX11_share_33 : decode cX11_share 33 = .ok (.iconst 1, 1) := by decide +kernel
theorem dX11_share_34 : decode cX11_share 34 = .ok (.isub, 1) := by decide +kernel
theorem dX11_share_35 : decode cX11_share 35 = .ok (.iaload, 1) := by decide +kernel
theorem dX11_share_36 : decode cX11_share 36 = .ok (.ireturn, 1) := by decide +kernel
theorem dX11_isHearer_0 : decode cX11_isHearer 0 = .ok (.iload_n 1, 1) := by decide +kernel
theorem dX11_isHearer_1 : decode cX11_isHearer 1 = .ok (.iconst 0, 1) := by decide +kernel
theorem dX11_isHearer_2 : decode cX11_isHearer 2 = .ok (.aload_n 0, 1) := by decide +kernel
theorem dX11_isHearer_3 : decode cX11_isHearer 3 = .ok (.getfield 33, 3) := by decide +kernel
theorem dX11_isHearer_6 : decode cX11_isHearer 6 = .ok (.iconst 1, 1) := by decide +kernel
theorem dX11_isHearer_7 : decode cX11_isHearer 7 = .ok (.iaload, 1) := by decide +kernel
theorem dX11_isHearer_8 : decode cX11_isHearer 8 = .ok (.iconst 1, 1) := by decide +kernel
theorem dX11_isHearer_9 : decode cX11_isHearer 9 = .ok (.isub, 1) := by decide +kernel
theorem dX11_isHearer_10 : decode cX11_isHearer 10 = .ok (.invokestatic 175, 3) := by decide +kernel
theorem dX11_isHearer_13 : decode cX11_isHearer 13 = .ok (.ireturn, 1) := by decide +kernel
theorem dX11_isWay_0 : decode cX11_isWay 0 = .ok (.iload_n 1, 1) := by decide +kernel
theorem dX11_isWay_1 : decode cX11_isWay 1 = .ok (.iconst 0, 1) := by decide +kernel
theorem dX11_isWay_2 : decode cX11_isWay 2 = .ok (.aload_n 0, 1) := by decide +kernel
theorem dX11_isWay_3 : decode cX11_isWay 3 = .ok (.getfield 33, 3) := by decide +kernel
theorem dX11_isWay_6 : decode cX11_isWay 6 = .ok (.iconst 0, 1) := by decide +kernel
theorem dX11_isWay_7 : decode cX11_isWay 7 = .ok (.iaload, 1) := by decide +kernel
theorem dX11_isWay_8 : decode cX11_isWay 8 = .ok (.iconst 1, 1) := by decide +kernel
theorem dX11_isWay_9 : decode cX11_isWay 9 = .ok (.isub, 1) := by decide +kernel
theorem dX11_isWay_10 : decode cX11_isWay 10 = .ok (.invokestatic 175, 3) := by decide +kernel
theorem dX11_isWay_13 : decode cX11_isWay 13 = .ok (.ireturn, 1) := by decide +kernel
theorem dX11_place_0 : decode cX11_place 0 = .ok (.aload_n 0, 1) := by decide +kernel
theorem dX11_place_1 : decode cX11_place 1 = .ok (.getfield 33, 3) := by decide +kernel
theorem dX11_place_4 : decode cX11_place 4 = .ok (.bipush 6, 2) := by decide +kernel
theorem dX11_place_6 : decode cX11_place 6 = .ok (.iconst 2, 1) := by decide +kernel
theorem dX11_place_7 : decode cX11_place 7 = .ok (.iload_n 1, 1) := by decide +kernel
theorem dX11_place_8 : decode cX11_place 8 = .ok (.imul, 1) := by decide +kernel
theorem dX11_place_9 : decode cX11_place 9 = .ok (.iadd, 1) := by decide +kernel
theorem dX11_place_10 : decode cX11_place 10 = .ok (.iaload, 1) := by decide +kernel
theorem dX11_place_11 : decode cX11_place 11 = .ok (.ireturn, 1) := by decide +kernel
theorem dX11_gain_0 : decode cX11_gain 0 = .ok (.aload_n 0, 1) := by decide +kernel
theorem dX11_gain_1 : decode cX11_gain 1 = .ok (.getfield 33, 3) := by decide +kernel
theorem dX11_gain_4 : decode cX11_gain 4 = .ok (.bipush 6, 2) := by decide +kernel
theorem dX11_gain_6 : decode cX11_gain 6 = .ok (.iconst 2, 1) := by decide +kernel
theorem dX11_gain_7 : decode cX11_gain 7 = .ok (.iload_n 1, 1) := by decide +kernel
theorem dX11_gain_8 : decode cX11_gain 8 = .ok (.imul, 1) := by decide +kernel
theorem dX11_gain_9 : decode cX11_gain 9 = .ok (.iadd, 1) := by decide +kernel
theorem dX11_gain_10 : decode cX11_gain 10 = .ok (.iconst 1, 1) := by decide +kernel
theorem dX11_gain_11 : decode cX11_gain 11 = .ok (.iadd, 1) := by decide +kernel
theorem dX11_gain_12 : decode cX11_gain 12 = .ok (.iaload, 1) := by decide +kernel
theorem dX11_gain_13 : decode cX11_gain 13 = .ok (.ireturn, 1) := by decide +kernel
theorem dX11_wayOf_0 : decode cX11_wayOf 0 = .ok (.aload_n 0, 1) := by decide +kernel
theorem dX11_wayOf_1 : decode cX11_wayOf 1 = .ok (.getfield 33, 3) := by decide +kernel
theorem dX11_wayOf_4 : decode cX11_wayOf 4 = .ok (.bipush 26, 2) := by decide +kernel
theorem dX11_wayOf_6 : decode cX11_wayOf 6 = .ok (.iconst 4, 1) := by decide +kernel
theorem dX11_wayOf_7 : decode cX11_wayOf 7 = .ok (.iload_n 1, 1) := by decide +kernel
theorem dX11_wayOf_8 : decode cX11_wayOf 8 = .ok (.imul, 1) := by decide +kernel
theorem dX11_wayOf_9 : decode cX11_wayOf 9 = .ok (.iadd, 1) := by decide +kernel
theorem dX11_wayOf_10 : decode cX11_wayOf 10 = .ok (.iaload, 1) := by decide +kernel
theorem dX11_wayOf_11 : decode cX11_wayOf 11 = .ok (.aload_n 0, 1) := by decide +kernel
theorem dX11_wayOf_12 : decode cX11_wayOf 12 = .ok (.getfield 33, 3) := by decide +kernel
theorem dX11_wayOf_15 : decode cX11_wayOf 15 = .ok (.bipush 26, 2) := by decide +kernel
theorem dX11_wayOf_17 : decode cX11_wayOf 17 = .ok (.iconst 4, 1) := by decide +kernel
theorem dX11_wayOf_18 : decode cX11_wayOf 18 = .ok (.iload_n 1, 1) := by decide +kernel
theorem dX11_wayOf_19 : decode cX11_wayOf 19 = .ok (.imul, 1) := by decide +kernel
theorem dX11_wayOf_20 : decode cX11_wayOf 20 = .ok (.iadd, 1) := by decide +kernel
theorem dX11_wayOf_21 : decode cX11_wayOf 21 = .ok (.iconst 2, 1) := by decide +kernel
theorem dX11_wayOf_22 : decode cX11_wayOf 22 = .ok (.iadd, 1) := by decide +kernel
theorem dX11_wayOf_23 : decode cX11_wayOf 23 = .ok (.iaload, 1) := by decide +kernel
theorem dX11_wayOf_24 : decode cX11_wayOf 24 = .ok (.aload_n 0, 1) := by decide +kernel
theorem dX11_wayOf_25 : decode cX11_wayOf 25 = .ok (.getfield 33, 3) := by decide +kernel
theorem dX11_wayOf_28 : decode cX11_wayOf 28 = .ok (.iconst 5, 1) := by decide +kernel
theorem dX11_wayOf_29 : decode cX11_wayOf 29 = .ok (.iaload, 1) := by decide +kernel
theorem dX11_wayOf_30 : decode cX11_wayOf 30 = .ok (.imul, 1) := by decide +kernel
theorem dX11_wayOf_31 : decode cX11_wayOf 31 = .ok (.iadd, 1) := by decide +kernel
theorem dX11_wayOf_32 : decode cX11_wayOf 32 = .ok (.aload_n 0, 1) := by decide +kernel
theorem dX11_wayOf_33 : decode cX11_wayOf 33 = .ok (.getfield 33, 3) := by decide +kernel
theorem dX11_wayOf_36 : decode cX11_wayOf 36 = .ok (.iconst 0, 1) := by decide +kernel
theorem dX11_wayOf_37 : decode cX11_wayOf 37 = .ok (.iaload, 1) := by decide +kernel
theorem dX11_wayOf_38 : decode cX11_wayOf 38 = .ok (.irem, 1) := by decide +kernel
theorem dX11_wayOf_39 : decode cX11_wayOf 39 = .ok (.ireturn, 1) := by decide +kernel
theorem dX11_hearer_0 : decode cX11_hearer 0 = .ok (.aload_n 0, 1) := by decide +kernel
theorem dX11_hearer_1 : decode cX11_hearer 1 = .ok (.aload_n 0, 1) := by decide +kernel
theorem dX11_hearer_2 : decode cX11_hearer 2 = .ok (.iload_n 1, 1) := by decide +kernel
theorem dX11_hearer_3 : decode cX11_hearer 3 = .ok (.invokevirtual 261, 3) := by decide +kernel
theorem dX11_hearer_6 : decode cX11_hearer 6 = .ok (.ifCond .eq 12, 3) := by decide +kernel
theorem dX11_hearer_9 : decode cX11_hearer 9 = .ok (.iload_n 2, 1) := by decide +kernel
theorem dX11_hearer_10 : decode cX11_hearer 10 = .ok (.iconst 0, 1) := by decide +kernel
theorem dX11_hearer_11 : decode cX11_hearer 11 = .ok (.iconst 1, 1) := by decide +kernel
theorem dX11_hearer_12 : decode cX11_hearer 12 = .ok (.invokestatic 175, 3) := by decide +kernel
theorem dX11_hearer_15 : decode cX11_hearer 15 = .ok (.ifCond .ne 7, 3) := by decide +kernel
theorem dX11_hearer_18 : decode cX11_hearer 18 = .ok (.iconst 1, 1) := by decide +kernel
theorem dX11_hearer_19 : decode cX11_hearer 19 = .ok (.goto 4, 3) := by decide +kernel
theorem dX11_hearer_22 : decode cX11_hearer 22 = .ok (.iconst 0, 1) := by decide +kernel
theorem dX11_hearer_23 : decode cX11_hearer 23 = .ok (.invokevirtual 264, 3) := by decide +kernel
theorem dX11_hearer_26 : decode cX11_hearer 26 = .ok (.ifCond .eq 7, 3) := by decide +kernel
theorem dX11_hearer_29 : decode cX11_hearer 29 = .ok (.iconst 0, 1) := by decide +kernel
theorem dX11_hearer_30 : decode cX11_hearer 30 = .ok (.goto 16, 3) := by decide +kernel
theorem dX11_hearer_33 : decode cX11_hearer 33 = .ok (.aload_n 0, 1) := by decide +kernel
theorem dX11_hearer_34 : decode cX11_hearer 34 = .ok (.getfield 33, 3) := by decide +kernel
theorem dX11_hearer_37 : decode cX11_hearer 37 = .ok (.bipush 6, 2) := by decide +kernel
theorem dX11_hearer_39 : decode cX11_hearer 39 = .ok (.iconst 2, 1) := by decide +kernel
theorem dX11_hearer_40 : decode cX11_hearer 40 = .ok (.iload_n 1, 1) := by decide +kernel
theorem dX11_hearer_41 : decode cX11_hearer 41 = .ok (.imul, 1) := by decide +kernel
theorem dX11_hearer_42 : decode cX11_hearer 42 = .ok (.iadd, 1) := by decide +kernel
theorem dX11_hearer_43 : decode cX11_hearer 43 = .ok (.iload_n 2, 1) := by decide +kernel
theorem dX11_hearer_44 : decode cX11_hearer 44 = .ok (.iadd, 1) := by decide +kernel
theorem dX11_hearer_45 : decode cX11_hearer 45 = .ok (.iaload, 1) := by decide +kernel
theorem dX11_hearer_46 : decode cX11_hearer 46 = .ok (.ireturn, 1) := by decide +kernel
theorem dX11_sender_0 : decode cX11_sender 0 = .ok (.aload_n 0, 1) := by decide +kernel
theorem dX11_sender_1 : decode cX11_sender 1 = .ok (.iload_n 1, 1) := by decide +kernel
theorem dX11_sender_2 : decode cX11_sender 2 = .ok (.iconst 0, 1) := by decide +kernel
theorem dX11_sender_3 : decode cX11_sender 3 = .ok (.aload_n 0, 1) := by decide +kernel
theorem dX11_sender_4 : decode cX11_sender 4 = .ok (.getfield 33, 3) := by decide +kernel
theorem dX11_sender_7 : decode cX11_sender 7 = .ok (.iconst 2, 1) := by decide +kernel
theorem dX11_sender_8 : decode cX11_sender 8 = .ok (.iaload, 1) := by decide +kernel
theorem dX11_sender_9 : decode cX11_sender 9 = .ok (.iconst 1, 1) := by decide +kernel
theorem dX11_sender_10 : decode cX11_sender 10 = .ok (.isub, 1) := by decide +kernel
theorem dX11_sender_11 : decode cX11_sender 11 = .ok (.invokestatic 175, 3) := by decide +kernel
theorem dX11_sender_14 : decode cX11_sender 14 = .ok (.ifCond .eq 12, 3) := by decide +kernel
theorem dX11_sender_17 : decode cX11_sender 17 = .ok (.iload_n 2, 1) := by decide +kernel
theorem dX11_sender_18 : decode cX11_sender 18 = .ok (.iconst 0, 1) := by decide +kernel
theorem dX11_sender_19 : decode cX11_sender 19 = .ok (.iconst 3, 1) := by decide +kernel
theorem dX11_sender_20 : decode cX11_sender 20 = .ok (.invokestatic 175, 3) := by decide +kernel
theorem dX11_sender_23 : decode cX11_sender 23 = .ok (.ifCond .ne 7, 3) := by decide +kernel
theorem dX11_sender_26 : decode cX11_sender 26 = .ok (.iconst 1, 1) := by decide +kernel
theorem dX11_sender_27 : decode cX11_sender 27 = .ok (.goto 4, 3) := by decide +kernel
theorem dX11_sender_30 : decode cX11_sender 30 = .ok (.iconst 0, 1) := by decide +kernel
theorem dX11_sender_31 : decode cX11_sender 31 = .ok (.invokevirtual 264, 3) := by decide +kernel
theorem dX11_sender_34 : decode cX11_sender 34 = .ok (.ifCond .eq 5, 3) := by decide +kernel
theorem dX11_sender_37 : decode cX11_sender 37 = .ok (.iconst 0, 1) := by decide +kernel
theorem dX11_sender_38 : decode cX11_sender 38 = .ok (.ireturn, 1) := by decide +kernel
theorem dX11_sender_39 : decode cX11_sender 39 = .ok (.iload_n 2, 1) := by decide +kernel
theorem dX11_sender_40 : decode cX11_sender 40 = .ok (.ifCond .ne 11, 3) := by decide +kernel
theorem dX11_sender_43 : decode cX11_sender 43 = .ok (.aload_n 0, 1) := by decide +kernel
theorem dX11_sender_44 : decode cX11_sender 44 = .ok (.iload_n 1, 1) := by decide +kernel
theorem dX11_sender_45 : decode cX11_sender 45 = .ok (.invokevirtual 267, 3) := by decide +kernel
theorem dX11_sender_48 : decode cX11_sender 48 = .ok (.goto 16, 3) := by decide +kernel
theorem dX11_sender_51 : decode cX11_sender 51 = .ok (.aload_n 0, 1) := by decide +kernel
theorem dX11_sender_52 : decode cX11_sender 52 = .ok (.getfield 33, 3) := by decide +kernel
theorem dX11_sender_55 : decode cX11_sender 55 = .ok (.bipush 26, 2) := by decide +kernel
theorem dX11_sender_57 : decode cX11_sender 57 = .ok (.iconst 4, 1) := by decide +kernel
theorem dX11_sender_58 : decode cX11_sender 58 = .ok (.iload_n 1, 1) := by decide +kernel
theorem dX11_sender_59 : decode cX11_sender 59 = .ok (.imul, 1) := by decide +kernel
theorem dX11_sender_60 : decode cX11_sender 60 = .ok (.iadd, 1) := by decide +kernel
theorem dX11_sender_61 : decode cX11_sender 61 = .ok (.iload_n 2, 1) := by decide +kernel
theorem dX11_sender_62 : decode cX11_sender 62 = .ok (.iadd, 1) := by decide +kernel
theorem dX11_sender_63 : decode cX11_sender 63 = .ok (.iaload, 1) := by decide +kernel
theorem dX11_sender_64 : decode cX11_sender 64 = .ok (.ireturn, 1) := by decide +kernel
theorem dX11_moment_0 : decode cX11_moment 0 = .ok (.aload_n 0, 1) := by decide +kernel
theorem dX11_moment_1 : decode cX11_moment 1 = .ok (.iconst 0, 1) := by decide +kernel
theorem dX11_moment_2 : decode cX11_moment 2 = .ok (.putfield 1, 3) := by decide +kernel
theorem dX11_moment_5 : decode cX11_moment 5 = .ok (.iload_n 1, 1) := by decide +kernel
theorem dX11_moment_6 : decode cX11_moment 6 = .ok (.iconst 0, 1) := by decide +kernel
theorem dX11_moment_7 : decode cX11_moment 7 = .ok (.sipush 999, 3) := by decide +kernel
theorem dX11_moment_10 : decode cX11_moment 10 = .ok (.invokestatic 175, 3) := by decide +kernel
theorem dX11_moment_13 : decode cX11_moment 13 = .ok (.ifCond .ne 5, 3) := by decide +kernel
theorem dX11_moment_16 : decode cX11_moment 16 = .ok (.iconst 0, 1) := by decide +kernel
theorem dX11_moment_17 : decode cX11_moment 17 = .ok (.ireturn, 1) := by decide +kernel
theorem dX11_moment_18 : decode cX11_moment 18 = .ok (.aload_n 0, 1) := by decide +kernel
theorem dX11_moment_19 : decode cX11_moment 19 = .ok (.getfield 33, 3) := by decide +kernel
theorem dX11_moment_22 : decode cX11_moment 22 = .ok (.iconst 5, 1) := by decide +kernel
theorem dX11_moment_23 : decode cX11_moment 23 = .ok (.iload_n 1, 1) := by decide +kernel
theorem dX11_moment_24 : decode cX11_moment 24 = .ok (.iastore, 1) := by decide +kernel
theorem dX11_moment_25 : decode cX11_moment 25 = .ok (.iconst 1, 1) := by decide +kernel
theorem dX11_moment_26 : decode cX11_moment 26 = .ok (.ireturn, 1) := by decide +kernel
theorem dX11_wave_0 : decode cX11_wave 0 = .ok (.aload_n 0, 1) := by decide +kernel
theorem dX11_wave_1 : decode cX11_wave 1 = .ok (.iconst 0, 1) := by decide +kernel
theorem dX11_wave_2 : decode cX11_wave 2 = .ok (.putfield 1, 3) := by decide +kernel
theorem dX11_wave_5 : decode cX11_wave 5 = .ok (.aload_n 0, 1) := by decide +kernel
theorem dX11_wave_6 : decode cX11_wave 6 = .ok (.iload_n 1, 1) := by decide +kernel
theorem dX11_wave_7 : decode cX11_wave 7 = .ok (.invokevirtual 270, 3) := by decide +kernel
theorem dX11_wave_10 : decode cX11_wave 10 = .ok (.ifCond .eq 22, 3) := by decide +kernel
theorem dX11_wave_13 : decode cX11_wave 13 = .ok (.iload_n 2, 1) := by decide +kernel
theorem dX11_wave_14 : decode cX11_wave 14 = .ok (.iconst 0, 1) := by decide +kernel
theorem dX11_wave_15 : decode cX11_wave 15 = .ok (.bipush 99, 2) := by decide +kernel
theorem dX11_wave_17 : decode cX11_wave 17 = .ok (.invokestatic 175, 3) := by decide +kernel
theorem dX11_wave_20 : decode cX11_wave 20 = .ok (.ifCond .eq 12, 3) := by decide +kernel
theorem dX11_wave_23 : decode cX11_wave 23 = .ok (.aload_n 0, 1) := by decide +kernel
theorem dX11_wave_24 : decode cX11_wave 24 = .ok (.iload_n 1, 1) := by decide +kernel
theorem dX11_wave_25 : decode cX11_wave 25 = .ok (.iload_n 2, 1) := by decide +kernel
theorem dX11_wave_26 : decode cX11_wave 26 = .ok (.invokevirtual 273, 3) := by decide +kernel
theorem dX11_wave_29 : decode cX11_wave 29 = .ok (.goto 4, 3) := by decide +kernel
theorem dX11_wave_32 : decode cX11_wave 32 = .ok (.iconst (-1), 1) := by decide +kernel
theorem dX11_wave_33 : decode cX11_wave 33 = .ok (.ireturn, 1) := by decide +kernel
theorem dX11_readingOf_0 : decode cX11_readingOf 0 = .ok (.iconst 0, 1) := by decide +kernel
theorem dX11_readingOf_1 : decode cX11_readingOf 1 = .ok (.istore_n 2, 1) := by decide +kernel
theorem dX11_readingOf_2 : decode cX11_readingOf 2 = .ok (.iconst 0, 1) := by decide +kernel
theorem dX11_readingOf_3 : decode cX11_readingOf 3 = .ok (.istore_n 3, 1) := by decide +kernel
theorem dX11_readingOf_4 : decode cX11_readingOf 4 = .ok (.iload_n 3, 1) := by decide +kernel
theorem dX11_readingOf_5 : decode cX11_readingOf 5 = .ok (.aload_n 0, 1) := by decide +kernel
theorem dX11_readingOf_6 : decode cX11_readingOf 6 = .ok (.getfield 33, 3) := by decide +kernel
theorem dX11_readingOf_9 : decode cX11_readingOf 9 = .ok (.iconst 2, 1) := by decide +kernel
theorem dX11_readingOf_10 : decode cX11_readingOf 10 = .ok (.iaload, 1) := by decide +kernel
theorem dX11_readingOf_11 : decode cX11_readingOf 11 = .ok (.if_icmp .ge 45, 3) := by decide +kernel
theorem dX11_readingOf_14 : decode cX11_readingOf 14 = .ok (.iload_n 2, 1) := by decide +kernel
theorem dX11_readingOf_15 : decode cX11_readingOf 15 = .ok (.aload_n 0, 1) := by decide +kernel
theorem dX11_readingOf_16 : decode cX11_readingOf 16 = .ok (.getfield 33, 3) := by decide +kernel
theorem dX11_readingOf_19 : decode cX11_readingOf 19 = .ok (.bipush 26, 2) := by decide +kernel
theorem dX11_readingOf_21 : decode cX11_readingOf 21 = .ok (.iconst 4, 1) := by decide +kernel
theorem dX11_readingOf_22 : decode cX11_readingOf 22 = .ok (.iload_n 3, 1) := by decide +kernel
theorem dX11_readingOf_23 : decode cX11_readingOf 23 = .ok (.imul, 1) := by decide +kernel
theorem dX11_readingOf_24 : decode cX11_readingOf 24 = .ok (.iadd, 1) := by decide +kernel
theorem dX11_readingOf_25 : decode cX11_readingOf 25 = .ok (.iconst 1, 1) := by decide +kernel
theorem dX11_readingOf_26 : decode cX11_readingOf 26 = .ok (.iadd, 1) := by decide +kernel
theorem dX11_readingOf_27 : decode cX11_readingOf 27 = .ok (.iaload, 1) := by decide +kernel
theorem dX11_readingOf_28 : decode cX11_readingOf 28 = .ok (.aload_n 0, 1) := by decide +kernel
theorem dX11_readingOf_29 : decode cX11_readingOf 29 = .ok (.aload_n 0, 1) := by decide +kernel
theorem dX11_readingOf_30 : decode cX11_readingOf 30 = .ok (.iload_n 3, 1) := by decide +kernel
theorem dX11_readingOf_31 : decode cX11_readingOf 31 = .ok (.invokevirtual 267, 3) := by decide +kernel
theorem dX11_readingOf_34 : decode cX11_readingOf 34 = .ok (.aload_n 0, 1) := by decide +kernel
theorem dX11_readingOf_35 : decode cX11_readingOf 35 = .ok (.iload_n 1, 1) := by decide +kernel
theorem dX11_readingOf_36 : decode cX11_readingOf 36 = .ok (.invokevirtual 276, 3) := by decide +kernel
theorem dX11_readingOf_39 : decode cX11_readingOf 39 = .ok (.invokevirtual 273, 3) := by decide +kernel
theorem dX11_readingOf_42 : decode cX11_readingOf 42 = .ok (.imul, 1) := by decide +kernel
theorem dX11_readingOf_43 : decode cX11_readingOf 43 = .ok (.iadd, 1) := by decide +kernel
theorem dX11_readingOf_44 : decode cX11_readingOf 44 = .ok (.aload_n 0, 1) := by decide +kernel
theorem dX11_readingOf_45 : decode cX11_readingOf 45 = .ok (.getfield 230, 3) := by decide +kernel
theorem dX11_readingOf_48 : decode cX11_readingOf 48 = .ok (.irem, 1) := by decide +kernel
theorem dX11_readingOf_49 : decode cX11_readingOf 49 = .ok (.istore_n 2, 1) := by decide +kernel
theorem dX11_readingOf_50 : decode cX11_readingOf 50 = .ok (.iinc 3 1, 3) := by decide +kernel
theorem dX11_readingOf_53 : decode cX11_readingOf 53 = .ok (.goto (-49), 3) := by decide +kernel
theorem dX11_readingOf_56 : decode cX11_readingOf 56 = .ok (.iload_n 2, 1) := by decide +kernel
theorem dX11_readingOf_57 : decode cX11_readingOf 57 = .ok (.aload_n 0, 1) := by decide +kernel
theorem dX11_readingOf_58 : decode cX11_readingOf 58 = .ok (.iload_n 1, 1) := by decide +kernel
theorem dX11_readingOf_59 : decode cX11_readingOf 59 = .ok (.invokevirtual 279, 3) := by decide +kernel
theorem dX11_readingOf_62 : decode cX11_readingOf 62 = .ok (.imul, 1) := by decide +kernel
theorem dX11_readingOf_63 : decode cX11_readingOf 63 = .ok (.aload_n 0, 1) := by decide +kernel
theorem dX11_readingOf_64 : decode cX11_readingOf 64 = .ok (.getfield 230, 3) := by decide +kernel
theorem dX11_readingOf_67 : decode cX11_readingOf 67 = .ok (.irem, 1) := by decide +kernel
theorem dX11_readingOf_68 : decode cX11_readingOf 68 = .ok (.ireturn, 1) := by decide +kernel
theorem dX11_reading_0 : decode cX11_reading 0 = .ok (.aload_n 0, 1) := by decide +kernel
theorem dX11_reading_1 : decode cX11_reading 1 = .ok (.iconst 0, 1) := by decide +kernel
theorem dX11_reading_2 : decode cX11_reading 2 = .ok (.putfield 1, 3) := by decide +kernel
theorem dX11_reading_5 : decode cX11_reading 5 = .ok (.aload_n 0, 1) := by decide +kernel
theorem dX11_reading_6 : decode cX11_reading 6 = .ok (.iload_n 1, 1) := by decide +kernel
theorem dX11_reading_7 : decode cX11_reading 7 = .ok (.invokevirtual 261, 3) := by decide +kernel
theorem dX11_reading_10 : decode cX11_reading 10 = .ok (.ifCond .eq 11, 3) := by decide +kernel
theorem dX11_reading_13 : decode cX11_reading 13 = .ok (.aload_n 0, 1) := by decide +kernel
theorem dX11_reading_14 : decode cX11_reading 14 = .ok (.iload_n 1, 1) := by decide +kernel
theorem dX11_reading_15 : decode cX11_reading 15 = .ok (.invokevirtual 282, 3) := by decide +kernel
theorem dX11_reading_18 : decode cX11_reading 18 = .ok (.goto 4, 3) := by decide +kernel
theorem dX11_reading_21 : decode cX11_reading 21 = .ok (.iconst (-1), 1) := by decide +kernel
theorem dX11_reading_22 : decode cX11_reading 22 = .ok (.ireturn, 1) := by decide +kernel
theorem dX11_coverOf_0 : decode cX11_coverOf 0 = .ok (.iconst 0, 1) := by decide +kernel
theorem dX11_coverOf_1 : decode cX11_coverOf 1 = .ok (.istore_n 3, 1) := by decide +kernel
theorem dX11_coverOf_2 : decode cX11_coverOf 2 = .ok (.iconst 0, 1) := by decide +kernel
theorem dX11_coverOf_3 : decode cX11_coverOf 3 = .ok (.istore 4, 2) := by decide +kernel
theorem dX11_coverOf_5 : decode cX11_coverOf 5 = .ok (.iload 4, 2) := by decide +kernel
theorem dX11_coverOf_7 : decode cX11_coverOf 7 = .ok (.aload_n 0, 1) := by decide +kernel
theorem dX11_coverOf_8 : decode cX11_coverOf 8 = .ok (.getfield 33, 3) := by decide +kernel
theorem dX11_coverOf_11 : decode cX11_coverOf 11 = .ok (.iconst 2, 1) := by decide +kernel
theorem dX11_coverOf_12 : decode cX11_coverOf 12 = .ok (.iaload, 1) := by decide +kernel
theorem dX11_coverOf_13 : decode cX11_coverOf 13 = .ok (.if_icmp .ge 180, 3) := by decide +kernel
theorem dX11_coverOf_16 : decode cX11_coverOf 16 = .ok (.aload_n 0, 1) := by decide +kernel
theorem dX11_coverOf_17 : decode cX11_coverOf 17 = .ok (.getfield 33, 3) := by decide +kernel
theorem dX11_coverOf_20 : decode cX11_coverOf 20 = .ok (.bipush 26, 2) := by decide +kernel
theorem dX11_coverOf_22 : decode cX11_coverOf 22 = .ok (.iconst 4, 1) := by decide +kernel
theorem dX11_coverOf_23 : decode cX11_coverOf 23 = .ok (.iload 4, 2) := by decide +kernel
theorem dX11_coverOf_25 : decode cX11_coverOf 25 = .ok (.imul, 1) := by decide +kernel
theorem dX11_coverOf_26 : decode cX11_coverOf 26 = .ok (.iadd, 1) := by decide +kernel
theorem dX11_coverOf_27 : decode cX11_coverOf 27 = .ok (.iconst 3, 1) := by decide +kernel
theorem dX11_coverOf_28 : decode cX11_coverOf 28 = .ok (.iadd, 1) := by decide +kernel
theorem dX11_coverOf_29 : decode cX11_coverOf 29 = .ok (.iaload, 1) := by decide +kernel
theorem dX11_coverOf_30 : decode cX11_coverOf 30 = .ok (.iload 4, 2) := by decide +kernel
theorem dX11_coverOf_32 : decode cX11_coverOf 32 = .ok (.if_icmp .eq 6, 3) := by decide +kernel
theorem dX11_coverOf_35 : decode cX11_coverOf 35 = .ok (.goto 152, 3) := by decide +kernel
theorem dX11_coverOf_38 : decode cX11_coverOf 38 = .ok (.iconst 0, 1) := by decide +kernel
theorem dX11_coverOf_39 : decode cX11_coverOf 39 = .ok (.istore 5, 2) := by decide +kernel
theorem dX11_coverOf_41 : decode cX11_coverOf 41 = .ok (.iconst 0, 1) := by decide +kernel
theorem dX11_coverOf_42 : decode cX11_coverOf 42 = .ok (.istore 6, 2) := by decide +kernel
theorem dX11_coverOf_44 : decode cX11_coverOf 44 = .ok (.iload 4, 2) := by decide +kernel
theorem dX11_coverOf_46 : decode cX11_coverOf 46 = .ok (.istore 7, 2) := by decide +kernel
theorem dX11_coverOf_48 : decode cX11_coverOf 48 = .ok (.iload 7, 2) := by decide +kernel
theorem dX11_coverOf_50 : decode cX11_coverOf 50 = .ok (.aload_n 0, 1) := by decide +kernel
theorem dX11_coverOf_51 : decode cX11_coverOf 51 = .ok (.getfield 33, 3) := by decide +kernel
theorem dX11_coverOf_54 : decode cX11_coverOf 54 = .ok (.iconst 2, 1) := by decide +kernel
theorem dX11_coverOf_55 : decode cX11_coverOf 55 = .ok (.iaload, 1) := by decide +kernel
theorem dX11_coverOf_56 : decode cX11_coverOf 56 = .ok (.if_icmp .ge 118, 3) := by decide +kernel
theorem dX11_coverOf_59 : decode cX11_coverOf 59 = .ok (.aload_n 0, 1) := by decide +kernel
theorem dX11_coverOf_60 : decode cX11_coverOf 60 = .ok (.getfield 33, 3) := by decide +kernel
theorem dX11_coverOf_63 : decode cX11_coverOf 63 = .ok (.bipush 26, 2) := by decide +kernel
theorem dX11_coverOf_65 : decode cX11_coverOf 65 = .ok (.iconst 4, 1) := by decide +kernel
theorem dX11_coverOf_66 : decode cX11_coverOf 66 = .ok (.iload 7, 2) := by decide +kernel
theorem dX11_coverOf_68 : decode cX11_coverOf 68 = .ok (.imul, 1) := by decide +kernel
theorem dX11_coverOf_69 : decode cX11_coverOf 69 = .ok (.iadd, 1) := by decide +kernel
theorem dX11_coverOf_70 : decode cX11_coverOf 70 = .ok (.iconst 3, 1) := by decide +kernel
theorem dX11_coverOf_71 : decode cX11_coverOf 71 = .ok (.iadd, 1) := by decide +kernel
theorem dX11_coverOf_72 : decode cX11_coverOf 72 = .ok (.iaload, 1) := by decide +kernel
theorem dX11_coverOf_73 : decode cX11_coverOf 73 = .ok (.iload 4, 2) := by decide +kernel
theorem dX11_coverOf_75 : decode cX11_coverOf 75 = .ok (.if_icmp .eq 6, 3) := by decide +kernel
theorem dX11_coverOf_78 : decode cX11_coverOf 78 = .ok (.goto 90, 3) := by decide +kernel
theorem dX11_coverOf_81 : decode cX11_coverOf 81 = .ok (.aload_n 0, 1) := by decide +kernel
theorem dX11_coverOf_82 : decode cX11_coverOf 82 = .ok (.iload 7, 2) := by decide +kernel
theorem dX11_coverOf_84 : decode cX11_coverOf 84 = .ok (.invokevirtual 267, 3) := by decide +kernel
theorem dX11_coverOf_87 : decode cX11_coverOf 87 = .ok (.istore 8, 2) := by decide +kernel
theorem dX11_coverOf_89 : decode cX11_coverOf 89 = .ok (.iload 5, 2) := by decide +kernel
theorem dX11_coverOf_91 : decode cX11_coverOf 91 = .ok (.aload_n 0, 1) := by decide +kernel
theorem dX11_coverOf_92 : decode cX11_coverOf 92 = .ok (.getfield 33, 3) := by decide +kernel
theorem dX11_coverOf_95 : decode cX11_coverOf 95 = .ok (.bipush 26, 2) := by decide +kernel
theorem dX11_coverOf_97 : decode cX11_coverOf 97 = .ok (.iconst 4, 1) := by decide +kernel
theorem dX11_coverOf_98 : decode cX11_coverOf 98 = .ok (.iload 7, 2) := by decide +kernel
theorem dX11_coverOf_100 : decode cX11_coverOf 100 = .ok (.imul, 1) := by decide +kernel
theorem dX11_coverOf_101 : decode cX11_coverOf 101 = .ok (.iadd, 1) := by decide +kernel
theorem dX11_coverOf_102 : decode cX11_coverOf 102 = .ok (.iconst 1, 1) := by decide +kernel
theorem dX11_coverOf_103 : decode cX11_coverOf 103 = .ok (.iadd, 1) := by decide +kernel
theorem dX11_coverOf_104 : decode cX11_coverOf 104 = .ok (.iaload, 1) := by decide +kernel
theorem dX11_coverOf_105 : decode cX11_coverOf 105 = .ok (.aload_n 0, 1) := by decide +kernel
theorem dX11_coverOf_106 : decode cX11_coverOf 106 = .ok (.iload 8, 2) := by decide +kernel
theorem dX11_coverOf_108 : decode cX11_coverOf 108 = .ok (.aload_n 0, 1) := by decide +kernel
theorem dX11_coverOf_109 : decode cX11_coverOf 109 = .ok (.iload_n 1, 1) := by decide +kernel
theorem dX11_coverOf_110 : decode cX11_coverOf 110 = .ok (.invokevirtual 276, 3) := by decide +kernel
theorem dX11_coverOf_113 : decode cX11_coverOf 113 = .ok (.invokevirtual 273, 3) := by decide +kernel
theorem dX11_coverOf_116 : decode cX11_coverOf 116 = .ok (.imul, 1) := by decide +kernel
theorem dX11_coverOf_117 : decode cX11_coverOf 117 = .ok (.iadd, 1) := by decide +kernel
theorem dX11_coverOf_118 : decode cX11_coverOf 118 = .ok (.aload_n 0, 1) := by decide +kernel
theorem dX11_coverOf_119 : decode cX11_coverOf 119 = .ok (.getfield 230, 3) := by decide +kernel
theorem dX11_coverOf_122 : decode cX11_coverOf 122 = .ok (.irem, 1) := by decide +kernel
theorem dX11_coverOf_123 : decode cX11_coverOf 123 = .ok (.istore 5, 2) := by decide +kernel
theorem dX11_coverOf_125 : decode cX11_coverOf 125 = .ok (.iload 6, 2) := by decide +kernel
theorem dX11_coverOf_127 : decode cX11_coverOf 127 = .ok (.aload_n 0, 1) := by decide +kernel
theorem dX11_coverOf_128 : decode cX11_coverOf 128 = .ok (.getfield 33, 3) := by decide +kernel
theorem dX11_coverOf_131 : decode cX11_coverOf 131 = .ok (.bipush 26, 2) := by decide +kernel
theorem dX11_coverOf_133 : decode cX11_coverOf 133 = .ok (.iconst 4, 1) := by decide +kernel
theorem dX11_coverOf_134 : decode cX11_coverOf 134 = .ok (.iload 7, 2) := by decide +kernel
theorem dX11_coverOf_136 : decode cX11_coverOf 136 = .ok (.imul, 1) := by decide +kernel
theorem dX11_coverOf_137 : decode cX11_coverOf 137 = .ok (.iadd, 1) := by decide +kernel
theorem dX11_coverOf_138 : decode cX11_coverOf 138 = .ok (.iconst 1, 1) := by decide +kernel
theorem dX11_coverOf_139 : decode cX11_coverOf 139 = .ok (.iadd, 1) := by decide +kernel
theorem dX11_coverOf_140 : decode cX11_coverOf 140 = .ok (.iaload, 1) := by decide +kernel
theorem dX11_coverOf_141 : decode cX11_coverOf 141 = .ok (.aload_n 0, 1) := by decide +kernel
theorem dX11_coverOf_142 : decode cX11_coverOf 142 = .ok (.aload_n 0, 1) := by decide +kernel
theorem dX11_coverOf_143 : decode cX11_coverOf 143 = .ok (.getfield 33, 3) := by decide +kernel
theorem dX11_coverOf_146 : decode cX11_coverOf 146 = .ok (.iconst 0, 1) := by decide +kernel
theorem dX11_coverOf_147 : decode cX11_coverOf 147 = .ok (.iaload, 1) := by decide +kernel
theorem dX11_coverOf_148 : decode cX11_coverOf 148 = .ok (.iload 8, 2) := by decide +kernel
theorem dX11_coverOf_150 : decode cX11_coverOf 150 = .ok (.isub, 1) := by decide +kernel
theorem dX11_coverOf_151 : decode cX11_coverOf 151 = .ok (.aload_n 0, 1) := by decide +kernel
theorem dX11_coverOf_152 : decode cX11_coverOf 152 = .ok (.iload_n 2, 1) := by decide +kernel
theorem dX11_coverOf_153 : decode cX11_coverOf 153 = .ok (.invokevirtual 276, 3) := by decide +kernel
theorem dX11_coverOf_156 : decode cX11_coverOf 156 = .ok (.invokevirtual 273, 3) := by decide +kernel
theorem dX11_coverOf_159 : decode cX11_coverOf 159 = .ok (.imul, 1) := by decide +kernel
theorem dX11_coverOf_160 : decode cX11_coverOf 160 = .ok (.iadd, 1) := by decide +kernel
theorem dX11_coverOf_161 : decode cX11_coverOf 161 = .ok (.aload_n 0, 1) := by decide +kernel
theorem dX11_coverOf_162 : decode cX11_coverOf 162 = .ok (.getfield 230, 3) := by decide +kernel
theorem dX11_coverOf_165 : decode cX11_coverOf 165 = .ok (.irem, 1) := by decide +kernel
theorem dX11_coverOf_166 : decode cX11_coverOf 166 = .ok (.istore 6, 2) := by decide +kernel
theorem dX11_coverOf_168 : decode cX11_coverOf 168 = .ok (.iinc 7 1, 3) := by decide +kernel
theorem dX11_coverOf_171 : decode cX11_coverOf 171 = .ok (.goto (-123), 3) := by decide +kernel
theorem dX11_coverOf_174 : decode cX11_coverOf 174 = .ok (.iload_n 3, 1) := by decide +kernel
theorem dX11_coverOf_175 : decode cX11_coverOf 175 = .ok (.iload 5, 2) := by decide +kernel
theorem dX11_coverOf_177 : decode cX11_coverOf 177 = .ok (.iload 6, 2) := by decide +kernel
theorem dX11_coverOf_179 : decode cX11_coverOf 179 = .ok (.imul, 1) := by decide +kernel
theorem dX11_coverOf_180 : decode cX11_coverOf 180 = .ok (.iadd, 1) := by decide +kernel
theorem dX11_coverOf_181 : decode cX11_coverOf 181 = .ok (.aload_n 0, 1) := by decide +kernel
theorem dX11_coverOf_182 : decode cX11_coverOf 182 = .ok (.getfield 230, 3) := by decide +kernel
theorem dX11_coverOf_185 : decode cX11_coverOf 185 = .ok (.irem, 1) := by decide +kernel
theorem dX11_coverOf_186 : decode cX11_coverOf 186 = .ok (.istore_n 3, 1) := by decide +kernel
theorem dX11_coverOf_187 : decode cX11_coverOf 187 = .ok (.iinc 4 1, 3) := by decide +kernel
theorem dX11_coverOf_190 : decode cX11_coverOf 190 = .ok (.goto (-185), 3) := by decide +kernel
theorem dX11_coverOf_193 : decode cX11_coverOf 193 = .ok (.iload_n 3, 1) := by decide +kernel
theorem dX11_coverOf_194 : decode cX11_coverOf 194 = .ok (.aload_n 0, 1) := by decide +kernel
theorem dX11_coverOf_195 : decode cX11_coverOf 195 = .ok (.iload_n 1, 1) := by decide +kernel
theorem dX11_coverOf_196 : decode cX11_coverOf 196 = .ok (.invokevirtual 279, 3) := by decide +kernel
theorem dX11_coverOf_199 : decode cX11_coverOf 199 = .ok (.imul, 1) := by decide +kernel
theorem dX11_coverOf_200 : decode cX11_coverOf 200 = .ok (.aload_n 0, 1) := by decide +kernel
theorem dX11_coverOf_201 : decode cX11_coverOf 201 = .ok (.getfield 230, 3) := by decide +kernel
theorem dX11_coverOf_204 : decode cX11_coverOf 204 = .ok (.irem, 1) := by decide +kernel
theorem dX11_coverOf_205 : decode cX11_coverOf 205 = .ok (.aload_n 0, 1) := by decide +kernel
theorem dX11_coverOf_206 : decode cX11_coverOf 206 = .ok (.iload_n 2, 1) := by decide +kernel
theorem dX11_coverOf_207 : decode cX11_coverOf 207 = .ok (.invokevirtual 279, 3) := by decide +kernel
theorem dX11_coverOf_210 : decode cX11_coverOf 210 = .ok (.imul, 1) := by decide +kernel
theorem dX11_coverOf_211 : decode cX11_coverOf 211 = .ok (.aload_n 0, 1) := by decide +kernel
theorem dX11_coverOf_212 : decode cX11_coverOf 212 = .ok (.getfield 230, 3) := by decide +kernel
theorem dX11_coverOf_215 : decode cX11_coverOf 215 = .ok (.irem, 1) := by decide +kernel
theorem dX11_coverOf_216 : decode cX11_coverOf 216 = .ok (.ireturn, 1) := by decide +kernel
theorem dX11_cover_0 : decode cX11_cover 0 = .ok (.aload_n 0, 1) := by decide +kernel
theorem dX11_cover_1 : decode cX11_cover 1 = .ok (.iconst 0, 1) := by decide +kernel
theorem dX11_cover_2 : decode cX11_cover 2 = .ok (.putfield 1, 3) := by decide +kernel
theorem dX11_cover_5 : decode cX11_cover 5 = .ok (.aload_n 0, 1) := by decide +kernel
theorem dX11_cover_6 : decode cX11_cover 6 = .ok (.iload_n 1, 1) := by decide +kernel
theorem dX11_cover_7 : decode cX11_cover 7 = .ok (.invokevirtual 261, 3) := by decide +kernel
theorem dX11_cover_10 : decode cX11_cover 10 = .ok (.ifCond .eq 20, 3) := by decide +kernel
theorem dX11_cover_13 : decode cX11_cover 13 = .ok (.aload_n 0, 1) := by decide +kernel
theorem dX11_cover_14 : decode cX11_cover 14 = .ok (.iload_n 2, 1) := by decide +kernel
theorem dX11_cover_15 : decode cX11_cover 15 = .ok (.invokevirtual 261, 3) := by decide +kernel
theorem dX11_cover_18 : decode cX11_cover 18 = .ok (.ifCond .eq 12, 3) := by decide +kernel
theorem dX11_cover_21 : decode cX11_cover 21 = .ok (.aload_n 0, 1) := by decide +kernel
theorem dX11_cover_22 : decode cX11_cover 22 = .ok (.iload_n 1, 1) := by decide +kernel
theorem dX11_cover_23 : decode cX11_cover 23 = .ok (.iload_n 2, 1) := by decide +kernel
theorem dX11_cover_24 : decode cX11_cover 24 = .ok (.invokevirtual 285, 3) := by decide +kernel
theorem dX11_cover_27 : decode cX11_cover 27 = .ok (.goto 4, 3) := by decide +kernel
theorem dX11_cover_30 : decode cX11_cover 30 = .ok (.iconst (-1), 1) := by decide +kernel
theorem dX11_cover_31 : decode cX11_cover 31 = .ok (.ireturn, 1) := by decide +kernel
theorem dX11_covers_0 : decode cX11_covers 0 = .ok (.aload_n 0, 1) := by decide +kernel
theorem dX11_covers_1 : decode cX11_covers 1 = .ok (.aload_n 0, 1) := by decide +kernel
theorem dX11_covers_2 : decode cX11_covers 2 = .ok (.getfield 33, 3) := by decide +kernel
theorem dX11_covers_5 : decode cX11_covers 5 = .ok (.iconst 1, 1) := by decide +kernel
theorem dX11_covers_6 : decode cX11_covers 6 = .ok (.iaload, 1) := by decide +kernel
theorem dX11_covers_7 : decode cX11_covers 7 = .ok (.putfield 248, 3) := by decide +kernel
theorem dX11_covers_10 : decode cX11_covers 10 = .ok (.aload_n 0, 1) := by decide +kernel
theorem dX11_covers_11 : decode cX11_covers 11 = .ok (.aload_n 0, 1) := by decide +kernel
theorem dX11_covers_12 : decode cX11_covers 12 = .ok (.getfield 248, 3) := by decide +kernel
theorem dX11_covers_15 : decode cX11_covers 15 = .ok (.iconst 1, 1) := by decide +kernel
theorem dX11_covers_16 : decode cX11_covers 16 = .ok (.iadd, 1) := by decide +kernel
theorem dX11_covers_17 : decode cX11_covers 17 = .ok (.putfield 251, 3) := by decide +kernel
theorem dX11_covers_20 : decode cX11_covers 20 = .ok (.iconst 0, 1) := by decide +kernel
theorem dX11_covers_21 : decode cX11_covers 21 = .ok (.istore_n 1, 1) := by decide +kernel
theorem dX11_covers_22 : decode cX11_covers 22 = .ok (.iload_n 1, 1) := by decide +kernel
theorem dX11_covers_23 : decode cX11_covers 23 = .ok (.aload_n 0, 1) := by decide +kernel
theorem dX11_covers_24 : decode cX11_covers 24 = .ok (.getfield 248, 3) := by decide +kernel
theorem dX11_covers_27 : decode cX11_covers 27 = .ok (.if_icmp .ge 61, 3) := by decide +kernel
theorem dX11_covers_30 : decode cX11_covers 30 = .ok (.iconst 0, 1) := by decide +kernel
theorem dX11_covers_31 : decode cX11_covers 31 = .ok (.istore_n 2, 1) := by decide +kernel
theorem dX11_covers_32 : decode cX11_covers 32 = .ok (.iload_n 2, 1) := by decide +kernel
theorem dX11_covers_33 : decode cX11_covers 33 = .ok (.aload_n 0, 1) := by decide +kernel
theorem dX11_covers_34 : decode cX11_covers 34 = .ok (.getfield 248, 3) := by decide +kernel
theorem dX11_covers_37 : decode cX11_covers 37 = .ok (.if_icmp .ge 28, 3) := by decide +kernel
theorem dX11_covers_40 : decode cX11_covers 40 = .ok (.aload_n 0, 1) := by decide +kernel
theorem dX11_covers_41 : decode cX11_covers 41 = .ok (.getfield 50, 3) := by decide +kernel
theorem dX11_covers_44 : decode cX11_covers 44 = .ok (.aload_n 0, 1) := by decide +kernel
theorem dX11_covers_45 : decode cX11_covers 45 = .ok (.getfield 251, 3) := by decide +kernel
theorem dX11_covers_48 : decode cX11_covers 48 = .ok (.iload_n 1, 1) := by decide +kernel
theorem dX11_covers_49 : decode cX11_covers 49 = .ok (.imul, 1) := by decide +kernel
theorem dX11_covers_50 : decode cX11_covers 50 = .ok (.iload_n 2, 1) := by decide +kernel
theorem dX11_covers_51 : decode cX11_covers 51 = .ok (.iadd, 1) := by decide +kernel
theorem dX11_covers_52 : decode cX11_covers 52 = .ok (.aload_n 0, 1) := by decide +kernel
theorem dX11_covers_53 : decode cX11_covers 53 = .ok (.iload_n 1, 1) := by decide +kernel
theorem dX11_covers_54 : decode cX11_covers 54 = .ok (.iload_n 2, 1) := by decide +kernel
theorem dX11_covers_55 : decode cX11_covers 55 = .ok (.invokevirtual 285, 3) := by decide +kernel
theorem dX11_covers_58 : decode cX11_covers 58 = .ok (.iastore, 1) := by decide +kernel
theorem dX11_covers_59 : decode cX11_covers 59 = .ok (.iinc 2 1, 3) := by decide +kernel
theorem dX11_covers_62 : decode cX11_covers 62 = .ok (.goto (-30), 3) := by decide +kernel
theorem dX11_covers_65 : decode cX11_covers 65 = .ok (.aload_n 0, 1) := by decide +kernel
theorem dX11_covers_66 : decode cX11_covers 66 = .ok (.getfield 50, 3) := by decide +kernel
theorem dX11_covers_69 : decode cX11_covers 69 = .ok (.aload_n 0, 1) := by decide +kernel
theorem dX11_covers_70 : decode cX11_covers 70 = .ok (.getfield 251, 3) := by decide +kernel
theorem dX11_covers_73 : decode cX11_covers 73 = .ok (.iload_n 1, 1) := by decide +kernel
theorem dX11_covers_74 : decode cX11_covers 74 = .ok (.imul, 1) := by decide +kernel
theorem dX11_covers_75 : decode cX11_covers 75 = .ok (.aload_n 0, 1) := by decide +kernel
theorem dX11_covers_76 : decode cX11_covers 76 = .ok (.getfield 248, 3) := by decide +kernel
theorem dX11_covers_79 : decode cX11_covers 79 = .ok (.iadd, 1) := by decide +kernel
theorem dX11_covers_80 : decode cX11_covers 80 = .ok (.iconst 0, 1) := by decide +kernel
theorem dX11_covers_81 : decode cX11_covers 81 = .ok (.iastore, 1) := by decide +kernel
theorem dX11_covers_82 : decode cX11_covers 82 = .ok (.iinc 1 1, 3) := by decide +kernel
theorem dX11_covers_85 : decode cX11_covers 85 = .ok (.goto (-63), 3) := by decide +kernel
theorem dX11_covers_88 : decode cX11_covers 88 = .ok (.return_, 1) := by decide +kernel
theorem dX11_smooth_0 : decode cX11_smooth 0 = .ok (.aload_n 0, 1) := by decide +kernel
theorem dX11_smooth_1 : decode cX11_smooth 1 = .ok (.iload_n 1, 1) := by decide +kernel
theorem dX11_smooth_2 : decode cX11_smooth 2 = .ok (.putfield 248, 3) := by decide +kernel
theorem dX11_smooth_5 : decode cX11_smooth 5 = .ok (.aload_n 0, 1) := by decide +kernel
theorem dX11_smooth_6 : decode cX11_smooth 6 = .ok (.iload_n 1, 1) := by decide +kernel
theorem dX11_smooth_7 : decode cX11_smooth 7 = .ok (.iconst 1, 1) := by decide +kernel
theorem dX11_smooth_8 : decode cX11_smooth 8 = .ok (.iadd, 1) := by decide +kernel
theorem dX11_smooth_9 : decode cX11_smooth 9 = .ok (.putfield 251, 3) := by decide +kernel
theorem dX11_smooth_12 : decode cX11_smooth 12 = .ok (.iconst 0, 1) := by decide +kernel
theorem dX11_smooth_13 : decode cX11_smooth 13 = .ok (.istore_n 2, 1) := by decide +kernel
theorem dX11_smooth_14 : decode cX11_smooth 14 = .ok (.iload_n 2, 1) := by decide +kernel
theorem dX11_smooth_15 : decode cX11_smooth 15 = .ok (.iload_n 1, 1) := by decide +kernel
theorem dX11_smooth_16 : decode cX11_smooth 16 = .ok (.if_icmp .ge 98, 3) := by decide +kernel
theorem dX11_smooth_19 : decode cX11_smooth 19 = .ok (.iconst 0, 1) := by decide +kernel
theorem dX11_smooth_20 : decode cX11_smooth 20 = .ok (.istore_n 3, 1) := by decide +kernel
theorem dX11_smooth_21 : decode cX11_smooth 21 = .ok (.iload_n 3, 1) := by decide +kernel
theorem dX11_smooth_22 : decode cX11_smooth 22 = .ok (.iload_n 1, 1) := by decide +kernel
theorem dX11_smooth_23 : decode cX11_smooth 23 = .ok (.if_icmp .ge 71, 3) := by decide +kernel
theorem dX11_smooth_26 : decode cX11_smooth 26 = .ok (.iconst 0, 1) := by decide +kernel
theorem dX11_smooth_27 : decode cX11_smooth 27 = .ok (.istore 4, 2) := by decide +kernel
theorem dX11_smooth_29 : decode cX11_smooth 29 = .ok (.iconst 0, 1) := by decide +kernel
theorem dX11_smooth_30 : decode cX11_smooth 30 = .ok (.istore 5, 2) := by decide +kernel
theorem dX11_smooth_32 : decode cX11_smooth 32 = .ok (.iload 5, 2) := by decide +kernel
theorem dX11_smooth_34 : decode cX11_smooth 34 = .ok (.iload_n 1, 1) := by decide +kernel
theorem dX11_smooth_35 : decode cX11_smooth 35 = .ok (.iadd, 1) := by decide +kernel
theorem dX11_smooth_36 : decode cX11_smooth 36 = .ok (.aload_n 0, 1) := by decide +kernel
theorem dX11_smooth_37 : decode cX11_smooth 37 = .ok (.getfield 33, 3) := by decide +kernel
theorem dX11_smooth_40 : decode cX11_smooth 40 = .ok (.iconst 1, 1) := by decide +kernel
theorem dX11_smooth_41 : decode cX11_smooth 41 = .ok (.iaload, 1) := by decide +kernel
theorem dX11_smooth_42 : decode cX11_smooth 42 = .ok (.if_icmp .gt 26, 3) := by decide +kernel
theorem dX11_smooth_45 : decode cX11_smooth 45 = .ok (.iload 4, 2) := by decide +kernel
theorem dX11_smooth_47 : decode cX11_smooth 47 = .ok (.aload_n 0, 1) := by decide +kernel
theorem dX11_smooth_48 : decode cX11_smooth 48 = .ok (.iload_n 2, 1) := by decide +kernel
theorem dX11_smooth_49 : decode cX11_smooth 49 = .ok (.iload 5, 2) := by decide +kernel
theorem dX11_smooth_51 : decode cX11_smooth 51 = .ok (.iadd, 1) := by decide +kernel
theorem dX11_smooth_52 : decode cX11_smooth 52 = .ok (.iload_n 3, 1) := by decide +kernel
theorem dX11_smooth_53 : decode cX11_smooth 53 = .ok (.iload 5, 2) := by decide +kernel
theorem dX11_smooth_55 : decode cX11_smooth 55 = .ok (.iadd, 1) := by decide +kernel
theorem dX11_smooth_56 : decode cX11_smooth 56 = .ok (.invokevirtual 285, 3) := by decide +kernel
theorem dX11_smooth_59 : decode cX11_smooth 59 = .ok (.iadd, 1) := by decide +kernel
theorem dX11_smooth_60 : decode cX11_smooth 60 = .ok (.istore 4, 2) := by decide +kernel
theorem dX11_smooth_62 : decode cX11_smooth 62 = .ok (.iinc 5 1, 3) := by decide +kernel
theorem dX11_smooth_65 : decode cX11_smooth 65 = .ok (.goto (-33), 3) := by decide +kernel
theorem dX11_smooth_68 : decode cX11_smooth 68 = .ok (.aload_n 0, 1) := by decide +kernel
theorem dX11_smooth_69 : decode cX11_smooth 69 = .ok (.getfield 50, 3) := by decide +kernel
theorem dX11_smooth_72 : decode cX11_smooth 72 = .ok (.aload_n 0, 1) := by decide +kernel
theorem dX11_smooth_73 : decode cX11_smooth 73 = .ok (.getfield 251, 3) := by decide +kernel
theorem dX11_smooth_76 : decode cX11_smooth 76 = .ok (.iload_n 2, 1) := by decide +kernel
theorem dX11_smooth_77 : decode cX11_smooth 77 = .ok (.imul, 1) := by decide +kernel
theorem dX11_smooth_78 : decode cX11_smooth 78 = .ok (.iload_n 3, 1) := by decide +kernel
theorem dX11_smooth_79 : decode cX11_smooth 79 = .ok (.iadd, 1) := by decide +kernel
theorem dX11_smooth_80 : decode cX11_smooth 80 = .ok (.iload 4, 2) := by decide +kernel
theorem dX11_smooth_82 : decode cX11_smooth 82 = .ok (.aload_n 0, 1) := by decide +kernel
theorem dX11_smooth_83 : decode cX11_smooth 83 = .ok (.getfield 230, 3) := by decide +kernel
theorem dX11_smooth_86 : decode cX11_smooth 86 = .ok (.irem, 1) := by decide +kernel
theorem dX11_smooth_87 : decode cX11_smooth 87 = .ok (.iastore, 1) := by decide +kernel
theorem dX11_smooth_88 : decode cX11_smooth 88 = .ok (.iinc 3 1, 3) := by decide +kernel
theorem dX11_smooth_91 : decode cX11_smooth 91 = .ok (.goto (-70), 3) := by decide +kernel
theorem dX11_smooth_94 : decode cX11_smooth 94 = .ok (.aload_n 0, 1) := by decide +kernel
theorem dX11_smooth_95 : decode cX11_smooth 95 = .ok (.getfield 50, 3) := by decide +kernel
theorem dX11_smooth_98 : decode cX11_smooth 98 = .ok (.aload_n 0, 1) := by decide +kernel
theorem dX11_smooth_99 : decode cX11_smooth 99 = .ok (.getfield 251, 3) := by decide +kernel
theorem dX11_smooth_102 : decode cX11_smooth 102 = .ok (.iload_n 2, 1) := by decide +kernel
theorem dX11_smooth_103 : decode cX11_smooth 103 = .ok (.imul, 1) := by decide +kernel
theorem dX11_smooth_104 : decode cX11_smooth 104 = .ok (.iload_n 1, 1) := by decide +kernel
theorem dX11_smooth_105 : decode cX11_smooth 105 = .ok (.iadd, 1) := by decide +kernel
theorem dX11_smooth_106 : decode cX11_smooth 106 = .ok (.iconst 0, 1) := by decide +kernel
theorem dX11_smooth_107 : decode cX11_smooth 107 = .ok (.iastore, 1) := by decide +kernel
theorem dX11_smooth_108 : decode cX11_smooth 108 = .ok (.iinc 2 1, 3) := by decide +kernel
theorem dX11_smooth_111 : decode cX11_smooth 111 = .ok (.goto (-97), 3) := by decide +kernel
theorem dX11_smooth_114 : decode cX11_smooth 114 = .ok (.return_, 1) := by decide +kernel
theorem dX11_order_0 : decode cX11_order 0 = .ok (.aload_n 0, 1) := by decide +kernel
theorem dX11_order_1 : decode cX11_order 1 = .ok (.iconst 0, 1) := by decide +kernel
theorem dX11_order_2 : decode cX11_order 2 = .ok (.putfield 1, 3) := by decide +kernel
theorem dX11_order_5 : decode cX11_order 5 = .ok (.aload_n 0, 1) := by decide +kernel
theorem dX11_order_6 : decode cX11_order 6 = .ok (.invokevirtual 288, 3) := by decide +kernel
theorem dX11_order_9 : decode cX11_order 9 = .ok (.aload_n 0, 1) := by decide +kernel
theorem dX11_order_10 : decode cX11_order 10 = .ok (.aload_n 0, 1) := by decide +kernel
theorem dX11_order_11 : decode cX11_order 11 = .ok (.getfield 248, 3) := by decide +kernel
theorem dX11_order_14 : decode cX11_order 14 = .ok (.invokevirtual 258, 3) := by decide +kernel
theorem dX11_order_17 : decode cX11_order 17 = .ok (.aload_n 0, 1) := by decide +kernel
theorem dX11_order_18 : decode cX11_order 18 = .ok (.getfield 245, 3) := by decide +kernel
theorem dX11_order_21 : decode cX11_order 21 = .ok (.ireturn, 1) := by decide +kernel
theorem dX11_seen_0 : decode cX11_seen 0 = .ok (.aload_n 0, 1) := by decide +kernel
theorem dX11_seen_1 : decode cX11_seen 1 = .ok (.iconst 0, 1) := by decide +kernel
theorem dX11_seen_2 : decode cX11_seen 2 = .ok (.putfield 1, 3) := by decide +kernel
theorem dX11_seen_5 : decode cX11_seen 5 = .ok (.lconst 0, 1) := by decide +kernel
theorem dX11_seen_6 : decode cX11_seen 6 = .ok (.lstore_n 1, 1) := by decide +kernel
theorem dX11_seen_7 : decode cX11_seen 7 = .ok (.iconst 0, 1) := by decide +kernel
theorem dX11_seen_8 : decode cX11_seen 8 = .ok (.istore_n 3, 1) := by decide +kernel
theorem dX11_seen_9 : decode cX11_seen 9 = .ok (.iload_n 3, 1) := by decide +kernel
theorem dX11_seen_10 : decode cX11_seen 10 = .ok (.aload_n 0, 1) := by decide +kernel
theorem dX11_seen_11 : decode cX11_seen 11 = .ok (.getfield 33, 3) := by decide +kernel
theorem dX11_seen_14 : decode cX11_seen 14 = .ok (.iconst 0, 1) := by decide +kernel
theorem dX11_seen_15 : decode cX11_seen 15 = .ok (.iaload, 1) := by decide +kernel
theorem dX11_seen_16 : decode cX11_seen 16 = .ok (.if_icmp .ge 88, 3) := by decide +kernel
theorem dX11_seen_19 : decode cX11_seen 19 = .ok (.aload_n 0, 1) := by decide +kernel
theorem dX11_seen_20 : decode cX11_seen 20 = .ok (.invokevirtual 288, 3) := by decide +kernel
theorem dX11_seen_23 : decode cX11_seen 23 = .ok (.iconst 0, 1) := by decide +kernel
theorem dX11_seen_24 : decode cX11_seen 24 = .ok (.istore 4, 2) := by decide +kernel
theorem dX11_seen_26 : decode cX11_seen 26 = .ok (.iload 4, 2) := by decide +kernel
theorem dX11_seen_28 : decode cX11_seen 28 = .ok (.aload_n 0, 1) := by decide +kernel
theorem dX11_seen_29 : decode cX11_seen 29 = .ok (.getfield 248, 3) := by decide +kernel
theorem dX11_seen_32 : decode cX11_seen 32 = .ok (.if_icmp .ge 49, 3) := by decide +kernel
theorem dX11_seen_35 : decode cX11_seen 35 = .ok (.aload_n 0, 1) := by decide +kernel
theorem dX11_seen_36 : decode cX11_seen 36 = .ok (.getfield 50, 3) := by decide +kernel
theorem dX11_seen_39 : decode cX11_seen 39 = .ok (.aload_n 0, 1) := by decide +kernel
theorem dX11_seen_40 : decode cX11_seen 40 = .ok (.getfield 251, 3) := by decide +kernel
theorem dX11_seen_43 : decode cX11_seen 43 = .ok (.iload 4, 2) := by decide +kernel
theorem dX11_seen_45 : decode cX11_seen 45 = .ok (.imul, 1) := by decide +kernel
theorem dX11_seen_46 : decode cX11_seen 46 = .ok (.aload_n 0, 1) := by decide +kernel
theorem dX11_seen_47 : decode cX11_seen 47 = .ok (.getfield 248, 3) := by decide +kernel
theorem dX11_seen_50 : decode cX11_seen 50 = .ok (.iadd, 1) := by decide +kernel
theorem dX11_seen_51 : decode cX11_seen 51 = .ok (.aload_n 0, 1) := by decide +kernel
theorem dX11_seen_52 : decode cX11_seen 52 = .ok (.iload 4, 2) := by decide +kernel
theorem dX11_seen_54 : decode cX11_seen 54 = .ok (.invokevirtual 279, 3) := by decide +kernel
theorem dX11_seen_57 : decode cX11_seen 57 = .ok (.aload_n 0, 1) := by decide +kernel
theorem dX11_seen_58 : decode cX11_seen 58 = .ok (.iload_n 3, 1) := by decide +kernel
theorem dX11_seen_59 : decode cX11_seen 59 = .ok (.aload_n 0, 1) := by decide +kernel
theorem dX11_seen_60 : decode cX11_seen 60 = .ok (.iload 4, 2) := by decide +kernel
theorem dX11_seen_62 : decode cX11_seen 62 = .ok (.invokevirtual 276, 3) := by decide +kernel
theorem dX11_seen_65 : decode cX11_seen 65 = .ok (.invokevirtual 273, 3) := by decide +kernel
theorem dX11_seen_68 : decode cX11_seen 68 = .ok (.imul, 1) := by decide +kernel
theorem dX11_seen_69 : decode cX11_seen 69 = .ok (.aload_n 0, 1) := by decide +kernel
theorem dX11_seen_70 : decode cX11_seen 70 = .ok (.getfield 230, 3) := by decide +kernel
theorem dX11_seen_73 : decode cX11_seen 73 = .ok (.irem, 1) := by decide +kernel
theorem dX11_seen_74 : decode cX11_seen 74 = .ok (.iastore, 1) := by decide +kernel
theorem dX11_seen_75 : decode cX11_seen 75 = .ok (.iinc 4 1, 3) := by decide +kernel
theorem dX11_seen_78 : decode cX11_seen 78 = .ok (.goto (-52), 3) := by decide +kernel
theorem dX11_seen_81 : decode cX11_seen 81 = .ok (.lload_n 1, 1) := by decide +kernel
theorem dX11_seen_82 : decode cX11_seen 82 = .ok (.aload_n 0, 1) := by decide +kernel
theorem dX11_seen_83 : decode cX11_seen 83 = .ok (.invokevirtual 291, 3) := by decide +kernel
theorem dX11_seen_86 : decode cX11_seen 86 = .ok (.ifCond .eq 9, 3) := by decide +kernel
theorem dX11_seen_89 : decode cX11_seen 89 = .ok (.lconst 1, 1) := by decide +kernel
theorem dX11_seen_90 : decode cX11_seen 90 = .ok (.iload_n 3, 1) := by decide +kernel
theorem dX11_seen_91 : decode cX11_seen 91 = .ok (.lshl, 1) := by decide +kernel
theorem dX11_seen_92 : decode cX11_seen 92 = .ok (.goto 4, 3) := by decide +kernel
theorem dX11_seen_95 : decode cX11_seen 95 = .ok (.lconst 0, 1) := by decide +kernel
theorem dX11_seen_96 : decode cX11_seen 96 = .ok (.lor, 1) := by decide +kernel
theorem dX11_seen_97 : decode cX11_seen 97 = .ok (.lstore_n 1, 1) := by decide +kernel
theorem dX11_seen_98 : decode cX11_seen 98 = .ok (.iinc 3 1, 3) := by decide +kernel
theorem dX11_seen_101 : decode cX11_seen 101 = .ok (.goto (-92), 3) := by decide +kernel
theorem dX11_seen_104 : decode cX11_seen 104 = .ok (.lload_n 1, 1) := by decide +kernel
theorem dX11_seen_105 : decode cX11_seen 105 = .ok (.lreturn, 1) := by decide +kernel
theorem dX11_areTwins_0 : decode cX11_areTwins 0 = .ok (.iconst (-1), 1) := by decide +kernel
theorem dX11_areTwins_1 : decode cX11_areTwins 1 = .ok (.istore 4, 2) := by decide +kernel
theorem dX11_areTwins_3 : decode cX11_areTwins 3 = .ok (.iload_n 2, 1) := by decide +kernel
theorem dX11_areTwins_4 : decode cX11_areTwins 4 = .ok (.aload_n 0, 1) := by decide +kernel
theorem dX11_areTwins_5 : decode cX11_areTwins 5 = .ok (.getfield 33, 3) := by decide +kernel
theorem dX11_areTwins_8 : decode cX11_areTwins 8 = .ok (.iconst 0, 1) := by decide +kernel
theorem dX11_areTwins_9 : decode cX11_areTwins 9 = .ok (.iaload, 1) := by decide +kernel
theorem dX11_areTwins_10 : decode cX11_areTwins 10 = .ok (.iadd, 1) := by decide +kernel
theorem dX11_areTwins_11 : decode cX11_areTwins 11 = .ok (.iload_n 1, 1) := by decide +kernel
theorem dX11_areTwins_12 : decode cX11_areTwins 12 = .ok (.isub, 1) := by decide +kernel
theorem dX11_areTwins_13 : decode cX11_areTwins 13 = .ok (.aload_n 0, 1) := by decide +kernel
theorem dX11_areTwins_14 : decode cX11_areTwins 14 = .ok (.getfield 33, 3) := by decide +kernel
theorem dX11_areTwins_17 : decode cX11_areTwins 17 = .ok (.iconst 0, 1) := by decide +kernel
theorem dX11_areTwins_18 : decode cX11_areTwins 18 = .ok (.iaload, 1) := by decide +kernel
theorem dX11_areTwins_19 : decode cX11_areTwins 19 = .ok (.irem, 1) := by decide +kernel
theorem dX11_areTwins_20 : decode cX11_areTwins 20 = .ok (.istore 5, 2) := by decide +kernel
theorem dX11_areTwins_22 : decode cX11_areTwins 22 = .ok (.iconst 0, 1) := by decide +kernel
theorem dX11_areTwins_23 : decode cX11_areTwins 23 = .ok (.istore 6, 2) := by decide +kernel
theorem dX11_areTwins_25 : decode cX11_areTwins 25 = .ok (.iload 6, 2) := by decide +kernel
theorem dX11_areTwins_27 : decode cX11_areTwins 27 = .ok (.aload_n 0, 1) := by decide +kernel
theorem dX11_areTwins_28 : decode cX11_areTwins 28 = .ok (.getfield 33, 3) := by decide +kernel
theorem dX11_areTwins_31 : decode cX11_areTwins 31 = .ok (.iconst 1, 1) := by decide +kernel
theorem dX11_areTwins_32 : decode cX11_areTwins 32 = .ok (.iaload, 1) := by decide +kernel
theorem dX11_areTwins_33 : decode cX11_areTwins 33 = .ok (.if_icmp .ge 53, 3) := by decide +kernel
theorem dX11_areTwins_36 : decode cX11_areTwins 36 = .ok (.iload_n 3, 1) := by decide +kernel
theorem dX11_areTwins_37 : decode cX11_areTwins 37 = .ok (.iload 6, 2) := by decide +kernel
theorem dX11_areTwins_39 : decode cX11_areTwins 39 = .ok (.invokestatic 294, 3) := by decide +kernel
theorem dX11_areTwins_42 : decode cX11_areTwins 42 = .ok (.ifCond .ne 6, 3) := by decide +kernel
theorem dX11_areTwins_45 : decode cX11_areTwins 45 = .ok (.goto 35, 3) := by decide +kernel
theorem dX11_areTwins_48 : decode cX11_areTwins 48 = .ok (.aload_n 0, 1) := by decide +kernel
theorem dX11_areTwins_49 : decode cX11_areTwins 49 = .ok (.iload 5, 2) := by decide +kernel
theorem dX11_areTwins_51 : decode cX11_areTwins 51 = .ok (.aload_n 0, 1) := by decide +kernel
theorem dX11_areTwins_52 : decode cX11_areTwins 52 = .ok (.iload 6, 2) := by decide +kernel
theorem dX11_areTwins_54 : decode cX11_areTwins 54 = .ok (.invokevirtual 276, 3) := by decide +kernel
theorem dX11_areTwins_57 : decode cX11_areTwins 57 = .ok (.invokevirtual 273, 3) := by decide +kernel
theorem dX11_areTwins_60 : decode cX11_areTwins 60 = .ok (.istore 7, 2) := by decide +kernel
theorem dX11_areTwins_62 : decode cX11_areTwins 62 = .ok (.iload 4, 2) := by decide +kernel
theorem dX11_areTwins_64 : decode cX11_areTwins 64 = .ok (.ifCond .lt 12, 3) := by decide +kernel
theorem dX11_areTwins_67 : decode cX11_areTwins 67 = .ok (.iload 7, 2) := by decide +kernel
theorem dX11_areTwins_69 : decode cX11_areTwins 69 = .ok (.iload 4, 2) := by decide +kernel
theorem dX11_areTwins_71 : decode cX11_areTwins 71 = .ok (.if_icmp .eq 5, 3) := by decide +kernel
theorem dX11_areTwins_74 : decode cX11_areTwins 74 = .ok (.iconst 0, 1) := by decide +kernel
theorem dX11_areTwins_75 : decode cX11_areTwins 75 = .ok (.ireturn, 1) := by decide +kernel
theorem dX11_areTwins_76 : decode cX11_areTwins 76 = .ok (.iload 7, 2) := by decide +kernel
theorem dX11_areTwins_78 : decode cX11_areTwins 78 = .ok (.istore 4, 2) := by decide +kernel
theorem dX11_areTwins_80 : decode cX11_areTwins 80 = .ok (.iinc 6 1, 3) := by decide +kernel
theorem dX11_areTwins_83 : decode cX11_areTwins 83 = .ok (.goto (-58), 3) := by decide +kernel
theorem dX11_areTwins_86 : decode cX11_areTwins 86 = .ok (.iconst 1, 1) := by decide +kernel
theorem dX11_areTwins_87 : decode cX11_areTwins 87 = .ok (.ireturn, 1) := by decide +kernel
theorem dX11_twins_0 : decode cX11_twins 0 = .ok (.aload_n 0, 1) := by decide +kernel
theorem dX11_twins_1 : decode cX11_twins 1 = .ok (.iconst 0, 1) := by decide +kernel
theorem dX11_twins_2 : decode cX11_twins 2 = .ok (.putfield 1, 3) := by decide +kernel
theorem dX11_twins_5 : decode cX11_twins 5 = .ok (.aload_n 0, 1) := by decide +kernel
theorem dX11_twins_6 : decode cX11_twins 6 = .ok (.iload_n 1, 1) := by decide +kernel
theorem dX11_twins_7 : decode cX11_twins 7 = .ok (.invokevirtual 270, 3) := by decide +kernel
theorem dX11_twins_10 : decode cX11_twins 10 = .ok (.ifCond .ne 7, 3) := by decide +kernel
theorem dX11_twins_13 : decode cX11_twins 13 = .ok (.ldc2_w 297, 3) := by decide +kernel
theorem dX11_twins_16 : decode cX11_twins 16 = .ok (.lreturn, 1) := by decide +kernel
theorem dX11_twins_17 : decode cX11_twins 17 = .ok (.lconst 0, 1) := by decide +kernel
theorem dX11_twins_18 : decode cX11_twins 18 = .ok (.lstore_n 2, 1) := by decide +kernel
theorem dX11_twins_19 : decode cX11_twins 19 = .ok (.iconst 0, 1) := by decide +kernel
theorem dX11_twins_20 : decode cX11_twins 20 = .ok (.istore 4, 2) := by decide +kernel
theorem dX11_twins_22 : decode cX11_twins 22 = .ok (.iload 4, 2) := by decide +kernel
theorem dX11_twins_24 : decode cX11_twins 24 = .ok (.aload_n 0, 1) := by decide +kernel
theorem dX11_twins_25 : decode cX11_twins 25 = .ok (.getfield 33, 3) := by decide +kernel
theorem dX11_twins_28 : decode cX11_twins 28 = .ok (.iconst 0, 1) := by decide +kernel
theorem dX11_twins_29 : decode cX11_twins 29 = .ok (.iaload, 1) := by decide +kernel
theorem dX11_twins_30 : decode cX11_twins 30 = .ok (.if_icmp .ge 39, 3) := by decide +kernel
theorem dX11_twins_33 : decode cX11_twins 33 = .ok (.lload_n 2, 1) := by decide +kernel
theorem dX11_twins_34 : decode cX11_twins 34 = .ok (.iload 4, 2) := by decide +kernel
theorem dX11_twins_36 : decode cX11_twins 36 = .ok (.iload_n 1, 1) := by decide +kernel
theorem dX11_twins_37 : decode cX11_twins 37 = .ok (.if_icmp .eq 23, 3) := by decide +kernel
theorem dX11_twins_40 : decode cX11_twins 40 = .ok (.aload_n 0, 1) := by decide +kernel
theorem dX11_twins_41 : decode cX11_twins 41 = .ok (.iload_n 1, 1) := by decide +kernel
theorem dX11_twins_42 : decode cX11_twins 42 = .ok (.iload 4, 2) := by decide +kernel
theorem dX11_twins_44 : decode cX11_twins 44 = .ok (.sipush 1023, 3) := by decide +kernel
theorem dX11_twins_47 : decode cX11_twins 47 = .ok (.invokevirtual 299, 3) := by decide +kernel
theorem dX11_twins_50 : decode cX11_twins 50 = .ok (.ifCond .eq 10, 3) := by decide +kernel
theorem dX11_twins_53 : decode cX11_twins 53 = .ok (.lconst 1, 1) := by decide +kernel
theorem dX11_twins_54 : decode cX11_twins 54 = .ok (.iload 4, 2) := by decide +kernel
theorem dX11_twins_56 : decode cX11_twins 56 = .ok (.lshl, 1) := by decide +kernel
theorem dX11_twins_57 : decode cX11_twins 57 = .ok (.goto 4, 3) := by decide +kernel
theorem dX11_twins_60 : decode cX11_twins 60 = .ok (.lconst 0, 1) := by decide +kernel
theorem dX11_twins_61 : decode cX11_twins 61 = .ok (.lor, 1) := by decide +kernel
theorem dX11_twins_62 : decode cX11_twins 62 = .ok (.lstore_n 2, 1) := by decide +kernel
theorem dX11_twins_63 : decode cX11_twins 63 = .ok (.iinc 4 1, 3) := by decide +kernel
theorem dX11_twins_66 : decode cX11_twins 66 = .ok (.goto (-44), 3) := by decide +kernel
theorem dX11_twins_69 : decode cX11_twins 69 = .ok (.lload_n 2, 1) := by decide +kernel
theorem dX11_twins_70 : decode cX11_twins 70 = .ok (.lreturn, 1) := by decide +kernel
theorem dX11_isEven_0 : decode cX11_isEven 0 = .ok (.iconst 1, 1) := by decide +kernel
theorem dX11_isEven_1 : decode cX11_isEven 1 = .ok (.istore_n 1, 1) := by decide +kernel
theorem dX11_isEven_2 : decode cX11_isEven 2 = .ok (.iload_n 1, 1) := by decide +kernel
theorem dX11_isEven_3 : decode cX11_isEven 3 = .ok (.aload_n 0, 1) := by decide +kernel
theorem dX11_isEven_4 : decode cX11_isEven 4 = .ok (.getfield 33, 3) := by decide +kernel
theorem dX11_isEven_7 : decode cX11_isEven 7 = .ok (.iconst 1, 1) := by decide +kernel
theorem dX11_isEven_8 : decode cX11_isEven 8 = .ok (.iaload, 1) := by decide +kernel
theorem dX11_isEven_9 : decode cX11_isEven 9 = .ok (.if_icmp .ge 28, 3) := by decide +kernel
theorem dX11_isEven_12 : decode cX11_isEven 12 = .ok (.aload_n 0, 1) := by decide +kernel
theorem dX11_isEven_13 : decode cX11_isEven 13 = .ok (.iload_n 1, 1) := by decide +kernel
theorem dX11_isEven_14 : decode cX11_isEven 14 = .ok (.invokevirtual 276, 3) := by decide +kernel
theorem dX11_isEven_17 : decode cX11_isEven 17 = .ok (.aload_n 0, 1) := by decide +kernel
theorem dX11_isEven_18 : decode cX11_isEven 18 = .ok (.iload_n 1, 1) := by decide +kernel
theorem dX11_isEven_19 : decode cX11_isEven 19 = .ok (.iconst 1, 1) := by decide +kernel
theorem dX11_isEven_20 : decode cX11_isEven 20 = .ok (.isub, 1) := by decide +kernel
theorem dX11_isEven_21 : decode cX11_isEven 21 = .ok (.invokevirtual 276, 3) := by decide +kernel
theorem dX11_isEven_24 : decode cX11_isEven 24 = .ok (.iconst 1, 1) := by decide +kernel
theorem dX11_isEven_25 : decode cX11_isEven 25 = .ok (.iadd, 1) := by decide +kernel
theorem dX11_isEven_26 : decode cX11_isEven 26 = .ok (.if_icmp .eq 5, 3) := by decide +kernel
theorem dX11_isEven_29 : decode cX11_isEven 29 = .ok (.iconst 0, 1) := by decide +kernel
theorem dX11_isEven_30 : decode cX11_isEven 30 = .ok (.ireturn, 1) := by decide +kernel
theorem dX11_isEven_31 : decode cX11_isEven 31 = .ok (.iinc 1 1, 3) := by decide +kernel
theorem dX11_isEven_34 : decode cX11_isEven 34 = .ok (.goto (-32), 3) := by decide +kernel
theorem dX11_isEven_37 : decode cX11_isEven 37 = .ok (.iconst 1, 1) := by decide +kernel
theorem dX11_isEven_38 : decode cX11_isEven 38 = .ok (.ireturn, 1) := by decide +kernel
theorem dX11_isSmooth_0 : decode cX11_isSmooth 0 = .ok (.iload_n 1, 1) := by decide +kernel
theorem dX11_isSmooth_1 : decode cX11_isSmooth 1 = .ok (.iconst 1, 1) := by decide +kernel
theorem dX11_isSmooth_2 : decode cX11_isSmooth 2 = .ok (.aload_n 0, 1) := by decide +kernel
theorem dX11_isSmooth_3 : decode cX11_isSmooth 3 = .ok (.getfield 33, 3) := by decide +kernel
theorem dX11_isSmooth_6 : decode cX11_isSmooth 6 = .ok (.iconst 1, 1) := by decide +kernel
theorem dX11_isSmooth_7 : decode cX11_isSmooth 7 = .ok (.iaload, 1) := by decide +kernel
theorem dX11_isSmooth_8 : decode cX11_isSmooth 8 = .ok (.invokestatic 175, 3) := by decide +kernel
theorem dX11_isSmooth_11 : decode cX11_isSmooth 11 = .ok (.ifCond .eq 14, 3) := by decide +kernel
theorem dX11_isSmooth_14 : decode cX11_isSmooth 14 = .ok (.aload_n 0, 1) := by decide +kernel
theorem dX11_isSmooth_15 : decode cX11_isSmooth 15 = .ok (.invokevirtual 302, 3) := by decide +kernel
theorem dX11_isSmooth_18 : decode cX11_isSmooth 18 = .ok (.ifCond .eq 7, 3) := by decide +kernel
theorem dX11_isSmooth_21 : decode cX11_isSmooth 21 = .ok (.iconst 1, 1) := by decide +kernel
theorem dX11_isSmooth_22 : decode cX11_isSmooth 22 = .ok (.goto 4, 3) := by decide +kernel
theorem dX11_isSmooth_25 : decode cX11_isSmooth 25 = .ok (.iconst 0, 1) := by decide +kernel
theorem dX11_isSmooth_26 : decode cX11_isSmooth 26 = .ok (.ireturn, 1) := by decide +kernel
theorem dX11_smoothed_0 : decode cX11_smoothed 0 = .ok (.aload_n 0, 1) := by decide +kernel
theorem dX11_smoothed_1 : decode cX11_smoothed 1 = .ok (.iconst 0, 1) := by decide +kernel
theorem dX11_smoothed_2 : decode cX11_smoothed 2 = .ok (.putfield 1, 3) := by decide +kernel
theorem dX11_smoothed_5 : decode cX11_smoothed 5 = .ok (.aload_n 0, 1) := by decide +kernel
theorem dX11_smoothed_6 : decode cX11_smoothed 6 = .ok (.iload_n 1, 1) := by decide +kernel
theorem dX11_smoothed_7 : decode cX11_smoothed 7 = .ok (.invokevirtual 305, 3) := by decide +kernel
theorem dX11_smoothed_10 : decode cX11_smoothed 10 = .ok (.ifCond .ne 5, 3) := by decide +kernel
theorem dX11_smoothed_13 : decode cX11_smoothed 13 = .ok (.iconst (-1), 1) := by decide +kernel
theorem dX11_smoothed_14 : decode cX11_smoothed 14 = .ok (.ireturn, 1) := by decide +kernel
theorem dX11_smoothed_15 : decode cX11_smoothed 15 = .ok (.aload_n 0, 1) := by decide +kernel
theorem dX11_smoothed_16 : decode cX11_smoothed 16 = .ok (.iload_n 1, 1) := by decide +kernel
theorem dX11_smoothed_17 : decode cX11_smoothed 17 = .ok (.invokevirtual 308, 3) := by decide +kernel
theorem dX11_smoothed_20 : decode cX11_smoothed 20 = .ok (.aload_n 0, 1) := by decide +kernel
theorem dX11_smoothed_21 : decode cX11_smoothed 21 = .ok (.aload_n 0, 1) := by decide +kernel
theorem dX11_smoothed_22 : decode cX11_smoothed 22 = .ok (.getfield 248, 3) := by decide +kernel
theorem dX11_smoothed_25 : decode cX11_smoothed 25 = .ok (.invokevirtual 258, 3) := by decide +kernel
theorem dX11_smoothed_28 : decode cX11_smoothed 28 = .ok (.aload_n 0, 1) := by decide +kernel
theorem dX11_smoothed_29 : decode cX11_smoothed 29 = .ok (.getfield 245, 3) := by decide +kernel
theorem dX11_smoothed_32 : decode cX11_smoothed 32 = .ok (.ireturn, 1) := by decide +kernel
theorem dX11_smoothSeen_0 : decode cX11_smoothSeen 0 = .ok (.aload_n 0, 1) := by decide +kernel
theorem dX11_smoothSeen_1 : decode cX11_smoothSeen 1 = .ok (.iconst 0, 1) := by decide +kernel
theorem dX11_smoothSeen_2 : decode cX11_smoothSeen 2 = .ok (.putfield 1, 3) := by decide +kernel
theorem dX11_smoothSeen_5 : decode cX11_smoothSeen 5 = .ok (.aload_n 0, 1) := by decide +kernel
theorem dX11_smoothSeen_6 : decode cX11_smoothSeen 6 = .ok (.iload_n 1, 1) := by decide +kernel
theorem dX11_smoothSeen_7 : decode cX11_smoothSeen 7 = .ok (.invokevirtual 305, 3) := by decide +kernel
theorem dX11_smoothSeen_10 : decode cX11_smoothSeen 10 = .ok (.ifCond .ne 7, 3) := by decide +kernel
theorem dX11_smoothSeen_13 : decode cX11_smoothSeen 13 = .ok (.ldc2_w 297, 3) := by decide +kernel
theorem dX11_smoothSeen_16 : decode cX11_smoothSeen 16 = .ok (.lreturn, 1) := by decide +kernel
theorem dX11_smoothSeen_17 : decode cX11_smoothSeen 17 = .ok (.lconst 0, 1) := by decide +kernel
theorem dX11_smoothSeen_18 : decode cX11_smoothSeen 18 = .ok (.lstore_n 2, 1) := by decide +kernel
theorem dX11_smoothSeen_19 : decode cX11_smoothSeen 19 = .ok (.iconst 0, 1) := by decide +kernel
theorem dX11_smoothSeen_20 : decode cX11_smoothSeen 20 = .ok (.istore 4, 2) := by decide +kernel
theorem dX11_smoothSeen_22 : decode cX11_smoothSeen 22 = .ok (.iload 4, 2) := by decide +kernel
theorem dX11_smoothSeen_24 : decode cX11_smoothSeen 24 = .ok (.aload_n 0, 1) := by decide +kernel
theorem dX11_smoothSeen_25 : decode cX11_smoothSeen 25 = .ok (.getfield 33, 3) := by decide +kernel
theorem dX11_smoothSeen_28 : decode cX11_smoothSeen 28 = .ok (.iconst 0, 1) := by decide +kernel
theorem dX11_smoothSeen_29 : decode cX11_smoothSeen 29 = .ok (.iaload, 1) := by decide +kernel
theorem dX11_smoothSeen_30 : decode cX11_smoothSeen 30 = .ok (.if_icmp .ge 69, 3) := by decide +kernel
theorem dX11_smoothSeen_33 : decode cX11_smoothSeen 33 = .ok (.aload_n 0, 1) := by decide +kernel
theorem dX11_smoothSeen_34 : decode cX11_smoothSeen 34 = .ok (.iload_n 1, 1) := by decide +kernel
theorem dX11_smoothSeen_35 : decode cX11_smoothSeen 35 = .ok (.invokevirtual 308, 3) := by decide +kernel
theorem dX11_smoothSeen_38 : decode cX11_smoothSeen 38 = .ok (.iconst 0, 1) := by decide +kernel
theorem dX11_smoothSeen_39 : decode cX11_smoothSeen 39 = .ok (.istore 5, 2) := by decide +kernel
theorem dX11_smoothSeen_41 : decode cX11_smoothSeen 41 = .ok (.iload 5, 2) := by decide +kernel
theorem dX11_smoothSeen_43 : decode cX11_smoothSeen 43 = .ok (.iload_n 1, 1) := by decide +kernel
theorem dX11_smoothSeen_44 : decode cX11_smoothSeen 44 = .ok (.if_icmp .ge 31, 3) := by decide +kernel
theorem dX11_smoothSeen_47 : decode cX11_smoothSeen 47 = .ok (.aload_n 0, 1) := by decide +kernel
theorem dX11_smoothSeen_48 : decode cX11_smoothSeen 48 = .ok (.getfield 50, 3) := by decide +kernel
theorem dX11_smoothSeen_51 : decode cX11_smoothSeen 51 = .ok (.aload_n 0, 1) := by decide +kernel
theorem dX11_smoothSeen_52 : decode cX11_smoothSeen 52 = .ok (.getfield 251, 3) := by decide +kernel
theorem dX11_smoothSeen_55 : decode cX11_smoothSeen 55 = .ok (.iload 5, 2) := by decide +kernel
theorem dX11_smoothSeen_57 : decode cX11_smoothSeen 57 = .ok (.imul, 1) := by decide +kernel
theorem dX11_smoothSeen_58 : decode cX11_smoothSeen 58 = .ok (.iload_n 1, 1) := by decide +kernel
theorem dX11_smoothSeen_59 : decode cX11_smoothSeen 59 = .ok (.iadd, 1) := by decide +kernel
theorem dX11_smoothSeen_60 : decode cX11_smoothSeen 60 = .ok (.aload_n 0, 1) := by decide +kernel
theorem dX11_smoothSeen_61 : decode cX11_smoothSeen 61 = .ok (.iload 4, 2) := by decide +kernel
theorem dX11_smoothSeen_63 : decode cX11_smoothSeen 63 = .ok (.iload 5, 2) := by decide +kernel
theorem dX11_smoothSeen_65 : decode cX11_smoothSeen 65 = .ok (.invokevirtual 273, 3) := by decide +kernel
theorem dX11_smoothSeen_68 : decode cX11_smoothSeen 68 = .ok (.iastore, 1) := by decide +kernel
theorem dX11_smoothSeen_69 : decode cX11_smoothSeen 69 = .ok (.iinc 5 1, 3) := by decide +kernel
theorem dX11_smoothSeen_72 : decode cX11_smoothSeen 72 = .ok (.goto (-31), 3) := by decide +kernel
theorem dX11_smoothSeen_75 : decode cX11_smoothSeen 75 = .ok (.lload_n 2, 1) := by decide +kernel
theorem dX11_smoothSeen_76 : decode cX11_smoothSeen 76 = .ok (.aload_n 0, 1) := by decide +kernel
theorem dX11_smoothSeen_77 : decode cX11_smoothSeen 77 = .ok (.invokevirtual 291, 3) := by decide +kernel
theorem dX11_smoothSeen_80 : decode cX11_smoothSeen 80 = .ok (.ifCond .eq 10, 3) := by decide +kernel
theorem dX11_smoothSeen_83 : decode cX11_smoothSeen 83 = .ok (.lconst 1, 1) := by decide +kernel
theorem dX11_smoothSeen_84 : decode cX11_smoothSeen 84 = .ok (.iload 4, 2) := by decide +kernel
theorem dX11_smoothSeen_86 : decode cX11_smoothSeen 86 = .ok (.lshl, 1) := by decide +kernel
theorem dX11_smoothSeen_87 : decode cX11_smoothSeen 87 = .ok (.goto 4, 3) := by decide +kernel
theorem dX11_smoothSeen_90 : decode cX11_smoothSeen 90 = .ok (.lconst 0, 1) := by decide +kernel
theorem dX11_smoothSeen_91 : decode cX11_smoothSeen 91 = .ok (.lor, 1) := by decide +kernel
theorem dX11_smoothSeen_92 : decode cX11_smoothSeen 92 = .ok (.lstore_n 2, 1) := by decide +kernel
theorem dX11_smoothSeen_93 : decode cX11_smoothSeen 93 = .ok (.iinc 4 1, 3) := by decide +kernel
theorem dX11_smoothSeen_96 : decode cX11_smoothSeen 96 = .ok (.goto (-74), 3) := by decide +kernel
theorem dX11_smoothSeen_99 : decode cX11_smoothSeen 99 = .ok (.lload_n 2, 1) := by decide +kernel
theorem dX11_smoothSeen_100 : decode cX11_smoothSeen 100 = .ok (.lreturn, 1) := by decide +kernel
theorem dX11_apartOf_0 : decode cX11_apartOf 0 = .ok (.iconst 0, 1) := by decide +kernel
theorem dX11_apartOf_1 : decode cX11_apartOf 1 = .ok (.istore_n 2, 1) := by decide +kernel
theorem dX11_apartOf_2 : decode cX11_apartOf 2 = .ok (.iconst 0, 1) := by decide +kernel
theorem dX11_apartOf_3 : decode cX11_apartOf 3 = .ok (.istore_n 3, 1) := by decide +kernel
theorem dX11_apartOf_4 : decode cX11_apartOf 4 = .ok (.iload_n 3, 1) := by decide +kernel
theorem dX11_apartOf_5 : decode cX11_apartOf 5 = .ok (.aload_n 0, 1) := by decide +kernel
theorem dX11_apartOf_6 : decode cX11_apartOf 6 = .ok (.getfield 33, 3) := by decide +kernel
theorem dX11_apartOf_9 : decode cX11_apartOf 9 = .ok (.iconst 1, 1) := by decide +kernel
theorem dX11_apartOf_10 : decode cX11_apartOf 10 = .ok (.iaload, 1) := by decide +kernel
theorem dX11_apartOf_11 : decode cX11_apartOf 11 = .ok (.if_icmp .ge 53, 3) := by decide +kernel
theorem dX11_apartOf_14 : decode cX11_apartOf 14 = .ok (.iconst 0, 1) := by decide +kernel
theorem dX11_apartOf_15 : decode cX11_apartOf 15 = .ok (.istore 4, 2) := by decide +kernel
theorem dX11_apartOf_17 : decode cX11_apartOf 17 = .ok (.iload 4, 2) := by decide +kernel
theorem dX11_apartOf_19 : decode cX11_apartOf 19 = .ok (.aload_n 0, 1) := by decide +kernel
theorem dX11_apartOf_20 : decode cX11_apartOf 20 = .ok (.getfield 33, 3) := by decide +kernel
theorem dX11_apartOf_23 : decode cX11_apartOf 23 = .ok (.iconst 1, 1) := by decide +kernel
theorem dX11_apartOf_24 : decode cX11_apartOf 24 = .ok (.iaload, 1) := by decide +kernel
theorem dX11_apartOf_25 : decode cX11_apartOf 25 = .ok (.if_icmp .ge 33, 3) := by decide +kernel
theorem dX11_apartOf_28 : decode cX11_apartOf 28 = .ok (.iload_n 2, 1) := by decide +kernel
theorem dX11_apartOf_29 : decode cX11_apartOf 29 = .ok (.aload_n 0, 1) := by decide +kernel
theorem dX11_apartOf_30 : decode cX11_apartOf 30 = .ok (.iload_n 3, 1) := by decide +kernel
theorem dX11_apartOf_31 : decode cX11_apartOf 31 = .ok (.invokevirtual 276, 3) := by decide +kernel
theorem dX11_apartOf_34 : decode cX11_apartOf 34 = .ok (.aload_n 0, 1) := by decide +kernel
theorem dX11_apartOf_35 : decode cX11_apartOf 35 = .ok (.iload 4, 2) := by decide +kernel
theorem dX11_apartOf_37 : decode cX11_apartOf 37 = .ok (.invokevirtual 276, 3) := by decide +kernel
theorem dX11_apartOf_40 : decode cX11_apartOf 40 = .ok (.isub, 1) := by decide +kernel
theorem dX11_apartOf_41 : decode cX11_apartOf 41 = .ok (.iload_n 1, 1) := by decide +kernel
theorem dX11_apartOf_42 : decode cX11_apartOf 42 = .ok (.if_icmp .ne 7, 3) := by decide +kernel
theorem dX11_apartOf_45 : decode cX11_apartOf 45 = .ok (.iconst 1, 1) := by decide +kernel
theorem dX11_apartOf_46 : decode cX11_apartOf 46 = .ok (.goto 4, 3) := by decide +kernel
theorem dX11_apartOf_49 : decode cX11_apartOf 49 = .ok (.iconst 0, 1) := by decide +kernel
theorem dX11_apartOf_50 : decode cX11_apartOf 50 = .ok (.iadd, 1) := by decide +kernel
theorem dX11_apartOf_51 : decode cX11_apartOf 51 = .ok (.istore_n 2, 1) := by decide +kernel
theorem dX11_apartOf_52 : decode cX11_apartOf 52 = .ok (.iinc 4 1, 3) := by decide +kernel
theorem dX11_apartOf_55 : decode cX11_apartOf 55 = .ok (.goto (-38), 3) := by decide +kernel
theorem dX11_apartOf_58 : decode cX11_apartOf 58 = .ok (.iinc 3 1, 3) := by decide +kernel
theorem dX11_apartOf_61 : decode cX11_apartOf 61 = .ok (.goto (-57), 3) := by decide +kernel
theorem dX11_apartOf_64 : decode cX11_apartOf 64 = .ok (.iload_n 2, 1) := by decide +kernel
theorem dX11_apartOf_65 : decode cX11_apartOf 65 = .ok (.ireturn, 1) := by decide +kernel
theorem dX11_apart_0 : decode cX11_apart 0 = .ok (.aload_n 0, 1) := by decide +kernel
theorem dX11_apart_1 : decode cX11_apart 1 = .ok (.iconst 0, 1) := by decide +kernel
theorem dX11_apart_2 : decode cX11_apart 2 = .ok (.putfield 1, 3) := by decide +kernel
theorem dX11_apart_5 : decode cX11_apart 5 = .ok (.iload_n 1, 1) := by decide +kernel
theorem dX11_apart_6 : decode cX11_apart 6 = .ok (.iconst 0, 1) := by decide +kernel
theorem dX11_apart_7 : decode cX11_apart 7 = .ok (.bipush 99, 2) := by decide +kernel
theorem dX11_apart_9 : decode cX11_apart 9 = .ok (.invokestatic 175, 3) := by decide +kernel
theorem dX11_apart_12 : decode cX11_apart 12 = .ok (.ifCond .eq 11, 3) := by decide +kernel
theorem dX11_apart_15 : decode cX11_apart 15 = .ok (.aload_n 0, 1) := by decide +kernel
theorem dX11_apart_16 : decode cX11_apart 16 = .ok (.iload_n 1, 1) := by decide +kernel
theorem dX11_apart_17 : decode cX11_apart 17 = .ok (.invokevirtual 311, 3) := by decide +kernel
theorem dX11_apart_20 : decode cX11_apart 20 = .ok (.goto 4, 3) := by decide +kernel
theorem dX11_apart_23 : decode cX11_apart 23 = .ok (.iconst (-1), 1) := by decide +kernel
theorem dX11_apart_24 : decode cX11_apart 24 = .ok (.ireturn, 1) := by decide +kernel
theorem dX11_runOf_0 : decode cX11_runOf 0 = .ok (.iconst (-1), 1) := by decide +kernel
theorem dX11_runOf_1 : decode cX11_runOf 1 = .ok (.istore_n 1, 1) := by decide +kernel
theorem dX11_runOf_2 : decode cX11_runOf 2 = .ok (.iload_n 1, 1) := by decide +kernel
theorem dX11_runOf_3 : decode cX11_runOf 3 = .ok (.bipush 99, 2) := by decide +kernel
theorem dX11_runOf_5 : decode cX11_runOf 5 = .ok (.if_icmp .ge 19, 3) := by decide +kernel
theorem dX11_runOf_8 : decode cX11_runOf 8 = .ok (.aload_n 0, 1) := by decide +kernel
theorem dX11_runOf_9 : decode cX11_runOf 9 = .ok (.iload_n 1, 1) := by decide +kernel
theorem dX11_runOf_10 : decode cX11_runOf 10 = .ok (.iconst 1, 1) := by decide +kernel
theorem dX11_runOf_11 : decode cX11_runOf 11 = .ok (.iadd, 1) := by decide +kernel
theorem dX11_runOf_12 : decode cX11_runOf 12 = .ok (.invokevirtual 311, 3) := by decide +kernel
theorem dX11_runOf_15 : decode cX11_runOf 15 = .ok (.ifCond .le 9, 3) := by decide +kernel
theorem dX11_runOf_18 : decode cX11_runOf 18 = .ok (.iinc 1 1, 3) := by decide +kernel
theorem dX11_runOf_21 : decode cX11_runOf 21 = .ok (.goto (-19), 3) := by decide +kernel
theorem dX11_runOf_24 : decode cX11_runOf 24 = .ok (.iload_n 1, 1) := by decide +kernel
theorem dX11_runOf_25 : decode cX11_runOf 25 = .ok (.ireturn, 1) := by decide +kernel
theorem dX11_run_0 : decode cX11_run 0 = .ok (.aload_n 0, 1) := by decide +kernel
theorem dX11_run_1 : decode cX11_run 1 = .ok (.iconst 0, 1) := by decide +kernel
theorem dX11_run_2 : decode cX11_run 2 = .ok (.putfield 1, 3) := by decide +kernel
theorem dX11_run_5 : decode cX11_run 5 = .ok (.aload_n 0, 1) := by decide +kernel
theorem dX11_run_6 : decode cX11_run 6 = .ok (.invokevirtual 314, 3) := by decide +kernel
theorem dX11_run_9 : decode cX11_run 9 = .ok (.ireturn, 1) := by decide +kernel
theorem dX11_lagOf_0 : decode cX11_lagOf 0 = .ok (.iconst 0, 1) := by decide +kernel
theorem dX11_lagOf_1 : decode cX11_lagOf 1 = .ok (.istore_n 2, 1) := by decide +kernel
theorem dX11_lagOf_2 : decode cX11_lagOf 2 = .ok (.iload_n 2, 1) := by decide +kernel
theorem dX11_lagOf_3 : decode cX11_lagOf 3 = .ok (.aload_n 0, 1) := by decide +kernel
theorem dX11_lagOf_4 : decode cX11_lagOf 4 = .ok (.getfield 33, 3) := by decide +kernel
theorem dX11_lagOf_7 : decode cX11_lagOf 7 = .ok (.iconst 1, 1) := by decide +kernel
theorem dX11_lagOf_8 : decode cX11_lagOf 8 = .ok (.iaload, 1) := by decide +kernel
theorem dX11_lagOf_9 : decode cX11_lagOf 9 = .ok (.if_icmp .ge 91, 3) := by decide +kernel
theorem dX11_lagOf_12 : decode cX11_lagOf 12 = .ok (.iconst 0, 1) := by decide +kernel
theorem dX11_lagOf_13 : decode cX11_lagOf 13 = .ok (.istore_n 3, 1) := by decide +kernel
theorem dX11_lagOf_14 : decode cX11_lagOf 14 = .ok (.iload_n 3, 1) := by decide +kernel
theorem dX11_lagOf_15 : decode cX11_lagOf 15 = .ok (.aload_n 0, 1) := by decide +kernel
theorem dX11_lagOf_16 : decode cX11_lagOf 16 = .ok (.getfield 33, 3) := by decide +kernel
theorem dX11_lagOf_19 : decode cX11_lagOf 19 = .ok (.iconst 1, 1) := by decide +kernel
theorem dX11_lagOf_20 : decode cX11_lagOf 20 = .ok (.iaload, 1) := by decide +kernel
theorem dX11_lagOf_21 : decode cX11_lagOf 21 = .ok (.if_icmp .ge 73, 3) := by decide +kernel
theorem dX11_lagOf_24 : decode cX11_lagOf 24 = .ok (.aload_n 0, 1) := by decide +kernel
theorem dX11_lagOf_25 : decode cX11_lagOf 25 = .ok (.iload_n 2, 1) := by decide +kernel
theorem dX11_lagOf_26 : decode cX11_lagOf 26 = .ok (.invokevirtual 276, 3) := by decide +kernel
theorem dX11_lagOf_29 : decode cX11_lagOf 29 = .ok (.aload_n 0, 1) := by decide +kernel
theorem dX11_lagOf_30 : decode cX11_lagOf 30 = .ok (.iload_n 3, 1) := by decide +kernel
theorem dX11_lagOf_31 : decode cX11_lagOf 31 = .ok (.invokevirtual 276, 3) := by decide +kernel
theorem dX11_lagOf_34 : decode cX11_lagOf 34 = .ok (.isub, 1) := by decide +kernel
theorem dX11_lagOf_35 : decode cX11_lagOf 35 = .ok (.iload_n 1, 1) := by decide +kernel
theorem dX11_lagOf_36 : decode cX11_lagOf 36 = .ok (.if_icmp .eq 6, 3) := by decide +kernel
theorem dX11_lagOf_39 : decode cX11_lagOf 39 = .ok (.goto 49, 3) := by decide +kernel
theorem dX11_lagOf_42 : decode cX11_lagOf 42 = .ok (.aload_n 0, 1) := by decide +kernel
theorem dX11_lagOf_43 : decode cX11_lagOf 43 = .ok (.iload_n 2, 1) := by decide +kernel
theorem dX11_lagOf_44 : decode cX11_lagOf 44 = .ok (.invokevirtual 279, 3) := by decide +kernel
theorem dX11_lagOf_47 : decode cX11_lagOf 47 = .ok (.aload_n 0, 1) := by decide +kernel
theorem dX11_lagOf_48 : decode cX11_lagOf 48 = .ok (.iload_n 3, 1) := by decide +kernel
theorem dX11_lagOf_49 : decode cX11_lagOf 49 = .ok (.invokevirtual 279, 3) := by decide +kernel
theorem dX11_lagOf_52 : decode cX11_lagOf 52 = .ok (.imul, 1) := by decide +kernel
theorem dX11_lagOf_53 : decode cX11_lagOf 53 = .ok (.aload_n 0, 1) := by decide +kernel
theorem dX11_lagOf_54 : decode cX11_lagOf 54 = .ok (.getfield 230, 3) := by decide +kernel
theorem dX11_lagOf_57 : decode cX11_lagOf 57 = .ok (.irem, 1) := by decide +kernel
theorem dX11_lagOf_58 : decode cX11_lagOf 58 = .ok (.istore 4, 2) := by decide +kernel
theorem dX11_lagOf_60 : decode cX11_lagOf 60 = .ok (.iload 4, 2) := by decide +kernel
theorem dX11_lagOf_62 : decode cX11_lagOf 62 = .ok (.ifCond .ne 7, 3) := by decide +kernel
theorem dX11_lagOf_65 : decode cX11_lagOf 65 = .ok (.iconst 0, 1) := by decide +kernel
theorem dX11_lagOf_66 : decode cX11_lagOf 66 = .ok (.goto 21, 3) := by decide +kernel
theorem dX11_lagOf_69 : decode cX11_lagOf 69 = .ok (.aload_n 0, 1) := by decide +kernel
theorem dX11_lagOf_70 : decode cX11_lagOf 70 = .ok (.iload_n 2, 1) := by decide +kernel
theorem dX11_lagOf_71 : decode cX11_lagOf 71 = .ok (.iload_n 3, 1) := by decide +kernel
theorem dX11_lagOf_72 : decode cX11_lagOf 72 = .ok (.invokevirtual 285, 3) := by decide +kernel
theorem dX11_lagOf_75 : decode cX11_lagOf 75 = .ok (.aload_n 0, 1) := by decide +kernel
theorem dX11_lagOf_76 : decode cX11_lagOf 76 = .ok (.iload 4, 2) := by decide +kernel
theorem dX11_lagOf_78 : decode cX11_lagOf 78 = .ok (.invokevirtual 254, 3) := by decide +kernel
theorem dX11_lagOf_81 : decode cX11_lagOf 81 = .ok (.imul, 1) := by decide +kernel
theorem dX11_lagOf_82 : decode cX11_lagOf 82 = .ok (.aload_n 0, 1) := by decide +kernel
theorem dX11_lagOf_83 : decode cX11_lagOf 83 = .ok (.getfield 230, 3) := by decide +kernel
theorem dX11_lagOf_86 : decode cX11_lagOf 86 = .ok (.irem, 1) := by decide +kernel
theorem dX11_lagOf_87 : decode cX11_lagOf 87 = .ok (.ireturn, 1) := by decide +kernel
theorem dX11_lagOf_88 : decode cX11_lagOf 88 = .ok (.iinc 3 1, 3) := by decide +kernel
theorem dX11_lagOf_91 : decode cX11_lagOf 91 = .ok (.goto (-77), 3) := by decide +kernel
theorem dX11_lagOf_94 : decode cX11_lagOf 94 = .ok (.iinc 2 1, 3) := by decide +kernel
theorem dX11_lagOf_97 : decode cX11_lagOf 97 = .ok (.goto (-95), 3) := by decide +kernel
theorem dX11_lagOf_100 : decode cX11_lagOf 100 = .ok (.iconst (-1), 1) := by decide +kernel
theorem dX11_lagOf_101 : decode cX11_lagOf 101 = .ok (.ireturn, 1) := by decide +kernel
theorem dX11_lag_0 : decode cX11_lag 0 = .ok (.aload_n 0, 1) := by decide +kernel
theorem dX11_lag_1 : decode cX11_lag 1 = .ok (.iconst 0, 1) := by decide +kernel
theorem dX11_lag_2 : decode cX11_lag 2 = .ok (.putfield 1, 3) := by decide +kernel
theorem dX11_lag_5 : decode cX11_lag 5 = .ok (.iload_n 1, 1) := by decide +kernel
theorem dX11_lag_6 : decode cX11_lag 6 = .ok (.iconst 0, 1) := by decide +kernel
theorem dX11_lag_7 : decode cX11_lag 7 = .ok (.bipush 99, 2) := by decide +kernel
theorem dX11_lag_9 : decode cX11_lag 9 = .ok (.invokestatic 175, 3) := by decide +kernel
theorem dX11_lag_12 : decode cX11_lag 12 = .ok (.ifCond .eq 11, 3) := by decide +kernel
theorem dX11_lag_15 : decode cX11_lag 15 = .ok (.aload_n 0, 1) := by decide +kernel
theorem dX11_lag_16 : decode cX11_lag 16 = .ok (.iload_n 1, 1) := by decide +kernel
theorem dX11_lag_17 : decode cX11_lag 17 = .ok (.invokevirtual 317, 3) := by decide +kernel
theorem dX11_lag_20 : decode cX11_lag 20 = .ok (.goto 4, 3) := by decide +kernel
theorem dX11_lag_23 : decode cX11_lag 23 = .ok (.iconst (-1), 1) := by decide +kernel
theorem dX11_lag_24 : decode cX11_lag 24 = .ok (.ireturn, 1) := by decide +kernel
theorem dX11_hasRule_0 : decode cX11_hasRule 0 = .ok (.aload_n 0, 1) := by decide +kernel
theorem dX11_hasRule_1 : decode cX11_hasRule 1 = .ok (.iload_n 2, 1) := by decide +kernel
theorem dX11_hasRule_2 : decode cX11_hasRule 2 = .ok (.iconst 1, 1) := by decide +kernel
theorem dX11_hasRule_3 : decode cX11_hasRule 3 = .ok (.iadd, 1) := by decide +kernel
theorem dX11_hasRule_4 : decode cX11_hasRule 4 = .ok (.putfield 251, 3) := by decide +kernel
theorem dX11_hasRule_7 : decode cX11_hasRule 7 = .ok (.aload_n 0, 1) := by decide +kernel
theorem dX11_hasRule_8 : decode cX11_hasRule 8 = .ok (.iconst 0, 1) := by decide +kernel
theorem dX11_hasRule_9 : decode cX11_hasRule 9 = .ok (.putfield 248, 3) := by decide +kernel
theorem dX11_hasRule_12 : decode cX11_hasRule 12 = .ok (.iload_n 2, 1) := by decide +kernel
theorem dX11_hasRule_13 : decode cX11_hasRule 13 = .ok (.istore_n 3, 1) := by decide +kernel
theorem dX11_hasRule_14 : decode cX11_hasRule 14 = .ok (.iload_n 3, 1) := by decide +kernel
theorem dX11_hasRule_15 : decode cX11_hasRule 15 = .ok (.iload_n 1, 1) := by decide +kernel
theorem dX11_hasRule_16 : decode cX11_hasRule 16 = .ok (.if_icmp .ge 101, 3) := by decide +kernel
theorem dX11_hasRule_19 : decode cX11_hasRule 19 = .ok (.iconst 1, 1) := by decide +kernel
theorem dX11_hasRule_20 : decode cX11_hasRule 20 = .ok (.istore 4, 2) := by decide +kernel
theorem dX11_hasRule_22 : decode cX11_hasRule 22 = .ok (.iload 4, 2) := by decide +kernel
theorem dX11_hasRule_24 : decode cX11_hasRule 24 = .ok (.iload_n 2, 1) := by decide +kernel
theorem dX11_hasRule_25 : decode cX11_hasRule 25 = .ok (.if_icmp .gt 37, 3) := by decide +kernel
theorem dX11_hasRule_28 : decode cX11_hasRule 28 = .ok (.aload_n 0, 1) := by decide +kernel
theorem dX11_hasRule_29 : decode cX11_hasRule 29 = .ok (.getfield 50, 3) := by decide +kernel
theorem dX11_hasRule_32 : decode cX11_hasRule 32 = .ok (.aload_n 0, 1) := by decide +kernel
theorem dX11_hasRule_33 : decode cX11_hasRule 33 = .ok (.getfield 251, 3) := by decide +kernel
theorem dX11_hasRule_36 : decode cX11_hasRule 36 = .ok (.aload_n 0, 1) := by decide +kernel
theorem dX11_hasRule_37 : decode cX11_hasRule 37 = .ok (.getfield 248, 3) := by decide +kernel
theorem dX11_hasRule_40 : decode cX11_hasRule 40 = .ok (.imul, 1) := by decide +kernel
theorem dX11_hasRule_41 : decode cX11_hasRule 41 = .ok (.iload 4, 2) := by decide +kernel
theorem dX11_hasRule_43 : decode cX11_hasRule 43 = .ok (.iadd, 1) := by decide +kernel
theorem dX11_hasRule_44 : decode cX11_hasRule 44 = .ok (.iconst 1, 1) := by decide +kernel
theorem dX11_hasRule_45 : decode cX11_hasRule 45 = .ok (.isub, 1) := by decide +kernel
theorem dX11_hasRule_46 : decode cX11_hasRule 46 = .ok (.aload_n 0, 1) := by decide +kernel
theorem dX11_hasRule_47 : decode cX11_hasRule 47 = .ok (.getfield 56, 3) := by decide +kernel
theorem dX11_hasRule_50 : decode cX11_hasRule 50 = .ok (.iload_n 3, 1) := by decide +kernel
theorem dX11_hasRule_51 : decode cX11_hasRule 51 = .ok (.iload 4, 2) := by decide +kernel
theorem dX11_hasRule_53 : decode cX11_hasRule 53 = .ok (.isub, 1) := by decide +kernel
theorem dX11_hasRule_54 : decode cX11_hasRule 54 = .ok (.iaload, 1) := by decide +kernel
theorem dX11_hasRule_55 : decode cX11_hasRule 55 = .ok (.iastore, 1) := by decide +kernel
theorem dX11_hasRule_56 : decode cX11_hasRule 56 = .ok (.iinc 4 1, 3) := by decide +kernel
theorem dX11_hasRule_59 : decode cX11_hasRule 59 = .ok (.goto (-37), 3) := by decide +kernel
theorem dX11_hasRule_62 : decode cX11_hasRule 62 = .ok (.aload_n 0, 1) := by decide +kernel
theorem dX11_hasRule_63 : decode cX11_hasRule 63 = .ok (.getfield 50, 3) := by decide +kernel
theorem dX11_hasRule_66 : decode cX11_hasRule 66 = .ok (.aload_n 0, 1) := by decide +kernel
theorem dX11_hasRule_67 : decode cX11_hasRule 67 = .ok (.getfield 251, 3) := by decide +kernel
theorem dX11_hasRule_70 : decode cX11_hasRule 70 = .ok (.aload_n 0, 1) := by decide +kernel
theorem dX11_hasRule_71 : decode cX11_hasRule 71 = .ok (.getfield 248, 3) := by decide +kernel
theorem dX11_hasRule_74 : decode cX11_hasRule 74 = .ok (.imul, 1) := by decide +kernel
theorem dX11_hasRule_75 : decode cX11_hasRule 75 = .ok (.iload_n 2, 1) := by decide +kernel
theorem dX11_hasRule_76 : decode cX11_hasRule 76 = .ok (.iadd, 1) := by decide +kernel
theorem dX11_hasRule_77 : decode cX11_hasRule 77 = .ok (.aload_n 0, 1) := by decide +kernel
theorem dX11_hasRule_78 : decode cX11_hasRule 78 = .ok (.getfield 56, 3) := by decide +kernel
theorem dX11_hasRule_81 : decode cX11_hasRule 81 = .ok (.iload_n 3, 1) := by decide +kernel
theorem dX11_hasRule_82 : decode cX11_hasRule 82 = .ok (.iaload, 1) := by decide +kernel
theorem dX11_hasRule_83 : decode cX11_hasRule 83 = .ok (.iastore, 1) := by decide +kernel
theorem dX11_hasRule_84 : decode cX11_hasRule 84 = .ok (.aload_n 0, 1) := by decide +kernel
theorem dX11_hasRule_85 : decode cX11_hasRule 85 = .ok (.dup, 1) := by decide +kernel
theorem dX11_hasRule_86 : decode cX11_hasRule 86 = .ok (.getfield 248, 3) := by decide +kernel
theorem dX11_hasRule_89 : decode cX11_hasRule 89 = .ok (.iconst 1, 1) := by decide +kernel
theorem dX11_hasRule_90 : decode cX11_hasRule 90 = .ok (.iadd, 1) := by decide +kernel
theorem dX11_hasRule_91 : decode cX11_hasRule 91 = .ok (.putfield 248, 3) := by decide +kernel
theorem dX11_hasRule_94 : decode cX11_hasRule 94 = .ok (.aload_n 0, 1) := by decide +kernel
theorem dX11_hasRule_95 : decode cX11_hasRule 95 = .ok (.invokevirtual 291, 3) := by decide +kernel
theorem dX11_hasRule_98 : decode cX11_hasRule 98 = .ok (.ifCond .ne 5, 3) := by decide +kernel
theorem dX11_hasRule_101 : decode cX11_hasRule 101 = .ok (.iconst 0, 1) := by decide +kernel
theorem dX11_hasRule_102 : decode cX11_hasRule 102 = .ok (.ireturn, 1) := by decide +kernel
theorem dX11_hasRule_103 : decode cX11_hasRule 103 = .ok (.aload_n 0, 1) := by decide +kernel
theorem dX11_hasRule_104 : decode cX11_hasRule 104 = .ok (.aload_n 0, 1) := by decide +kernel
theorem dX11_hasRule_105 : decode cX11_hasRule 105 = .ok (.getfield 245, 3) := by decide +kernel
theorem dX11_hasRule_108 : decode cX11_hasRule 108 = .ok (.putfield 248, 3) := by decide +kernel
theorem dX11_hasRule_111 : decode cX11_hasRule 111 = .ok (.iinc 3 1, 3) := by decide +kernel
theorem dX11_hasRule_114 : decode cX11_hasRule 114 = .ok (.goto (-100), 3) := by decide +kernel
theorem dX11_hasRule_117 : decode cX11_hasRule 117 = .ok (.aload_n 0, 1) := by decide +kernel
theorem dX11_hasRule_118 : decode cX11_hasRule 118 = .ok (.iload_n 2, 1) := by decide +kernel
theorem dX11_hasRule_119 : decode cX11_hasRule 119 = .ok (.invokevirtual 258, 3) := by decide +kernel
theorem dX11_hasRule_122 : decode cX11_hasRule 122 = .ok (.iconst 1, 1) := by decide +kernel
theorem dX11_hasRule_123 : decode cX11_hasRule 123 = .ok (.istore_n 3, 1) := by decide +kernel
theorem dX11_hasRule_124 : decode cX11_hasRule 124 = .ok (.iload_n 3, 1) := by decide +kernel
theorem dX11_hasRule_125 : decode cX11_hasRule 125 = .ok (.iload_n 2, 1) := by decide +kernel
theorem dX11_hasRule_126 : decode cX11_hasRule 126 = .ok (.if_icmp .gt 33, 3) := by decide +kernel
theorem dX11_hasRule_129 : decode cX11_hasRule 129 = .ok (.aload_n 0, 1) := by decide +kernel
theorem dX11_hasRule_130 : decode cX11_hasRule 130 = .ok (.getfield 59, 3) := by decide +kernel
theorem dX11_hasRule_133 : decode cX11_hasRule 133 = .ok (.iload_n 3, 1) := by decide +kernel
theorem dX11_hasRule_134 : decode cX11_hasRule 134 = .ok (.aload_n 0, 1) := by decide +kernel
theorem dX11_hasRule_135 : decode cX11_hasRule 135 = .ok (.getfield 248, 3) := by decide +kernel
theorem dX11_hasRule_138 : decode cX11_hasRule 138 = .ok (.ifCond .ne 7, 3) := by decide +kernel
theorem dX11_hasRule_141 : decode cX11_hasRule 141 = .ok (.iconst 0, 1) := by decide +kernel
theorem dX11_hasRule_142 : decode cX11_hasRule 142 = .ok (.goto 10, 3) := by decide +kernel
theorem dX11_hasRule_145 : decode cX11_hasRule 145 = .ok (.aload_n 0, 1) := by decide +kernel
theorem dX11_hasRule_146 : decode cX11_hasRule 146 = .ok (.iload_n 3, 1) := by decide +kernel
theorem dX11_hasRule_147 : decode cX11_hasRule 147 = .ok (.iconst 1, 1) := by decide +kernel
theorem dX11_hasRule_148 : decode cX11_hasRule 148 = .ok (.isub, 1) := by decide +kernel
theorem dX11_hasRule_149 : decode cX11_hasRule 149 = .ok (.invokevirtual 320, 3) := by decide +kernel
theorem dX11_hasRule_152 : decode cX11_hasRule 152 = .ok (.iastore, 1) := by decide +kernel
theorem dX11_hasRule_153 : decode cX11_hasRule 153 = .ok (.iinc 3 1, 3) := by decide +kernel
theorem dX11_hasRule_156 : decode cX11_hasRule 156 = .ok (.goto (-32), 3) := by decide +kernel
theorem dX11_hasRule_159 : decode cX11_hasRule 159 = .ok (.iconst 1, 1) := by decide +kernel
theorem dX11_hasRule_160 : decode cX11_hasRule 160 = .ok (.ireturn, 1) := by decide +kernel
theorem dX11_keepRule_0 : decode cX11_keepRule 0 = .ok (.iconst 0, 1) := by decide +kernel
theorem dX11_keepRule_1 : decode cX11_keepRule 1 = .ok (.istore_n 2, 1) := by decide +kernel
theorem dX11_keepRule_2 : decode cX11_keepRule 2 = .ok (.aload_n 0, 1) := by decide +kernel
theorem dX11_keepRule_3 : decode cX11_keepRule 3 = .ok (.iload_n 1, 1) := by decide +kernel
theorem dX11_keepRule_4 : decode cX11_keepRule 4 = .ok (.iload_n 2, 1) := by decide +kernel
theorem dX11_keepRule_5 : decode cX11_keepRule 5 = .ok (.invokevirtual 323, 3) := by decide +kernel
theorem dX11_keepRule_8 : decode cX11_keepRule 8 = .ok (.ifCond .ne 9, 3) := by decide +kernel
theorem dX11_keepRule_11 : decode cX11_keepRule 11 = .ok (.iinc 2 1, 3) := by decide +kernel
theorem dX11_keepRule_14 : decode cX11_keepRule 14 = .ok (.goto (-12), 3) := by decide +kernel
theorem dX11_keepRule_17 : decode cX11_keepRule 17 = .ok (.aload_n 0, 1) := by decide +kernel
theorem dX11_keepRule_18 : decode cX11_keepRule 18 = .ok (.iload_n 2, 1) := by decide +kernel
theorem dX11_keepRule_19 : decode cX11_keepRule 19 = .ok (.putfield 326, 3) := by decide +kernel
theorem dX11_keepRule_22 : decode cX11_keepRule 22 = .ok (.aload_n 0, 1) := by decide +kernel
theorem dX11_keepRule_23 : decode cX11_keepRule 23 = .ok (.lconst 0, 1) := by decide +kernel
theorem dX11_keepRule_24 : decode cX11_keepRule 24 = .ok (.putfield 329, 3) := by decide +kernel
theorem dX11_keepRule_27 : decode cX11_keepRule 27 = .ok (.iconst 0, 1) := by decide +kernel
theorem dX11_keepRule_28 : decode cX11_keepRule 28 = .ok (.istore_n 3, 1) := by decide +kernel
theorem dX11_keepRule_29 : decode cX11_keepRule 29 = .ok (.iconst 0, 1) := by decide +kernel
theorem dX11_keepRule_30 : decode cX11_keepRule 30 = .ok (.istore 4, 2) := by decide +kernel
theorem dX11_keepRule_32 : decode cX11_keepRule 32 = .ok (.iload 4, 2) := by decide +kernel
theorem dX11_keepRule_34 : decode cX11_keepRule 34 = .ok (.aload_n 0, 1) := by decide +kernel
theorem dX11_keepRule_35 : decode cX11_keepRule 35 = .ok (.getfield 33, 3) := by decide +kernel
theorem dX11_keepRule_38 : decode cX11_keepRule 38 = .ok (.iconst 0, 1) := by decide +kernel
theorem dX11_keepRule_39 : decode cX11_keepRule 39 = .ok (.iaload, 1) := by decide +kernel
theorem dX11_keepRule_40 : decode cX11_keepRule 40 = .ok (.if_icmp .ge 85, 3) := by decide +kernel
theorem dX11_keepRule_43 : decode cX11_keepRule 43 = .ok (.aload_n 0, 1) := by decide +kernel
theorem dX11_keepRule_44 : decode cX11_keepRule 44 = .ok (.getfield 47, 3) := by decide +kernel
theorem dX11_keepRule_47 : decode cX11_keepRule 47 = .ok (.iload 4, 2) := by decide +kernel
theorem dX11_keepRule_49 : decode cX11_keepRule 49 = .ok (.iaload, 1) := by decide +kernel
theorem dX11_keepRule_50 : decode cX11_keepRule 50 = .ok (.istore 5, 2) := by decide +kernel
theorem dX11_keepRule_52 : decode cX11_keepRule 52 = .ok (.iconst 1, 1) := by decide +kernel
theorem dX11_keepRule_53 : decode cX11_keepRule 53 = .ok (.istore 6, 2) := by decide +kernel
theorem dX11_keepRule_55 : decode cX11_keepRule 55 = .ok (.iconst 1, 1) := by decide +kernel
theorem dX11_keepRule_56 : decode cX11_keepRule 56 = .ok (.istore 7, 2) := by decide +kernel
theorem dX11_keepRule_58 : decode cX11_keepRule 58 = .ok (.iload 7, 2) := by decide +kernel
theorem dX11_keepRule_60 : decode cX11_keepRule 60 = .ok (.iload_n 2, 1) := by decide +kernel
theorem dX11_keepRule_61 : decode cX11_keepRule 61 = .ok (.if_icmp .gt 34, 3) := by decide +kernel
theorem dX11_keepRule_64 : decode cX11_keepRule 64 = .ok (.iload 6, 2) := by decide +kernel
theorem dX11_keepRule_66 : decode cX11_keepRule 66 = .ok (.iload 5, 2) := by decide +kernel
theorem dX11_keepRule_68 : decode cX11_keepRule 68 = .ok (.imul, 1) := by decide +kernel
theorem dX11_keepRule_69 : decode cX11_keepRule 69 = .ok (.aload_n 0, 1) := by decide +kernel
theorem dX11_keepRule_70 : decode cX11_keepRule 70 = .ok (.getfield 230, 3) := by decide +kernel
theorem dX11_keepRule_73 : decode cX11_keepRule 73 = .ok (.aload_n 0, 1) := by decide +kernel
theorem dX11_keepRule_74 : decode cX11_keepRule 74 = .ok (.getfield 59, 3) := by decide +kernel
theorem dX11_keepRule_77 : decode cX11_keepRule 77 = .ok (.iload 7, 2) := by decide +kernel
theorem dX11_keepRule_79 : decode cX11_keepRule 79 = .ok (.iaload, 1) := by decide +kernel
theorem dX11_keepRule_80 : decode cX11_keepRule 80 = .ok (.isub, 1) := by decide +kernel
theorem dX11_keepRule_81 : decode cX11_keepRule 81 = .ok (.iadd, 1) := by decide +kernel
theorem dX11_keepRule_82 : decode cX11_keepRule 82 = .ok (.aload_n 0, 1) := by decide +kernel
theorem dX11_keepRule_83 : decode cX11_keepRule 83 = .ok (.getfield 230, 3) := by decide +kernel
theorem dX11_keepRule_86 : decode cX11_keepRule 86 = .ok (.irem, 1) := by decide +kernel
theorem dX11_keepRule_87 : decode cX11_keepRule 87 = .ok (.istore 6, 2) := by decide +kernel
theorem dX11_keepRule_89 : decode cX11_keepRule 89 = .ok (.iinc 7 1, 3) := by decide +kernel
theorem dX11_keepRule_92 : decode cX11_keepRule 92 = .ok (.goto (-34), 3) := by decide +kernel
theorem dX11_keepRule_95 : decode cX11_keepRule 95 = .ok (.iload 6, 2) := by decide +kernel
theorem dX11_keepRule_97 : decode cX11_keepRule 97 = .ok (.ifCond .eq 6, 3) := by decide +kernel
theorem dX11_keepRule_100 : decode cX11_keepRule 100 = .ok (.goto 19, 3) := by decide +kernel
theorem dX11_keepRule_103 : decode cX11_keepRule 103 = .ok (.aload_n 0, 1) := by decide +kernel
theorem dX11_keepRule_104 : decode cX11_keepRule 104 = .ok (.dup, 1) := by decide +kernel
theorem dX11_keepRule_105 : decode cX11_keepRule 105 = .ok (.getfield 329, 3) := by decide +kernel
theorem dX11_keepRule_108 : decode cX11_keepRule 108 = .ok (.lconst 1, 1) := by decide +kernel
theorem dX11_keepRule_109 : decode cX11_keepRule 109 = .ok (.iload 4, 2) := by decide +kernel
theorem dX11_keepRule_111 : decode cX11_keepRule 111 = .ok (.lshl, 1) := by decide +kernel
theorem dX11_keepRule_112 : decode cX11_keepRule 112 = .ok (.lor, 1) := by decide +kernel
theorem dX11_keepRule_113 : decode cX11_keepRule 113 = .ok (.putfield 329, 3) := by decide +kernel
theorem dX11_keepRule_116 : decode cX11_keepRule 116 = .ok (.iinc 3 1, 3) := by decide +kernel
theorem dX11_keepRule_119 : decode cX11_keepRule 119 = .ok (.iinc 4 1, 3) := by decide +kernel
theorem dX11_keepRule_122 : decode cX11_keepRule 122 = .ok (.goto (-90), 3) := by decide +kernel
theorem dX11_keepRule_125 : decode cX11_keepRule 125 = .ok (.aload_n 0, 1) := by decide +kernel
theorem dX11_keepRule_126 : decode cX11_keepRule 126 = .ok (.iload_n 2, 1) := by decide +kernel
theorem dX11_keepRule_127 : decode cX11_keepRule 127 = .ok (.ifCond .le 12, 3) := by decide +kernel
theorem dX11_keepRule_130 : decode cX11_keepRule 130 = .ok (.iload_n 3, 1) := by decide +kernel
theorem dX11_keepRule_131 : decode cX11_keepRule 131 = .ok (.iload_n 2, 1) := by decide +kernel
theorem dX11_keepRule_132 : decode cX11_keepRule 132 = .ok (.if_icmp .ne 7, 3) := by decide +kernel
theorem dX11_keepRule_135 : decode cX11_keepRule 135 = .ok (.iload_n 2, 1) := by decide +kernel
theorem dX11_keepRule_136 : decode cX11_keepRule 136 = .ok (.goto 4, 3) := by decide +kernel
theorem dX11_keepRule_139 : decode cX11_keepRule 139 = .ok (.iconst 0, 1) := by decide +kernel
theorem dX11_keepRule_140 : decode cX11_keepRule 140 = .ok (.putfield 332, 3) := by decide +kernel
theorem dX11_keepRule_143 : decode cX11_keepRule 143 = .ok (.aload_n 0, 1) := by decide +kernel
theorem dX11_keepRule_144 : decode cX11_keepRule 144 = .ok (.getfield 332, 3) := by decide +kernel
theorem dX11_keepRule_147 : decode cX11_keepRule 147 = .ok (.ifCond .ne 4, 3) := by decide +kernel
theorem dX11_keepRule_150 : decode cX11_keepRule 150 = .ok (.return_, 1) := by decide +kernel
theorem dX11_keepRule_151 : decode cX11_keepRule 151 = .ok (.aload_n 0, 1) := by decide +kernel
theorem dX11_keepRule_152 : decode cX11_keepRule 152 = .ok (.iload_n 2, 1) := by decide +kernel
theorem dX11_keepRule_153 : decode cX11_keepRule 153 = .ok (.iconst 1, 1) := by decide +kernel
theorem dX11_keepRule_154 : decode cX11_keepRule 154 = .ok (.iadd, 1) := by decide +kernel
theorem dX11_keepRule_155 : decode cX11_keepRule 155 = .ok (.putfield 251, 3) := by decide +kernel
theorem dX11_keepRule_158 : decode cX11_keepRule 158 = .ok (.aload_n 0, 1) := by decide +kernel
theorem dX11_keepRule_159 : decode cX11_keepRule 159 = .ok (.iload_n 2, 1) := by decide +kernel
theorem dX11_keepRule_160 : decode cX11_keepRule 160 = .ok (.putfield 248, 3) := by decide +kernel
theorem dX11_keepRule_163 : decode cX11_keepRule 163 = .ok (.iconst 0, 1) := by decide +kernel
theorem dX11_keepRule_164 : decode cX11_keepRule 164 = .ok (.istore 4, 2) := by decide +kernel
theorem dX11_keepRule_166 : decode cX11_keepRule 166 = .ok (.iload 4, 2) := by decide +kernel
theorem dX11_keepRule_168 : decode cX11_keepRule 168 = .ok (.iload_n 2, 1) := by decide +kernel
theorem dX11_keepRule_169 : decode cX11_keepRule 169 = .ok (.if_icmp .ge 96, 3) := by decide +kernel
theorem dX11_keepRule_172 : decode cX11_keepRule 172 = .ok (.iconst 0, 1) := by decide +kernel
theorem dX11_keepRule_173 : decode cX11_keepRule 173 = .ok (.istore 5, 2) := by decide +kernel
theorem dX11_keepRule_175 : decode cX11_keepRule 175 = .ok (.iconst 0, 1) := by decide +kernel
theorem dX11_keepRule_176 : decode cX11_keepRule 176 = .ok (.istore 6, 2) := by decide +kernel
theorem dX11_keepRule_178 : decode cX11_keepRule 178 = .ok (.iload 6, 2) := by decide +kernel
theorem dX11_keepRule_180 : decode cX11_keepRule 180 = .ok (.aload_n 0, 1) := by decide +kernel
theorem dX11_keepRule_181 : decode cX11_keepRule 181 = .ok (.getfield 33, 3) := by decide +kernel
theorem dX11_keepRule_184 : decode cX11_keepRule 184 = .ok (.iconst 0, 1) := by decide +kernel
theorem dX11_keepRule_185 : decode cX11_keepRule 185 = .ok (.iaload, 1) := by decide +kernel
theorem dX11_keepRule_186 : decode cX11_keepRule 186 = .ok (.if_icmp .ge 52, 3) := by decide +kernel
theorem dX11_keepRule_189 : decode cX11_keepRule 189 = .ok (.aload_n 0, 1) := by decide +kernel
theorem dX11_keepRule_190 : decode cX11_keepRule 190 = .ok (.getfield 329, 3) := by decide +kernel
theorem dX11_keepRule_193 : decode cX11_keepRule 193 = .ok (.iload 6, 2) := by decide +kernel
theorem dX11_keepRule_195 : decode cX11_keepRule 195 = .ok (.lshr, 1) := by decide +kernel
theorem dX11_keepRule_196 : decode cX11_keepRule 196 = .ok (.lconst 1, 1) := by decide +kernel
theorem dX11_keepRule_197 : decode cX11_keepRule 197 = .ok (.land, 1) := by decide +kernel
theorem dX11_keepRule_198 : decode cX11_keepRule 198 = .ok (.lconst 0, 1) := by decide +kernel
theorem dX11_keepRule_199 : decode cX11_keepRule 199 = .ok (.lcmp, 1) := by decide +kernel
theorem dX11_keepRule_200 : decode cX11_keepRule 200 = .ok (.ifCond .ne 6, 3) := by decide +kernel
theorem dX11_keepRule_203 : decode cX11_keepRule 203 = .ok (.goto 29, 3) := by decide +kernel
theorem dX11_keepRule_206 : decode cX11_keepRule 206 = .ok (.aload_n 0, 1) := by decide +kernel
theorem dX11_keepRule_207 : decode cX11_keepRule 207 = .ok (.getfield 50, 3) := by decide +kernel
theorem dX11_keepRule_210 : decode cX11_keepRule 210 = .ok (.aload_n 0, 1) := by decide +kernel
theorem dX11_keepRule_211 : decode cX11_keepRule 211 = .ok (.getfield 251, 3) := by decide +kernel
theorem dX11_keepRule_214 : decode cX11_keepRule 214 = .ok (.iload 4, 2) := by decide +kernel
theorem dX11_keepRule_216 : decode cX11_keepRule 216 = .ok (.imul, 1) := by decide +kernel
theorem dX11_keepRule_217 : decode cX11_keepRule 217 = .ok (.iload 5, 2) := by decide +kernel
theorem dX11_keepRule_219 : decode cX11_keepRule 219 = .ok (.iadd, 1) := by decide +kernel
theorem dX11_keepRule_220 : decode cX11_keepRule 220 = .ok (.aload_n 0, 1) := by decide +kernel
theorem dX11_keepRule_221 : decode cX11_keepRule 221 = .ok (.iload 6, 2) := by decide +kernel
theorem dX11_keepRule_223 : decode cX11_keepRule 223 = .ok (.iload 4, 2) := by decide +kernel
theorem dX11_keepRule_225 : decode cX11_keepRule 225 = .ok (.invokevirtual 273, 3) := by decide +kernel
theorem dX11_keepRule_228 : decode cX11_keepRule 228 = .ok (.iastore, 1) := by decide +kernel
theorem dX11_keepRule_229 : decode cX11_keepRule 229 = .ok (.iinc 5 1, 3) := by decide +kernel
theorem dX11_keepRule_232 : decode cX11_keepRule 232 = .ok (.iinc 6 1, 3) := by decide +kernel
theorem dX11_keepRule_235 : decode cX11_keepRule 235 = .ok (.goto (-57), 3) := by decide +kernel
theorem dX11_keepRule_238 : decode cX11_keepRule 238 = .ok (.aload_n 0, 1) := by decide +kernel
theorem dX11_keepRule_239 : decode cX11_keepRule 239 = .ok (.getfield 50, 3) := by decide +kernel
theorem dX11_keepRule_242 : decode cX11_keepRule 242 = .ok (.aload_n 0, 1) := by decide +kernel
theorem dX11_keepRule_243 : decode cX11_keepRule 243 = .ok (.getfield 251, 3) := by decide +kernel
theorem dX11_keepRule_246 : decode cX11_keepRule 246 = .ok (.iload 4, 2) := by decide +kernel
theorem dX11_keepRule_248 : decode cX11_keepRule 248 = .ok (.imul, 1) := by decide +kernel
theorem dX11_keepRule_249 : decode cX11_keepRule 249 = .ok (.iload_n 2, 1) := by decide +kernel
theorem dX11_keepRule_250 : decode cX11_keepRule 250 = .ok (.iadd, 1) := by decide +kernel
theorem dX11_keepRule_251 : decode cX11_keepRule 251 = .ok (.aload_n 0, 1) := by decide +kernel
theorem dX11_keepRule_252 : decode cX11_keepRule 252 = .ok (.getfield 56, 3) := by decide +kernel
theorem dX11_keepRule_255 : decode cX11_keepRule 255 = .ok (.iload 4, 2) := by decide +kernel
theorem dX11_keepRule_257 : decode cX11_keepRule 257 = .ok (.iaload, 1) := by decide +kernel
theorem dX11_keepRule_258 : decode cX11_keepRule 258 = .ok (.iastore, 1) := by decide +kernel
theorem dX11_keepRule_259 : decode cX11_keepRule 259 = .ok (.iinc 4 1, 3) := by decide +kernel
theorem dX11_keepRule_262 : decode cX11_keepRule 262 = .ok (.goto (-96), 3) := by decide +kernel
theorem dX11_keepRule_265 : decode cX11_keepRule 265 = .ok (.aload_n 0, 1) := by decide +kernel
theorem dX11_keepRule_266 : decode cX11_keepRule 266 = .ok (.iload_n 2, 1) := by decide +kernel
theorem dX11_keepRule_267 : decode cX11_keepRule 267 = .ok (.invokevirtual 258, 3) := by decide +kernel
theorem dX11_keepRule_270 : decode cX11_keepRule 270 = .ok (.iconst 0, 1) := by decide +kernel
theorem dX11_keepRule_271 : decode cX11_keepRule 271 = .ok (.istore 4, 2) := by decide +kernel
theorem dX11_keepRule_273 : decode cX11_keepRule 273 = .ok (.iload 4, 2) := by decide +kernel
theorem dX11_keepRule_275 : decode cX11_keepRule 275 = .ok (.iload_n 2, 1) := by decide +kernel
theorem dX11_keepRule_276 : decode cX11_keepRule 276 = .ok (.if_icmp .ge 22, 3) := by decide +kernel
theorem dX11_keepRule_279 : decode cX11_keepRule 279 = .ok (.aload_n 0, 1) := by decide +kernel
theorem dX11_keepRule_280 : decode cX11_keepRule 280 = .ok (.getfield 62, 3) := by decide +kernel
theorem dX11_keepRule_283 : decode cX11_keepRule 283 = .ok (.iload 4, 2) := by decide +kernel
theorem dX11_keepRule_285 : decode cX11_keepRule 285 = .ok (.aload_n 0, 1) := by decide +kernel
theorem dX11_keepRule_286 : decode cX11_keepRule 286 = .ok (.iload 4, 2) := by decide +kernel
theorem dX11_keepRule_288 : decode cX11_keepRule 288 = .ok (.invokevirtual 320, 3) := by decide +kernel
theorem dX11_keepRule_291 : decode cX11_keepRule 291 = .ok (.iastore, 1) := by decide +kernel
theorem dX11_keepRule_292 : decode cX11_keepRule 292 = .ok (.iinc 4 1, 3) := by decide +kernel
theorem dX11_keepRule_295 : decode cX11_keepRule 295 = .ok (.goto (-22), 3) := by decide +kernel
theorem dX11_keepRule_298 : decode cX11_keepRule 298 = .ok (.return_, 1) := by decide +kernel
theorem dX11_rule_0 : decode cX11_rule 0 = .ok (.aload_n 0, 1) := by decide +kernel
theorem dX11_rule_1 : decode cX11_rule 1 = .ok (.iconst 0, 1) := by decide +kernel
theorem dX11_rule_2 : decode cX11_rule 2 = .ok (.putfield 1, 3) := by decide +kernel
theorem dX11_rule_5 : decode cX11_rule 5 = .ok (.iload_n 1, 1) := by decide +kernel
theorem dX11_rule_6 : decode cX11_rule 6 = .ok (.iconst 0, 1) := by decide +kernel
theorem dX11_rule_7 : decode cX11_rule 7 = .ok (.iconst 1, 1) := by decide +kernel
theorem dX11_rule_8 : decode cX11_rule 8 = .ok (.invokestatic 175, 3) := by decide +kernel
theorem dX11_rule_11 : decode cX11_rule 11 = .ok (.ifCond .eq 23, 3) := by decide +kernel
theorem dX11_rule_14 : decode cX11_rule 14 = .ok (.aload_n 0, 1) := by decide +kernel
theorem dX11_rule_15 : decode cX11_rule 15 = .ok (.getfield 33, 3) := by decide +kernel
theorem dX11_rule_18 : decode cX11_rule 18 = .ok (.iconst 1, 1) := by decide +kernel
theorem dX11_rule_19 : decode cX11_rule 19 = .ok (.iaload, 1) := by decide +kernel
theorem dX11_rule_20 : decode cX11_rule 20 = .ok (.ifCond .eq 14, 3) := by decide +kernel
theorem dX11_rule_23 : decode cX11_rule 23 = .ok (.iload_n 1, 1) := by decide +kernel
theorem dX11_rule_24 : decode cX11_rule 24 = .ok (.ifCond .ne 12, 3) := by decide +kernel
theorem dX11_rule_27 : decode cX11_rule 27 = .ok (.aload_n 0, 1) := by decide +kernel
theorem dX11_rule_28 : decode cX11_rule 28 = .ok (.invokevirtual 302, 3) := by decide +kernel
theorem dX11_rule_31 : decode cX11_rule 31 = .ok (.ifCond .ne 5, 3) := by decide +kernel
theorem dX11_rule_34 : decode cX11_rule 34 = .ok (.iconst (-1), 1) := by decide +kernel
theorem dX11_rule_35 : decode cX11_rule 35 = .ok (.ireturn, 1) := by decide +kernel
theorem dX11_rule_36 : decode cX11_rule 36 = .ok (.iload_n 1, 1) := by decide +kernel
theorem dX11_rule_37 : decode cX11_rule 37 = .ok (.ifCond .ne 12, 3) := by decide +kernel
theorem dX11_rule_40 : decode cX11_rule 40 = .ok (.aload_n 0, 1) := by decide +kernel
theorem dX11_rule_41 : decode cX11_rule 41 = .ok (.getfield 33, 3) := by decide +kernel
theorem dX11_rule_44 : decode cX11_rule 44 = .ok (.iconst 1, 1) := by decide +kernel
theorem dX11_rule_45 : decode cX11_rule 45 = .ok (.iaload, 1) := by decide +kernel
theorem dX11_rule_46 : decode cX11_rule 46 = .ok (.goto 9, 3) := by decide +kernel
theorem dX11_rule_49 : decode cX11_rule 49 = .ok (.aload_n 0, 1) := by decide +kernel
theorem dX11_rule_50 : decode cX11_rule 50 = .ok (.invokevirtual 314, 3) := by decide +kernel
theorem dX11_rule_53 : decode cX11_rule 53 = .ok (.iconst 1, 1) := by decide +kernel
theorem dX11_rule_54 : decode cX11_rule 54 = .ok (.iadd, 1) := by decide +kernel
theorem dX11_rule_55 : decode cX11_rule 55 = .ok (.istore_n 2, 1) := by decide +kernel
theorem dX11_rule_56 : decode cX11_rule 56 = .ok (.iconst 0, 1) := by decide +kernel
theorem dX11_rule_57 : decode cX11_rule 57 = .ok (.istore_n 3, 1) := by decide +kernel
theorem dX11_rule_58 : decode cX11_rule 58 = .ok (.iload_n 3, 1) := by decide +kernel
theorem dX11_rule_59 : decode cX11_rule 59 = .ok (.iload_n 2, 1) := by decide +kernel
theorem dX11_rule_60 : decode cX11_rule 60 = .ok (.if_icmp .ge 32, 3) := by decide +kernel
theorem dX11_rule_63 : decode cX11_rule 63 = .ok (.aload_n 0, 1) := by decide +kernel
theorem dX11_rule_64 : decode cX11_rule 64 = .ok (.getfield 56, 3) := by decide +kernel
theorem dX11_rule_67 : decode cX11_rule 67 = .ok (.iload_n 3, 1) := by decide +kernel
theorem dX11_rule_68 : decode cX11_rule 68 = .ok (.iload_n 1, 1) := by decide +kernel
theorem dX11_rule_69 : decode cX11_rule 69 = .ok (.ifCond .ne 11, 3) := by decide +kernel
theorem dX11_rule_72 : decode cX11_rule 72 = .ok (.aload_n 0, 1) := by decide +kernel
theorem dX11_rule_73 : decode cX11_rule 73 = .ok (.iload_n 3, 1) := by decide +kernel
theorem dX11_rule_74 : decode cX11_rule 74 = .ok (.invokevirtual 282, 3) := by decide +kernel
theorem dX11_rule_77 : decode cX11_rule 77 = .ok (.goto 8, 3) := by decide +kernel
theorem dX11_rule_80 : decode cX11_rule 80 = .ok (.aload_n 0, 1) := by decide +kernel
theorem dX11_rule_81 : decode cX11_rule 81 = .ok (.iload_n 3, 1) := by decide +kernel
theorem dX11_rule_82 : decode cX11_rule 82 = .ok (.invokevirtual 317, 3) := by decide +kernel
theorem dX11_rule_85 : decode cX11_rule 85 = .ok (.iastore, 1) := by decide +kernel
theorem dX11_rule_86 : decode cX11_rule 86 = .ok (.iinc 3 1, 3) := by decide +kernel
theorem dX11_rule_89 : decode cX11_rule 89 = .ok (.goto (-31), 3) := by decide +kernel
theorem dX11_rule_92 : decode cX11_rule 92 = .ok (.aload_n 0, 1) := by decide +kernel
theorem dX11_rule_93 : decode cX11_rule 93 = .ok (.iload_n 2, 1) := by decide +kernel
theorem dX11_rule_94 : decode cX11_rule 94 = .ok (.invokevirtual 335, 3) := by decide +kernel
theorem dX11_rule_97 : decode cX11_rule 97 = .ok (.aload_n 0, 1) := by decide +kernel
theorem dX11_rule_98 : decode cX11_rule 98 = .ok (.iconst 1, 1) := by decide +kernel
theorem dX11_rule_99 : decode cX11_rule 99 = .ok (.putfield 338, 3) := by decide +kernel
theorem dX11_rule_102 : decode cX11_rule 102 = .ok (.aload_n 0, 1) := by decide +kernel
theorem dX11_rule_103 : decode cX11_rule 103 = .ok (.getfield 326, 3) := by decide +kernel
theorem dX11_rule_106 : decode cX11_rule 106 = .ok (.ireturn, 1) := by decide +kernel
theorem dX11_ruleAt_0 : decode cX11_ruleAt 0 = .ok (.aload_n 0, 1) := by decide +kernel
theorem dX11_ruleAt_1 : decode cX11_ruleAt 1 = .ok (.iconst 0, 1) := by decide +kernel
theorem dX11_ruleAt_2 : decode cX11_ruleAt 2 = .ok (.putfield 1, 3) := by decide +kernel
theorem dX11_ruleAt_5 : decode cX11_ruleAt 5 = .ok (.aload_n 0, 1) := by decide +kernel
theorem dX11_ruleAt_6 : decode cX11_ruleAt 6 = .ok (.getfield 338, 3) := by decide +kernel
theorem dX11_ruleAt_9 : decode cX11_ruleAt 9 = .ok (.ifCond .eq 24, 3) := by decide +kernel
theorem dX11_ruleAt_12 : decode cX11_ruleAt 12 = .ok (.iload_n 1, 1) := by decide +kernel
theorem dX11_ruleAt_13 : decode cX11_ruleAt 13 = .ok (.iconst 1, 1) := by decide +kernel
theorem dX11_ruleAt_14 : decode cX11_ruleAt 14 = .ok (.aload_n 0, 1) := by decide +kernel
theorem dX11_ruleAt_15 : decode cX11_ruleAt 15 = .ok (.getfield 326, 3) := by decide +kernel
theorem dX11_ruleAt_18 : decode cX11_ruleAt 18 = .ok (.invokestatic 175, 3) := by decide +kernel
theorem dX11_ruleAt_21 : decode cX11_ruleAt 21 = .ok (.ifCond .eq 12, 3) := by decide +kernel
theorem dX11_ruleAt_24 : decode cX11_ruleAt 24 = .ok (.aload_n 0, 1) := by decide +kernel
theorem dX11_ruleAt_25 : decode cX11_ruleAt 25 = .ok (.getfield 59, 3) := by decide +kernel
theorem dX11_ruleAt_28 : decode cX11_ruleAt 28 = .ok (.iload_n 1, 1) := by decide +kernel
theorem dX11_ruleAt_29 : decode cX11_ruleAt 29 = .ok (.iaload, 1) := by decide +kernel
theorem dX11_ruleAt_30 : decode cX11_ruleAt 30 = .ok (.goto 4, 3) := by decide +kernel
theorem dX11_ruleAt_33 : decode cX11_ruleAt 33 = .ok (.iconst (-1), 1) := by decide +kernel
theorem dX11_ruleAt_34 : decode cX11_ruleAt 34 = .ok (.ireturn, 1) := by decide +kernel
theorem dX11_roots_0 : decode cX11_roots 0 = .ok (.aload_n 0, 1) := by decide +kernel
theorem dX11_roots_1 : decode cX11_roots 1 = .ok (.iconst 0, 1) := by decide +kernel
theorem dX11_roots_2 : decode cX11_roots 2 = .ok (.putfield 1, 3) := by decide +kernel
theorem dX11_roots_5 : decode cX11_roots 5 = .ok (.aload_n 0, 1) := by decide +kernel
theorem dX11_roots_6 : decode cX11_roots 6 = .ok (.getfield 329, 3) := by decide +kernel
theorem dX11_roots_9 : decode cX11_roots 9 = .ok (.lreturn, 1) := by decide +kernel
theorem dX11_strength_0 : decode cX11_strength 0 = .ok (.aload_n 0, 1) := by decide +kernel
theorem dX11_strength_1 : decode cX11_strength 1 = .ok (.iconst 0, 1) := by decide +kernel
theorem dX11_strength_2 : decode cX11_strength 2 = .ok (.putfield 1, 3) := by decide +kernel
theorem dX11_strength_5 : decode cX11_strength 5 = .ok (.iload_n 1, 1) := by decide +kernel
theorem dX11_strength_6 : decode cX11_strength 6 = .ok (.iconst 0, 1) := by decide +kernel
theorem dX11_strength_7 : decode cX11_strength 7 = .ok (.aload_n 0, 1) := by decide +kernel
theorem dX11_strength_8 : decode cX11_strength 8 = .ok (.getfield 332, 3) := by decide +kernel
theorem dX11_strength_11 : decode cX11_strength 11 = .ok (.iconst 1, 1) := by decide +kernel
theorem dX11_strength_12 : decode cX11_strength 12 = .ok (.isub, 1) := by decide +kernel
theorem dX11_strength_13 : decode cX11_strength 13 = .ok (.invokestatic 175, 3) := by decide +kernel
theorem dX11_strength_16 : decode cX11_strength 16 = .ok (.ifCond .eq 12, 3) := by decide +kernel
theorem dX11_strength_19 : decode cX11_strength 19 = .ok (.aload_n 0, 1) := by decide +kernel
theorem dX11_strength_20 : decode cX11_strength 20 = .ok (.getfield 62, 3) := by decide +kernel
theorem dX11_strength_23 : decode cX11_strength 23 = .ok (.iload_n 1, 1) := by decide +kernel
theorem dX11_strength_24 : decode cX11_strength 24 = .ok (.iaload, 1) := by decide +kernel
theorem dX11_strength_25 : decode cX11_strength 25 = .ok (.goto 4, 3) := by decide +kernel
theorem dX11_strength_28 : decode cX11_strength 28 = .ok (.iconst (-1), 1) := by decide +kernel
theorem dX11_strength_29 : decode cX11_strength 29 = .ok (.ireturn, 1) := by decide +kernel
theorem dX11_takesReadings_0 : decode cX11_takesReadings 0 = .ok (.aload_n 0, 1) := by decide +kernel
theorem dX11_takesReadings_1 : decode cX11_takesReadings 1 = .ok (.sipush 940, 3) := by decide +kernel
theorem dX11_takesReadings_4 : decode cX11_takesReadings 4 = .ok (.invokevirtual 218, 3) := by decide +kernel
theorem dX11_takesReadings_7 : decode cX11_takesReadings 7 = .ok (.aload_n 0, 1) := by decide +kernel
theorem dX11_takesReadings_8 : decode cX11_takesReadings 8 = .ok (.getfield 18, 3) := by decide +kernel
theorem dX11_takesReadings_11 : decode cX11_takesReadings 11 = .ok (.iconst 2, 1) := by decide +kernel
theorem dX11_takesReadings_12 : decode cX11_takesReadings 12 = .ok (.irem, 1) := by decide +kernel
theorem dX11_takesReadings_13 : decode cX11_takesReadings 13 = .ok (.iconst 1, 1) := by decide +kernel
theorem dX11_takesReadings_14 : decode cX11_takesReadings 14 = .ok (.if_icmp .ne 5, 3) := by decide +kernel
theorem dX11_takesReadings_17 : decode cX11_takesReadings 17 = .ok (.iconst (-1), 1) := by decide +kernel
theorem dX11_takesReadings_18 : decode cX11_takesReadings 18 = .ok (.ireturn, 1) := by decide +kernel
theorem dX11_takesReadings_19 : decode cX11_takesReadings 19 = .ok (.iconst 0, 1) := by decide +kernel
theorem dX11_takesReadings_20 : decode cX11_takesReadings 20 = .ok (.istore_n 1, 1) := by decide +kernel
theorem dX11_takesReadings_21 : decode cX11_takesReadings 21 = .ok (.iload_n 1, 1) := by decide +kernel
theorem dX11_takesReadings_22 : decode cX11_takesReadings 22 = .ok (.aload_n 0, 1) := by decide +kernel
theorem dX11_takesReadings_23 : decode cX11_takesReadings 23 = .ok (.getfield 18, 3) := by decide +kernel
theorem dX11_takesReadings_26 : decode cX11_takesReadings 26 = .ok (.iconst 2, 1) := by decide +kernel
theorem dX11_takesReadings_27 : decode cX11_takesReadings 27 = .ok (.idiv, 1) := by decide +kernel
theorem dX11_takesReadings_28 : decode cX11_takesReadings 28 = .ok (.if_icmp .ge 41, 3) := by decide +kernel
theorem dX11_takesReadings_31 : decode cX11_takesReadings 31 = .ok (.aload_n 0, 1) := by decide +kernel
theorem dX11_takesReadings_32 : decode cX11_takesReadings 32 = .ok (.getfield 65, 3) := by decide +kernel
theorem dX11_takesReadings_35 : decode cX11_takesReadings 35 = .ok (.iload_n 1, 1) := by decide +kernel
theorem dX11_takesReadings_36 : decode cX11_takesReadings 36 = .ok (.sipush 256, 3) := by decide +kernel
theorem dX11_takesReadings_39 : decode cX11_takesReadings 39 = .ok (.aload_n 0, 1) := by decide +kernel
theorem dX11_takesReadings_40 : decode cX11_takesReadings 40 = .ok (.iconst 2, 1) := by decide +kernel
theorem dX11_takesReadings_41 : decode cX11_takesReadings 41 = .ok (.iload_n 1, 1) := by decide +kernel
theorem dX11_takesReadings_42 : decode cX11_takesReadings 42 = .ok (.imul, 1) := by decide +kernel
theorem dX11_takesReadings_43 : decode cX11_takesReadings 43 = .ok (.invokevirtual 341, 3) := by decide +kernel
theorem dX11_takesReadings_46 : decode cX11_takesReadings 46 = .ok (.imul, 1) := by decide +kernel
theorem dX11_takesReadings_47 : decode cX11_takesReadings 47 = .ok (.aload_n 0, 1) := by decide +kernel
theorem dX11_takesReadings_48 : decode cX11_takesReadings 48 = .ok (.iconst 2, 1) := by decide +kernel
theorem dX11_takesReadings_49 : decode cX11_takesReadings 49 = .ok (.iload_n 1, 1) := by decide +kernel
theorem dX11_takesReadings_50 : decode cX11_takesReadings 50 = .ok (.imul, 1) := by decide +kernel
theorem dX11_takesReadings_51 : decode cX11_takesReadings 51 = .ok (.iconst 1, 1) := by decide +kernel
theorem dX11_takesReadings_52 : decode cX11_takesReadings 52 = .ok (.iadd, 1) := by decide +kernel
theorem dX11_takesReadings_53 : decode cX11_takesReadings 53 = .ok (.invokevirtual 341, 3) := by decide +kernel
theorem dX11_takesReadings_56 : decode cX11_takesReadings 56 = .ok (.iadd, 1) := by decide +kernel
theorem dX11_takesReadings_57 : decode cX11_takesReadings 57 = .ok (.aload_n 0, 1) := by decide +kernel
theorem dX11_takesReadings_58 : decode cX11_takesReadings 58 = .ok (.getfield 230, 3) := by decide +kernel
theorem dX11_takesReadings_61 : decode cX11_takesReadings 61 = .ok (.irem, 1) := by decide +kernel
theorem dX11_takesReadings_62 : decode cX11_takesReadings 62 = .ok (.iastore, 1) := by decide +kernel
theorem dX11_takesReadings_63 : decode cX11_takesReadings 63 = .ok (.iinc 1 1, 3) := by decide +kernel
theorem dX11_takesReadings_66 : decode cX11_takesReadings 66 = .ok (.goto (-45), 3) := by decide +kernel
theorem dX11_takesReadings_69 : decode cX11_takesReadings 69 = .ok (.aload_n 0, 1) := by decide +kernel
theorem dX11_takesReadings_70 : decode cX11_takesReadings 70 = .ok (.getfield 18, 3) := by decide +kernel
theorem dX11_takesReadings_73 : decode cX11_takesReadings 73 = .ok (.iconst 2, 1) := by decide +kernel
theorem dX11_takesReadings_74 : decode cX11_takesReadings 74 = .ok (.idiv, 1) := by decide +kernel
theorem dX11_takesReadings_75 : decode cX11_takesReadings 75 = .ok (.ireturn, 1) := by decide +kernel
theorem dX11_tracks_0 : decode cX11_tracks 0 = .ok (.aload_n 0, 1) := by decide +kernel
theorem dX11_tracks_1 : decode cX11_tracks 1 = .ok (.iconst 0, 1) := by decide +kernel
theorem dX11_tracks_2 : decode cX11_tracks 2 = .ok (.putfield 1, 3) := by decide +kernel
theorem dX11_tracks_5 : decode cX11_tracks 5 = .ok (.aload_n 0, 1) := by decide +kernel
theorem dX11_tracks_6 : decode cX11_tracks 6 = .ok (.invokevirtual 344, 3) := by decide +kernel
theorem dX11_tracks_9 : decode cX11_tracks 9 = .ok (.istore_n 2, 1) := by decide +kernel
theorem dX11_tracks_10 : decode cX11_tracks 10 = .ok (.aload_n 0, 1) := by decide +kernel
theorem dX11_tracks_11 : decode cX11_tracks 11 = .ok (.iload_n 1, 1) := by decide +kernel
theorem dX11_tracks_12 : decode cX11_tracks 12 = .ok (.invokevirtual 261, 3) := by decide +kernel
theorem dX11_tracks_15 : decode cX11_tracks 15 = .ok (.ifCond .eq 13, 3) := by decide +kernel
theorem dX11_tracks_18 : decode cX11_tracks 18 = .ok (.iload_n 2, 1) := by decide +kernel
theorem dX11_tracks_19 : decode cX11_tracks 19 = .ok (.iconst 1, 1) := by decide +kernel
theorem dX11_tracks_20 : decode cX11_tracks 20 = .ok (.bipush 8, 2) := by decide +kernel
theorem dX11_tracks_22 : decode cX11_tracks 22 = .ok (.invokestatic 175, 3) := by decide +kernel
theorem dX11_tracks_25 : decode cX11_tracks 25 = .ok (.ifCond .ne 5, 3) := by decide +kernel
theorem dX11_tracks_28 : decode cX11_tracks 28 = .ok (.iconst (-1), 1) := by decide +kernel
theorem dX11_tracks_29 : decode cX11_tracks 29 = .ok (.ireturn, 1) := by decide +kernel
theorem dX11_tracks_30 : decode cX11_tracks 30 = .ok (.iconst 0, 1) := by decide +kernel
theorem dX11_tracks_31 : decode cX11_tracks 31 = .ok (.istore_n 3, 1) := by decide +kernel
theorem dX11_tracks_32 : decode cX11_tracks 32 = .ok (.iconst 0, 1) := by decide +kernel
theorem dX11_tracks_33 : decode cX11_tracks 33 = .ok (.istore 4, 2) := by decide +kernel
theorem dX11_tracks_35 : decode cX11_tracks 35 = .ok (.iload 4, 2) := by decide +kernel
theorem dX11_tracks_37 : decode cX11_tracks 37 = .ok (.aload_n 0, 1) := by decide +kernel
theorem dX11_tracks_38 : decode cX11_tracks 38 = .ok (.getfield 33, 3) := by decide +kernel
theorem dX11_tracks_41 : decode cX11_tracks 41 = .ok (.iconst 0, 1) := by decide +kernel
theorem dX11_tracks_42 : decode cX11_tracks 42 = .ok (.iaload, 1) := by decide +kernel
theorem dX11_tracks_43 : decode cX11_tracks 43 = .ok (.if_icmp .ge 213, 3) := by decide +kernel
theorem dX11_tracks_46 : decode cX11_tracks 46 = .ok (.iconst 0, 1) := by decide +kernel
theorem dX11_tracks_47 : decode cX11_tracks 47 = .ok (.istore 5, 2) := by decide +kernel
theorem dX11_tracks_49 : decode cX11_tracks 49 = .ok (.iload 5, 2) := by decide +kernel
theorem dX11_tracks_51 : decode cX11_tracks 51 = .ok (.aload_n 0, 1) := by decide +kernel
theorem dX11_tracks_52 : decode cX11_tracks 52 = .ok (.getfield 33, 3) := by decide +kernel
theorem dX11_tracks_55 : decode cX11_tracks 55 = .ok (.iconst 0, 1) := by decide +kernel
theorem dX11_tracks_56 : decode cX11_tracks 56 = .ok (.iaload, 1) := by decide +kernel
theorem dX11_tracks_57 : decode cX11_tracks 57 = .ok (.if_icmp .ge 193, 3) := by decide +kernel
theorem dX11_tracks_60 : decode cX11_tracks 60 = .ok (.aload_n 0, 1) := by decide +kernel
theorem dX11_tracks_61 : decode cX11_tracks 61 = .ok (.iload_n 1, 1) := by decide +kernel
theorem dX11_tracks_62 : decode cX11_tracks 62 = .ok (.invokevirtual 279, 3) := by decide +kernel
theorem dX11_tracks_65 : decode cX11_tracks 65 = .ok (.aload_n 0, 1) := by decide +kernel
theorem dX11_tracks_66 : decode cX11_tracks 66 = .ok (.iload 4, 2) := by decide +kernel
theorem dX11_tracks_68 : decode cX11_tracks 68 = .ok (.aload_n 0, 1) := by decide +kernel
theorem dX11_tracks_69 : decode cX11_tracks 69 = .ok (.iload_n 1, 1) := by decide +kernel
theorem dX11_tracks_70 : decode cX11_tracks 70 = .ok (.invokevirtual 276, 3) := by decide +kernel
theorem dX11_tracks_73 : decode cX11_tracks 73 = .ok (.invokevirtual 273, 3) := by decide +kernel
theorem dX11_tracks_76 : decode cX11_tracks 76 = .ok (.imul, 1) := by decide +kernel
theorem dX11_tracks_77 : decode cX11_tracks 77 = .ok (.aload_n 0, 1) := by decide +kernel
theorem dX11_tracks_78 : decode cX11_tracks 78 = .ok (.getfield 230, 3) := by decide +kernel
theorem dX11_tracks_81 : decode cX11_tracks 81 = .ok (.irem, 1) := by decide +kernel
theorem dX11_tracks_82 : decode cX11_tracks 82 = .ok (.istore 6, 2) := by decide +kernel
theorem dX11_tracks_84 : decode cX11_tracks 84 = .ok (.iload 6, 2) := by decide +kernel
theorem dX11_tracks_86 : decode cX11_tracks 86 = .ok (.ifCond .ne 7, 3) := by decide +kernel
theorem dX11_tracks_89 : decode cX11_tracks 89 = .ok (.iconst 0, 1) := by decide +kernel
theorem dX11_tracks_90 : decode cX11_tracks 90 = .ok (.goto 21, 3) := by decide +kernel
theorem dX11_tracks_93 : decode cX11_tracks 93 = .ok (.aload_n 0, 1) := by decide +kernel
theorem dX11_tracks_94 : decode cX11_tracks 94 = .ok (.getfield 65, 3) := by decide +kernel
theorem dX11_tracks_97 : decode cX11_tracks 97 = .ok (.iconst 0, 1) := by decide +kernel
theorem dX11_tracks_98 : decode cX11_tracks 98 = .ok (.iaload, 1) := by decide +kernel
theorem dX11_tracks_99 : decode cX11_tracks 99 = .ok (.aload_n 0, 1) := by decide +kernel
theorem dX11_tracks_100 : decode cX11_tracks 100 = .ok (.iload 6, 2) := by decide +kernel
theorem dX11_tracks_102 : decode cX11_tracks 102 = .ok (.invokevirtual 254, 3) := by decide +kernel
theorem dX11_tracks_105 : decode cX11_tracks 105 = .ok (.imul, 1) := by decide +kernel
theorem dX11_tracks_106 : decode cX11_tracks 106 = .ok (.aload_n 0, 1) := by decide +kernel
theorem dX11_tracks_107 : decode cX11_tracks 107 = .ok (.getfield 230, 3) := by decide +kernel
theorem dX11_tracks_110 : decode cX11_tracks 110 = .ok (.irem, 1) := by decide +kernel
theorem dX11_tracks_111 : decode cX11_tracks 111 = .ok (.istore 7, 2) := by decide +kernel
theorem dX11_tracks_113 : decode cX11_tracks 113 = .ok (.iconst 1, 1) := by decide +kernel
theorem dX11_tracks_114 : decode cX11_tracks 114 = .ok (.istore 8, 2) := by decide +kernel
theorem dX11_tracks_116 : decode cX11_tracks 116 = .ok (.iconst 0, 1) := by decide +kernel
theorem dX11_tracks_117 : decode cX11_tracks 117 = .ok (.istore 9, 2) := by decide +kernel
theorem dX11_tracks_119 : decode cX11_tracks 119 = .ok (.iload 9, 2) := by decide +kernel
theorem dX11_tracks_121 : decode cX11_tracks 121 = .ok (.iload_n 2, 1) := by decide +kernel
theorem dX11_tracks_122 : decode cX11_tracks 122 = .ok (.if_icmp .ge 74, 3) := by decide +kernel
theorem dX11_tracks_125 : decode cX11_tracks 125 = .ok (.iload 8, 2) := by decide +kernel
theorem dX11_tracks_127 : decode cX11_tracks 127 = .ok (.ifCond .eq 69, 3) := by decide +kernel
theorem dX11_tracks_130 : decode cX11_tracks 130 = .ok (.aload_n 0, 1) := by decide +kernel
theorem dX11_tracks_131 : decode cX11_tracks 131 = .ok (.iload_n 1, 1) := by decide +kernel
theorem dX11_tracks_132 : decode cX11_tracks 132 = .ok (.invokevirtual 279, 3) := by decide +kernel
theorem dX11_tracks_135 : decode cX11_tracks 135 = .ok (.iload 7, 2) := by decide +kernel
theorem dX11_tracks_137 : decode cX11_tracks 137 = .ok (.imul, 1) := by decide +kernel
theorem dX11_tracks_138 : decode cX11_tracks 138 = .ok (.aload_n 0, 1) := by decide +kernel
theorem dX11_tracks_139 : decode cX11_tracks 139 = .ok (.getfield 230, 3) := by decide +kernel
theorem dX11_tracks_142 : decode cX11_tracks 142 = .ok (.irem, 1) := by decide +kernel
theorem dX11_tracks_143 : decode cX11_tracks 143 = .ok (.aload_n 0, 1) := by decide +kernel
theorem dX11_tracks_144 : decode cX11_tracks 144 = .ok (.iload 4, 2) := by decide +kernel
theorem dX11_tracks_146 : decode cX11_tracks 146 = .ok (.iload 5, 2) := by decide +kernel
theorem dX11_tracks_148 : decode cX11_tracks 148 = .ok (.iload 9, 2) := by decide +kernel
theorem dX11_tracks_150 : decode cX11_tracks 150 = .ok (.imul, 1) := by decide +kernel
theorem dX11_tracks_151 : decode cX11_tracks 151 = .ok (.iadd, 1) := by decide +kernel
theorem dX11_tracks_152 : decode cX11_tracks 152 = .ok (.aload_n 0, 1) := by decide +kernel
theorem dX11_tracks_153 : decode cX11_tracks 153 = .ok (.getfield 33, 3) := by decide +kernel
theorem dX11_tracks_156 : decode cX11_tracks 156 = .ok (.iconst 0, 1) := by decide +kernel
theorem dX11_tracks_157 : decode cX11_tracks 157 = .ok (.iaload, 1) := by decide +kernel
theorem dX11_tracks_158 : decode cX11_tracks 158 = .ok (.irem, 1) := by decide +kernel
theorem dX11_tracks_159 : decode cX11_tracks 159 = .ok (.aload_n 0, 1) := by decide +kernel
theorem dX11_tracks_160 : decode cX11_tracks 160 = .ok (.iload_n 1, 1) := by decide +kernel
theorem dX11_tracks_161 : decode cX11_tracks 161 = .ok (.invokevirtual 276, 3) := by decide +kernel
theorem dX11_tracks_164 : decode cX11_tracks 164 = .ok (.invokevirtual 273, 3) := by decide +kernel
theorem dX11_tracks_167 : decode cX11_tracks 167 = .ok (.imul, 1) := by decide +kernel
theorem dX11_tracks_168 : decode cX11_tracks 168 = .ok (.aload_n 0, 1) := by decide +kernel
theorem dX11_tracks_169 : decode cX11_tracks 169 = .ok (.getfield 230, 3) := by decide +kernel
theorem dX11_tracks_172 : decode cX11_tracks 172 = .ok (.irem, 1) := by decide +kernel
theorem dX11_tracks_173 : decode cX11_tracks 173 = .ok (.aload_n 0, 1) := by decide +kernel
theorem dX11_tracks_174 : decode cX11_tracks 174 = .ok (.getfield 65, 3) := by decide +kernel
theorem dX11_tracks_177 : decode cX11_tracks 177 = .ok (.iload 9, 2) := by decide +kernel
theorem dX11_tracks_179 : decode cX11_tracks 179 = .ok (.iaload, 1) := by decide +kernel
theorem dX11_tracks_180 : decode cX11_tracks 180 = .ok (.if_icmp .ne 7, 3) := by decide +kernel
theorem dX11_tracks_183 : decode cX11_tracks 183 = .ok (.iconst 1, 1) := by decide +kernel
theorem dX11_tracks_184 : decode cX11_tracks 184 = .ok (.goto 4, 3) := by decide +kernel
theorem dX11_tracks_187 : decode cX11_tracks 187 = .ok (.iconst 0, 1) := by decide +kernel
theorem dX11_tracks_188 : decode cX11_tracks 188 = .ok (.istore 8, 2) := by decide +kernel
theorem dX11_tracks_190 : decode cX11_tracks 190 = .ok (.iinc 9 1, 3) := by decide +kernel
theorem dX11_tracks_193 : decode cX11_tracks 193 = .ok (.goto (-74), 3) := by decide +kernel
theorem dX11_tracks_196 : decode cX11_tracks 196 = .ok (.iload 8, 2) := by decide +kernel
theorem dX11_tracks_198 : decode cX11_tracks 198 = .ok (.ifCond .ne 6, 3) := by decide +kernel
theorem dX11_tracks_201 : decode cX11_tracks 201 = .ok (.goto 43, 3) := by decide +kernel
theorem dX11_tracks_204 : decode cX11_tracks 204 = .ok (.iinc 3 1, 3) := by decide +kernel
theorem dX11_tracks_207 : decode cX11_tracks 207 = .ok (.iload_n 3, 1) := by decide +kernel
theorem dX11_tracks_208 : decode cX11_tracks 208 = .ok (.iconst 1, 1) := by decide +kernel
theorem dX11_tracks_209 : decode cX11_tracks 209 = .ok (.if_icmp .le 6, 3) := by decide +kernel
theorem dX11_tracks_212 : decode cX11_tracks 212 = .ok (.goto 32, 3) := by decide +kernel
theorem dX11_tracks_215 : decode cX11_tracks 215 = .ok (.aload_n 0, 1) := by decide +kernel
theorem dX11_tracks_216 : decode cX11_tracks 216 = .ok (.getfield 68, 3) := by decide +kernel
theorem dX11_tracks_219 : decode cX11_tracks 219 = .ok (.iconst 0, 1) := by decide +kernel
theorem dX11_tracks_220 : decode cX11_tracks 220 = .ok (.iload 4, 2) := by decide +kernel
theorem dX11_tracks_222 : decode cX11_tracks 222 = .ok (.iastore, 1) := by decide +kernel
theorem dX11_tracks_223 : decode cX11_tracks 223 = .ok (.aload_n 0, 1) := by decide +kernel
theorem dX11_tracks_224 : decode cX11_tracks 224 = .ok (.getfield 68, 3) := by decide +kernel
theorem dX11_tracks_227 : decode cX11_tracks 227 = .ok (.iconst 1, 1) := by decide +kernel
theorem dX11_tracks_228 : decode cX11_tracks 228 = .ok (.iload 5, 2) := by decide +kernel
theorem dX11_tracks_230 : decode cX11_tracks 230 = .ok (.iastore, 1) := by decide +kernel
theorem dX11_tracks_231 : decode cX11_tracks 231 = .ok (.aload_n 0, 1) := by decide +kernel
theorem dX11_tracks_232 : decode cX11_tracks 232 = .ok (.getfield 68, 3) := by decide +kernel
theorem dX11_tracks_235 : decode cX11_tracks 235 = .ok (.iconst 2, 1) := by decide +kernel
theorem dX11_tracks_236 : decode cX11_tracks 236 = .ok (.iload 7, 2) := by decide +kernel
theorem dX11_tracks_238 : decode cX11_tracks 238 = .ok (.iastore, 1) := by decide +kernel
theorem dX11_tracks_239 : decode cX11_tracks 239 = .ok (.aload_n 0, 1) := by decide +kernel
