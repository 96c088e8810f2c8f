theorem d_M_takesSeveral_65 : decode b_M_takesSeveral 65 = .ok (.goto 21, 3) := by decide +kernel
theorem d_M_takesSeveral_68 : decode b_M_takesSeveral 68 = .ok (.aload_n 0, 1) := by decide +kernel
theorem d_M_takesSeveral_69 : decode b_M_takesSeveral 69 = .ok (.iload 5, 2) := by decide +kernel
theorem d_M_takesSeveral_71 : decode b_M_takesSeveral 71 = .ok (.invokevirtual 160, 3) := by decide +kernel
theorem d_M_takesSeveral_74 : decode b_M_takesSeveral 74 = .ok (.ifCond .eq 16, 3) := by decide +kernel
theorem d_M_takesSeveral_77 : decode b_M_takesSeveral 77 = .ok (.aload_n 0, 1) := by decide +kernel
theorem d_M_takesSeveral_78 : decode b_M_takesSeveral 78 = .ok (.iload 5, 2) := by decide +kernel
theorem d_M_takesSeveral_80 : decode b_M_takesSeveral 80 = .ok (.invokevirtual 232, 3) := by decide +kernel
theorem d_M_takesSeveral_83 : decode b_M_takesSeveral 83 = .ok (.ifCond .ne 7, 3) := by decide +kernel
theorem d_M_takesSeveral_86 : decode b_M_takesSeveral 86 = .ok (.iconst 1, 1) := by decide +kernel
theorem d_M_takesSeveral_87 : decode b_M_takesSeveral 87 = .ok (.goto 4, 3) := by decide +kernel
theorem d_M_takesSeveral_90 : decode b_M_takesSeveral 90 = .ok (.iconst 0, 1) := by decide +kernel
theorem d_M_takesSeveral_91 : decode b_M_takesSeveral 91 = .ok (.istore 6, 2) := by decide +kernel
theorem d_M_takesSeveral_93 : decode b_M_takesSeveral 93 = .ok (.aload_n 0, 1) := by decide +kernel
theorem d_M_takesSeveral_94 : decode b_M_takesSeveral 94 = .ok (.getfield 71, 3) := by decide +kernel
theorem d_M_takesSeveral_97 : decode b_M_takesSeveral 97 = .ok (.iload_n 3, 1) := by decide +kernel
theorem d_M_takesSeveral_98 : decode b_M_takesSeveral 98 = .ok (.iload 6, 2) := by decide +kernel
theorem d_M_takesSeveral_100 : decode b_M_takesSeveral 100 = .ok (.ifCond .eq 17, 3) := by decide +kernel
theorem d_M_takesSeveral_103 : decode b_M_takesSeveral 103 = .ok (.aload_n 0, 1) := by decide +kernel
theorem d_M_takesSeveral_104 : decode b_M_takesSeveral 104 = .ok (.getfield 71, 3) := by decide +kernel
theorem d_M_takesSeveral_107 : decode b_M_takesSeveral 107 = .ok (.iload_n 3, 1) := by decide +kernel
theorem d_M_takesSeveral_108 : decode b_M_takesSeveral 108 = .ok (.laload, 1) := by decide +kernel
theorem d_M_takesSeveral_109 : decode b_M_takesSeveral 109 = .ok (.lconst 1, 1) := by decide +kernel
theorem d_M_takesSeveral_110 : decode b_M_takesSeveral 110 = .ok (.iload 5, 2) := by decide +kernel
theorem d_M_takesSeveral_112 : decode b_M_takesSeveral 112 = .ok (.lshl, 1) := by decide +kernel
theorem d_M_takesSeveral_113 : decode b_M_takesSeveral 113 = .ok (.lor, 1) := by decide +kernel
theorem d_M_takesSeveral_114 : decode b_M_takesSeveral 114 = .ok (.goto 9, 3) := by decide +kernel
theorem d_M_takesSeveral_117 : decode b_M_takesSeveral 117 = .ok (.aload_n 0, 1) := by decide +kernel
theorem d_M_takesSeveral_118 : decode b_M_takesSeveral 118 = .ok (.getfield 71, 3) := by decide +kernel
theorem d_M_takesSeveral_121 : decode b_M_takesSeveral 121 = .ok (.iload_n 3, 1) := by decide +kernel
theorem d_M_takesSeveral_122 : decode b_M_takesSeveral 122 = .ok (.laload, 1) := by decide +kernel
theorem d_M_takesSeveral_123 : decode b_M_takesSeveral 123 = .ok (.lastore, 1) := by decide +kernel
theorem d_M_takesSeveral_124 : decode b_M_takesSeveral 124 = .ok (.iinc 5 1, 3) := by decide +kernel
theorem d_M_takesSeveral_127 : decode b_M_takesSeveral 127 = .ok (.goto (-104), 3) := by decide +kernel
theorem d_M_takesSeveral_130 : decode b_M_takesSeveral 130 = .ok (.iinc 4 1, 3) := by decide +kernel
theorem d_M_takesSeveral_133 : decode b_M_takesSeveral 133 = .ok (.aload_n 0, 1) := by decide +kernel
theorem d_M_takesSeveral_134 : decode b_M_takesSeveral 134 = .ok (.iload 4, 2) := by decide +kernel
theorem d_M_takesSeveral_136 : decode b_M_takesSeveral 136 = .ok (.iconst 3, 1) := by decide +kernel
theorem d_M_takesSeveral_137 : decode b_M_takesSeveral 137 = .ok (.invokevirtual 177, 3) := by decide +kernel
theorem d_M_takesSeveral_140 : decode b_M_takesSeveral 140 = .ok (.istore 5, 2) := by decide +kernel
theorem d_M_takesSeveral_142 : decode b_M_takesSeveral 142 = .ok (.iload 5, 2) := by decide +kernel
theorem d_M_takesSeveral_144 : decode b_M_takesSeveral 144 = .ok (.ifCond .eq 93, 3) := by decide +kernel
theorem d_M_takesSeveral_147 : decode b_M_takesSeveral 147 = .ok (.aload_n 0, 1) := by decide +kernel
theorem d_M_takesSeveral_148 : decode b_M_takesSeveral 148 = .ok (.getfield 180, 3) := by decide +kernel
theorem d_M_takesSeveral_151 : decode b_M_takesSeveral 151 = .ok (.ifCond .ne 86, 3) := by decide +kernel
theorem d_M_takesSeveral_154 : decode b_M_takesSeveral 154 = .ok (.iinc 4 1, 3) := by decide +kernel
theorem d_M_takesSeveral_157 : decode b_M_takesSeveral 157 = .ok (.iload 4, 2) := by decide +kernel
theorem d_M_takesSeveral_159 : decode b_M_takesSeveral 159 = .ok (.aload_n 0, 1) := by decide +kernel
theorem d_M_takesSeveral_160 : decode b_M_takesSeveral 160 = .ok (.getfield 167, 3) := by decide +kernel
theorem d_M_takesSeveral_163 : decode b_M_takesSeveral 163 = .ok (.if_icmp .ge 12, 3) := by decide +kernel
theorem d_M_takesSeveral_166 : decode b_M_takesSeveral 166 = .ok (.aload_n 0, 1) := by decide +kernel
theorem d_M_takesSeveral_167 : decode b_M_takesSeveral 167 = .ok (.iload 4, 2) := by decide +kernel
theorem d_M_takesSeveral_169 : decode b_M_takesSeveral 169 = .ok (.invokevirtual 229, 3) := by decide +kernel
theorem d_M_takesSeveral_172 : decode b_M_takesSeveral 172 = .ok (.goto 4, 3) := by decide +kernel
theorem d_M_takesSeveral_175 : decode b_M_takesSeveral 175 = .ok (.iconst 0, 1) := by decide +kernel
theorem d_M_takesSeveral_176 : decode b_M_takesSeveral 176 = .ok (.istore 6, 2) := by decide +kernel
theorem d_M_takesSeveral_178 : decode b_M_takesSeveral 178 = .ok (.iload 6, 2) := by decide +kernel
theorem d_M_takesSeveral_180 : decode b_M_takesSeveral 180 = .ok (.ifCond .ne 11, 3) := by decide +kernel
theorem d_M_takesSeveral_183 : decode b_M_takesSeveral 183 = .ok (.aload_n 0, 1) := by decide +kernel
theorem d_M_takesSeveral_184 : decode b_M_takesSeveral 184 = .ok (.bipush 7, 2) := by decide +kernel
theorem d_M_takesSeveral_186 : decode b_M_takesSeveral 186 = .ok (.iload 4, 2) := by decide +kernel
theorem d_M_takesSeveral_188 : decode b_M_takesSeveral 188 = .ok (.invokevirtual 205, 3) := by decide +kernel
theorem d_M_takesSeveral_191 : decode b_M_takesSeveral 191 = .ok (.aload_n 0, 1) := by decide +kernel
theorem d_M_takesSeveral_192 : decode b_M_takesSeveral 192 = .ok (.getfield 71, 3) := by decide +kernel
theorem d_M_takesSeveral_195 : decode b_M_takesSeveral 195 = .ok (.iload_n 3, 1) := by decide +kernel
theorem d_M_takesSeveral_196 : decode b_M_takesSeveral 196 = .ok (.dup2, 1) := by decide +kernel
theorem d_M_takesSeveral_197 : decode b_M_takesSeveral 197 = .ok (.laload, 1) := by decide +kernel
theorem d_M_takesSeveral_198 : decode b_M_takesSeveral 198 = .ok (.iload 6, 2) := by decide +kernel
theorem d_M_takesSeveral_200 : decode b_M_takesSeveral 200 = .ok (.ifCond .ne 9, 3) := by decide +kernel
theorem d_M_takesSeveral_203 : decode b_M_takesSeveral 203 = .ok (.ldc2_w 248, 3) := by decide +kernel
theorem d_M_takesSeveral_206 : decode b_M_takesSeveral 206 = .ok (.goto 11, 3) := by decide +kernel
theorem d_M_takesSeveral_209 : decode b_M_takesSeveral 209 = .ok (.aload_n 0, 1) := by decide +kernel
theorem d_M_takesSeveral_210 : decode b_M_takesSeveral 210 = .ok (.getfield 170, 3) := by decide +kernel
theorem d_M_takesSeveral_213 : decode b_M_takesSeveral 213 = .ok (.ldc2_w 248, 3) := by decide +kernel
theorem d_M_takesSeveral_216 : decode b_M_takesSeveral 216 = .ok (.lxor, 1) := by decide +kernel
theorem d_M_takesSeveral_217 : decode b_M_takesSeveral 217 = .ok (.land, 1) := by decide +kernel
theorem d_M_takesSeveral_218 : decode b_M_takesSeveral 218 = .ok (.lastore, 1) := by decide +kernel
theorem d_M_takesSeveral_219 : decode b_M_takesSeveral 219 = .ok (.iload 4, 2) := by decide +kernel
theorem d_M_takesSeveral_221 : decode b_M_takesSeveral 221 = .ok (.iload 6, 2) := by decide +kernel
theorem d_M_takesSeveral_223 : decode b_M_takesSeveral 223 = .ok (.iadd, 1) := by decide +kernel
theorem d_M_takesSeveral_224 : decode b_M_takesSeveral 224 = .ok (.istore 4, 2) := by decide +kernel
theorem d_M_takesSeveral_226 : decode b_M_takesSeveral 226 = .ok (.aload_n 0, 1) := by decide +kernel
theorem d_M_takesSeveral_227 : decode b_M_takesSeveral 227 = .ok (.iload 4, 2) := by decide +kernel
theorem d_M_takesSeveral_229 : decode b_M_takesSeveral 229 = .ok (.invokevirtual 220, 3) := by decide +kernel
theorem d_M_takesSeveral_232 : decode b_M_takesSeveral 232 = .ok (.istore 5, 2) := by decide +kernel
theorem d_M_takesSeveral_234 : decode b_M_takesSeveral 234 = .ok (.goto (-92), 3) := by decide +kernel
theorem d_M_takesSeveral_237 : decode b_M_takesSeveral 237 = .ok (.goto 84, 3) := by decide +kernel
theorem d_M_takesSeveral_240 : decode b_M_takesSeveral 240 = .ok (.aload_n 0, 1) := by decide +kernel
theorem d_M_takesSeveral_241 : decode b_M_takesSeveral 241 = .ok (.iload_n 1, 1) := by decide +kernel
theorem d_M_takesSeveral_242 : decode b_M_takesSeveral 242 = .ok (.bipush 6, 2) := by decide +kernel
theorem d_M_takesSeveral_244 : decode b_M_takesSeveral 244 = .ok (.if_icmp .ne 7, 3) := by decide +kernel
theorem d_M_takesSeveral_247 : decode b_M_takesSeveral 247 = .ok (.iconst 2, 1) := by decide +kernel
theorem d_M_takesSeveral_248 : decode b_M_takesSeveral 248 = .ok (.goto 4, 3) := by decide +kernel
theorem d_M_takesSeveral_251 : decode b_M_takesSeveral 251 = .ok (.iconst 3, 1) := by decide +kernel
theorem d_M_takesSeveral_252 : decode b_M_takesSeveral 252 = .ok (.iload 4, 2) := by decide +kernel
theorem d_M_takesSeveral_254 : decode b_M_takesSeveral 254 = .ok (.invokevirtual 217, 3) := by decide +kernel
theorem d_M_takesSeveral_257 : decode b_M_takesSeveral 257 = .ok (.istore 4, 2) := by decide +kernel
theorem d_M_takesSeveral_259 : decode b_M_takesSeveral 259 = .ok (.aload_n 0, 1) := by decide +kernel
theorem d_M_takesSeveral_260 : decode b_M_takesSeveral 260 = .ok (.getfield 180, 3) := by decide +kernel
theorem d_M_takesSeveral_263 : decode b_M_takesSeveral 263 = .ok (.ifCond .ne 58, 3) := by decide +kernel
theorem d_M_takesSeveral_266 : decode b_M_takesSeveral 266 = .ok (.aload_n 0, 1) := by decide +kernel
theorem d_M_takesSeveral_267 : decode b_M_takesSeveral 267 = .ok (.iload 4, 2) := by decide +kernel
theorem d_M_takesSeveral_269 : decode b_M_takesSeveral 269 = .ok (.invokevirtual 220, 3) := by decide +kernel
theorem d_M_takesSeveral_272 : decode b_M_takesSeveral 272 = .ok (.ifCond .eq 49, 3) := by decide +kernel
theorem d_M_takesSeveral_275 : decode b_M_takesSeveral 275 = .ok (.iload 4, 2) := by decide +kernel
theorem d_M_takesSeveral_277 : decode b_M_takesSeveral 277 = .ok (.iconst 1, 1) := by decide +kernel
theorem d_M_takesSeveral_278 : decode b_M_takesSeveral 278 = .ok (.iadd, 1) := by decide +kernel
theorem d_M_takesSeveral_279 : decode b_M_takesSeveral 279 = .ok (.aload_n 0, 1) := by decide +kernel
theorem d_M_takesSeveral_280 : decode b_M_takesSeveral 280 = .ok (.getfield 167, 3) := by decide +kernel
theorem d_M_takesSeveral_283 : decode b_M_takesSeveral 283 = .ok (.if_icmp .ge 25, 3) := by decide +kernel
theorem d_M_takesSeveral_286 : decode b_M_takesSeveral 286 = .ok (.aload_n 0, 1) := by decide +kernel
theorem d_M_takesSeveral_287 : decode b_M_takesSeveral 287 = .ok (.iload_n 1, 1) := by decide +kernel
theorem d_M_takesSeveral_288 : decode b_M_takesSeveral 288 = .ok (.bipush 6, 2) := by decide +kernel
theorem d_M_takesSeveral_290 : decode b_M_takesSeveral 290 = .ok (.if_icmp .ne 7, 3) := by decide +kernel
theorem d_M_takesSeveral_293 : decode b_M_takesSeveral 293 = .ok (.iconst 2, 1) := by decide +kernel
theorem d_M_takesSeveral_294 : decode b_M_takesSeveral 294 = .ok (.goto 4, 3) := by decide +kernel
theorem d_M_takesSeveral_297 : decode b_M_takesSeveral 297 = .ok (.iconst 3, 1) := by decide +kernel
theorem d_M_takesSeveral_298 : decode b_M_takesSeveral 298 = .ok (.iload 4, 2) := by decide +kernel
theorem d_M_takesSeveral_300 : decode b_M_takesSeveral 300 = .ok (.iconst 1, 1) := by decide +kernel
theorem d_M_takesSeveral_301 : decode b_M_takesSeveral 301 = .ok (.iadd, 1) := by decide +kernel
theorem d_M_takesSeveral_302 : decode b_M_takesSeveral 302 = .ok (.invokevirtual 217, 3) := by decide +kernel
theorem d_M_takesSeveral_305 : decode b_M_takesSeveral 305 = .ok (.goto 11, 3) := by decide +kernel
theorem d_M_takesSeveral_308 : decode b_M_takesSeveral 308 = .ok (.aload_n 0, 1) := by decide +kernel
theorem d_M_takesSeveral_309 : decode b_M_takesSeveral 309 = .ok (.iload 4, 2) := by decide +kernel
theorem d_M_takesSeveral_311 : decode b_M_takesSeveral 311 = .ok (.iconst 1, 1) := by decide +kernel
theorem d_M_takesSeveral_312 : decode b_M_takesSeveral 312 = .ok (.iadd, 1) := by decide +kernel
theorem d_M_takesSeveral_313 : decode b_M_takesSeveral 313 = .ok (.invokevirtual 250, 3) := by decide +kernel
theorem d_M_takesSeveral_316 : decode b_M_takesSeveral 316 = .ok (.istore 4, 2) := by decide +kernel
theorem d_M_takesSeveral_318 : decode b_M_takesSeveral 318 = .ok (.goto (-59), 3) := by decide +kernel
theorem d_M_takesSeveral_321 : decode b_M_takesSeveral 321 = .ok (.aload_n 0, 1) := by decide +kernel
theorem d_M_takesSeveral_322 : decode b_M_takesSeveral 322 = .ok (.getfield 180, 3) := by decide +kernel
theorem d_M_takesSeveral_325 : decode b_M_takesSeveral 325 = .ok (.ifCond .ne 21, 3) := by decide +kernel
theorem d_M_takesSeveral_328 : decode b_M_takesSeveral 328 = .ok (.aload_n 0, 1) := by decide +kernel
theorem d_M_takesSeveral_329 : decode b_M_takesSeveral 329 = .ok (.getfield 71, 3) := by decide +kernel
theorem d_M_takesSeveral_332 : decode b_M_takesSeveral 332 = .ok (.iload_n 3, 1) := by decide +kernel
theorem d_M_takesSeveral_333 : decode b_M_takesSeveral 333 = .ok (.laload, 1) := by decide +kernel
theorem d_M_takesSeveral_334 : decode b_M_takesSeveral 334 = .ok (.lconst 0, 1) := by decide +kernel
theorem d_M_takesSeveral_335 : decode b_M_takesSeveral 335 = .ok (.lcmp, 1) := by decide +kernel
theorem d_M_takesSeveral_336 : decode b_M_takesSeveral 336 = .ok (.ifCond .ne 10, 3) := by decide +kernel
theorem d_M_takesSeveral_339 : decode b_M_takesSeveral 339 = .ok (.aload_n 0, 1) := by decide +kernel
theorem d_M_takesSeveral_340 : decode b_M_takesSeveral 340 = .ok (.bipush 14, 2) := by decide +kernel
theorem d_M_takesSeveral_342 : decode b_M_takesSeveral 342 = .ok (.iload_n 2, 1) := by decide +kernel
theorem d_M_takesSeveral_343 : decode b_M_takesSeveral 343 = .ok (.invokevirtual 205, 3) := by decide +kernel
theorem d_M_takesSeveral_346 : decode b_M_takesSeveral 346 = .ok (.iload 4, 2) := by decide +kernel
theorem d_M_takesSeveral_348 : decode b_M_takesSeveral 348 = .ok (.ireturn, 1) := by decide +kernel
theorem d_M_takes_0 : decode b_M_takes 0 = .ok (.aload_n 0, 1) := by decide +kernel
theorem d_M_takes_1 : decode b_M_takes 1 = .ok (.getfield 29, 3) := by decide +kernel
theorem d_M_takes_4 : decode b_M_takes 4 = .ok (.bipush 8, 2) := by decide +kernel
theorem d_M_takes_6 : decode b_M_takes 6 = .ok (.iload_n 1, 1) := by decide +kernel
theorem d_M_takes_7 : decode b_M_takes 7 = .ok (.imul, 1) := by decide +kernel
theorem d_M_takes_8 : decode b_M_takes 8 = .ok (.iload_n 2, 1) := by decide +kernel
theorem d_M_takes_9 : decode b_M_takes 9 = .ok (.iadd, 1) := by decide +kernel
theorem d_M_takes_10 : decode b_M_takes 10 = .ok (.iaload, 1) := by decide +kernel
theorem d_M_takes_11 : decode b_M_takes 11 = .ok (.istore 4, 2) := by decide +kernel
theorem d_M_takes_13 : decode b_M_takes 13 = .ok (.iload 4, 2) := by decide +kernel
theorem d_M_takes_15 : decode b_M_takes 15 = .ok (.ifCond .ne 28, 3) := by decide +kernel
theorem d_M_takes_18 : decode b_M_takes 18 = .ok (.aload_n 0, 1) := by decide +kernel
theorem d_M_takes_19 : decode b_M_takes 19 = .ok (.iload_n 1, 1) := by decide +kernel
theorem d_M_takes_20 : decode b_M_takes 20 = .ok (.iload_n 2, 1) := by decide +kernel
theorem d_M_takes_21 : decode b_M_takes 21 = .ok (.aload_n 0, 1) := by decide +kernel
theorem d_M_takes_22 : decode b_M_takes 22 = .ok (.getfield 56, 3) := by decide +kernel
theorem d_M_takes_25 : decode b_M_takes 25 = .ok (.iload_n 3, 1) := by decide +kernel
theorem d_M_takes_26 : decode b_M_takes 26 = .ok (.iaload, 1) := by decide +kernel
theorem d_M_takes_27 : decode b_M_takes 27 = .ok (.invokevirtual 211, 3) := by decide +kernel
theorem d_M_takes_30 : decode b_M_takes 30 = .ok (.ifCond .ne 9, 3) := by decide +kernel
theorem d_M_takes_33 : decode b_M_takes 33 = .ok (.aload_n 0, 1) := by decide +kernel
theorem d_M_takes_34 : decode b_M_takes 34 = .ok (.iconst 5, 1) := by decide +kernel
theorem d_M_takes_35 : decode b_M_takes 35 = .ok (.iload_n 3, 1) := by decide +kernel
theorem d_M_takes_36 : decode b_M_takes 36 = .ok (.invokevirtual 205, 3) := by decide +kernel
theorem d_M_takes_39 : decode b_M_takes 39 = .ok (.iload_n 3, 1) := by decide +kernel
theorem d_M_takes_40 : decode b_M_takes 40 = .ok (.iconst 1, 1) := by decide +kernel
theorem d_M_takes_41 : decode b_M_takes 41 = .ok (.iadd, 1) := by decide +kernel
theorem d_M_takes_42 : decode b_M_takes 42 = .ok (.ireturn, 1) := by decide +kernel
theorem d_M_takes_43 : decode b_M_takes 43 = .ok (.aload_n 0, 1) := by decide +kernel
theorem d_M_takes_44 : decode b_M_takes 44 = .ok (.iload 4, 2) := by decide +kernel
theorem d_M_takes_46 : decode b_M_takes 46 = .ok (.iload_n 3, 1) := by decide +kernel
theorem d_M_takes_47 : decode b_M_takes 47 = .ok (.invokevirtual 214, 3) := by decide +kernel
theorem d_M_takes_50 : decode b_M_takes 50 = .ok (.iload 4, 2) := by decide +kernel
theorem d_M_takes_52 : decode b_M_takes 52 = .ok (.iconst 5, 1) := by decide +kernel
theorem d_M_takes_53 : decode b_M_takes 53 = .ok (.if_icmp .gt 39, 3) := by decide +kernel
theorem d_M_takes_56 : decode b_M_takes 56 = .ok (.aload_n 0, 1) := by decide +kernel
theorem d_M_takes_57 : decode b_M_takes 57 = .ok (.iload 4, 2) := by decide +kernel
theorem d_M_takes_59 : decode b_M_takes 59 = .ok (.iload_n 3, 1) := by decide +kernel
theorem d_M_takes_60 : decode b_M_takes 60 = .ok (.invokevirtual 217, 3) := by decide +kernel
theorem d_M_takes_63 : decode b_M_takes 63 = .ok (.istore 5, 2) := by decide +kernel
theorem d_M_takes_65 : decode b_M_takes 65 = .ok (.aload_n 0, 1) := by decide +kernel
theorem d_M_takes_66 : decode b_M_takes 66 = .ok (.getfield 180, 3) := by decide +kernel
theorem d_M_takes_69 : decode b_M_takes 69 = .ok (.ifCond .ne 20, 3) := by decide +kernel
theorem d_M_takes_72 : decode b_M_takes 72 = .ok (.aload_n 0, 1) := by decide +kernel
theorem d_M_takes_73 : decode b_M_takes 73 = .ok (.iload 5, 2) := by decide +kernel
theorem d_M_takes_75 : decode b_M_takes 75 = .ok (.invokevirtual 220, 3) := by decide +kernel
theorem d_M_takes_78 : decode b_M_takes 78 = .ok (.ifCond .eq 11, 3) := by decide +kernel
theorem d_M_takes_81 : decode b_M_takes 81 = .ok (.aload_n 0, 1) := by decide +kernel
theorem d_M_takes_82 : decode b_M_takes 82 = .ok (.bipush 13, 2) := by decide +kernel
theorem d_M_takes_84 : decode b_M_takes 84 = .ok (.iload 5, 2) := by decide +kernel
theorem d_M_takes_86 : decode b_M_takes 86 = .ok (.invokevirtual 205, 3) := by decide +kernel
theorem d_M_takes_89 : decode b_M_takes 89 = .ok (.iload 5, 2) := by decide +kernel
theorem d_M_takes_91 : decode b_M_takes 91 = .ok (.ireturn, 1) := by decide +kernel
theorem d_M_takes_92 : decode b_M_takes 92 = .ok (.iload 4, 2) := by decide +kernel
theorem d_M_takes_94 : decode b_M_takes 94 = .ok (.bipush 8, 2) := by decide +kernel
theorem d_M_takes_96 : decode b_M_takes 96 = .ok (.if_icmp .gt 11, 3) := by decide +kernel
theorem d_M_takes_99 : decode b_M_takes 99 = .ok (.aload_n 0, 1) := by decide +kernel
theorem d_M_takes_100 : decode b_M_takes 100 = .ok (.iload 4, 2) := by decide +kernel
theorem d_M_takes_102 : decode b_M_takes 102 = .ok (.iload_n 3, 1) := by decide +kernel
theorem d_M_takes_103 : decode b_M_takes 103 = .ok (.invokevirtual 223, 3) := by decide +kernel
theorem d_M_takes_106 : decode b_M_takes 106 = .ok (.ireturn, 1) := by decide +kernel
theorem d_M_takes_107 : decode b_M_takes 107 = .ok (.iload 4, 2) := by decide +kernel
theorem d_M_takes_109 : decode b_M_takes 109 = .ok (.bipush 9, 2) := by decide +kernel
theorem d_M_takes_111 : decode b_M_takes 111 = .ok (.if_icmp .ne 11, 3) := by decide +kernel
theorem d_M_takes_114 : decode b_M_takes 114 = .ok (.aload_n 0, 1) := by decide +kernel
theorem d_M_takes_115 : decode b_M_takes 115 = .ok (.iload_n 1, 1) := by decide +kernel
theorem d_M_takes_116 : decode b_M_takes 116 = .ok (.iload_n 2, 1) := by decide +kernel
theorem d_M_takes_117 : decode b_M_takes 117 = .ok (.iload_n 3, 1) := by decide +kernel
theorem d_M_takes_118 : decode b_M_takes 118 = .ok (.invokevirtual 226, 3) := by decide +kernel
theorem d_M_takes_121 : decode b_M_takes 121 = .ok (.ireturn, 1) := by decide +kernel
theorem d_M_takes_122 : decode b_M_takes 122 = .ok (.aload_n 0, 1) := by decide +kernel
theorem d_M_takes_123 : decode b_M_takes 123 = .ok (.getfield 186, 3) := by decide +kernel
theorem d_M_takes_126 : decode b_M_takes 126 = .ok (.iconst 1, 1) := by decide +kernel
theorem d_M_takes_127 : decode b_M_takes 127 = .ok (.isub, 1) := by decide +kernel
theorem d_M_takes_128 : decode b_M_takes 128 = .ok (.istore 5, 2) := by decide +kernel
theorem d_M_takes_130 : decode b_M_takes 130 = .ok (.iload 4, 2) := by decide +kernel
theorem d_M_takes_132 : decode b_M_takes 132 = .ok (.bipush 10, 2) := by decide +kernel
theorem d_M_takes_134 : decode b_M_takes 134 = .ok (.if_icmp .ne 42, 3) := by decide +kernel
theorem d_M_takes_137 : decode b_M_takes 137 = .ok (.aload_n 0, 1) := by decide +kernel
theorem d_M_takes_138 : decode b_M_takes 138 = .ok (.getfield 81, 3) := by decide +kernel
theorem d_M_takes_141 : decode b_M_takes 141 = .ok (.iload 5, 2) := by decide +kernel
theorem d_M_takes_143 : decode b_M_takes 143 = .ok (.aload_n 0, 1) := by decide +kernel
theorem d_M_takes_144 : decode b_M_takes 144 = .ok (.getfield 56, 3) := by decide +kernel
theorem d_M_takes_147 : decode b_M_takes 147 = .ok (.iload_n 3, 1) := by decide +kernel
theorem d_M_takes_148 : decode b_M_takes 148 = .ok (.iaload, 1) := by decide +kernel
theorem d_M_takes_149 : decode b_M_takes 149 = .ok (.sipush 10000, 3) := by decide +kernel
theorem d_M_takes_152 : decode b_M_takes 152 = .ok (.isub, 1) := by decide +kernel
theorem d_M_takes_153 : decode b_M_takes 153 = .ok (.iastore, 1) := by decide +kernel
theorem d_M_takes_154 : decode b_M_takes 154 = .ok (.aload_n 0, 1) := by decide +kernel
theorem d_M_takes_155 : decode b_M_takes 155 = .ok (.getfield 56, 3) := by decide +kernel
theorem d_M_takes_158 : decode b_M_takes 158 = .ok (.iload_n 3, 1) := by decide +kernel
theorem d_M_takes_159 : decode b_M_takes 159 = .ok (.iaload, 1) := by decide +kernel
theorem d_M_takes_160 : decode b_M_takes 160 = .ok (.sipush 10000, 3) := by decide +kernel
theorem d_M_takes_163 : decode b_M_takes 163 = .ok (.if_icmp .ge 79, 3) := by decide +kernel
theorem d_M_takes_166 : decode b_M_takes 166 = .ok (.aload_n 0, 1) := by decide +kernel
theorem d_M_takes_167 : decode b_M_takes 167 = .ok (.bipush 8, 2) := by decide +kernel
theorem d_M_takes_169 : decode b_M_takes 169 = .ok (.iload_n 3, 1) := by decide +kernel
theorem d_M_takes_170 : decode b_M_takes 170 = .ok (.invokevirtual 205, 3) := by decide +kernel
theorem d_M_takes_173 : decode b_M_takes 173 = .ok (.goto 69, 3) := by decide +kernel
theorem d_M_takes_176 : decode b_M_takes 176 = .ok (.aload_n 0, 1) := by decide +kernel
theorem d_M_takes_177 : decode b_M_takes 177 = .ok (.aload_n 0, 1) := by decide +kernel
theorem d_M_takes_178 : decode b_M_takes 178 = .ok (.getfield 32, 3) := by decide +kernel
theorem d_M_takes_181 : decode b_M_takes 181 = .ok (.bipush 8, 2) := by decide +kernel
theorem d_M_takes_183 : decode b_M_takes 183 = .ok (.iload_n 1, 1) := by decide +kernel
theorem d_M_takes_184 : decode b_M_takes 184 = .ok (.imul, 1) := by decide +kernel
theorem d_M_takes_185 : decode b_M_takes 185 = .ok (.iload_n 2, 1) := by decide +kernel
theorem d_M_takes_186 : decode b_M_takes 186 = .ok (.iadd, 1) := by decide +kernel
theorem d_M_takes_187 : decode b_M_takes 187 = .ok (.iaload, 1) := by decide +kernel
theorem d_M_takes_188 : decode b_M_takes 188 = .ok (.aload_n 0, 1) := by decide +kernel
theorem d_M_takes_189 : decode b_M_takes 189 = .ok (.getfield 56, 3) := by decide +kernel
theorem d_M_takes_192 : decode b_M_takes 192 = .ok (.iload_n 3, 1) := by decide +kernel
theorem d_M_takes_193 : decode b_M_takes 193 = .ok (.iaload, 1) := by decide +kernel
theorem d_M_takes_194 : decode b_M_takes 194 = .ok (.invokevirtual 150, 3) := by decide +kernel
theorem d_M_takes_197 : decode b_M_takes 197 = .ok (.istore 6, 2) := by decide +kernel
theorem d_M_takes_199 : decode b_M_takes 199 = .ok (.aload_n 0, 1) := by decide +kernel
theorem d_M_takes_200 : decode b_M_takes 200 = .ok (.getfield 81, 3) := by decide +kernel
theorem d_M_takes_203 : decode b_M_takes 203 = .ok (.iload 5, 2) := by decide +kernel
theorem d_M_takes_205 : decode b_M_takes 205 = .ok (.iload 6, 2) := by decide +kernel
theorem d_M_takes_207 : decode b_M_takes 207 = .ok (.aload_n 0, 1) := by decide +kernel
theorem d_M_takes_208 : decode b_M_takes 208 = .ok (.getfield 147, 3) := by decide +kernel
theorem d_M_takes_211 : decode b_M_takes 211 = .ok (.if_icmp .ge 13, 3) := by decide +kernel
theorem d_M_takes_214 : decode b_M_takes 214 = .ok (.aload_n 0, 1) := by decide +kernel
theorem d_M_takes_215 : decode b_M_takes 215 = .ok (.getfield 50, 3) := by decide +kernel
theorem d_M_takes_218 : decode b_M_takes 218 = .ok (.iload 6, 2) := by decide +kernel
theorem d_M_takes_220 : decode b_M_takes 220 = .ok (.iaload, 1) := by decide +kernel
theorem d_M_takes_221 : decode b_M_takes 221 = .ok (.goto 4, 3) := by decide +kernel
theorem d_M_takes_224 : decode b_M_takes 224 = .ok (.iconst 0, 1) := by decide +kernel
theorem d_M_takes_225 : decode b_M_takes 225 = .ok (.iastore, 1) := by decide +kernel
theorem d_M_takes_226 : decode b_M_takes 226 = .ok (.iload 6, 2) := by decide +kernel
theorem d_M_takes_228 : decode b_M_takes 228 = .ok (.aload_n 0, 1) := by decide +kernel
theorem d_M_takes_229 : decode b_M_takes 229 = .ok (.getfield 147, 3) := by decide +kernel
theorem d_M_takes_232 : decode b_M_takes 232 = .ok (.if_icmp .ne 10, 3) := by decide +kernel
theorem d_M_takes_235 : decode b_M_takes 235 = .ok (.aload_n 0, 1) := by decide +kernel
theorem d_M_takes_236 : decode b_M_takes 236 = .ok (.bipush 9, 2) := by decide +kernel
theorem d_M_takes_238 : decode b_M_takes 238 = .ok (.iload_n 3, 1) := by decide +kernel
theorem d_M_takes_239 : decode b_M_takes 239 = .ok (.invokevirtual 205, 3) := by decide +kernel
theorem d_M_takes_242 : decode b_M_takes 242 = .ok (.iload_n 3, 1) := by decide +kernel
theorem d_M_takes_243 : decode b_M_takes 243 = .ok (.iconst 1, 1) := by decide +kernel
theorem d_M_takes_244 : decode b_M_takes 244 = .ok (.iadd, 1) := by decide +kernel
theorem d_M_takes_245 : decode b_M_takes 245 = .ok (.ireturn, 1) := by decide +kernel
theorem d_M_goesWith_0 : decode b_M_goesWith 0 = .ok (.iload_n 1, 1) := by decide +kernel
theorem d_M_goesWith_1 : decode b_M_goesWith 1 = .ok (.iconst 2, 1) := by decide +kernel
theorem d_M_goesWith_2 : decode b_M_goesWith 2 = .ok (.if_icmp .ne 27, 3) := by decide +kernel
theorem d_M_goesWith_5 : decode b_M_goesWith 5 = .ok (.aload_n 0, 1) := by decide +kernel
theorem d_M_goesWith_6 : decode b_M_goesWith 6 = .ok (.iload_n 2, 1) := by decide +kernel
theorem d_M_goesWith_7 : decode b_M_goesWith 7 = .ok (.invokevirtual 174, 3) := by decide +kernel
theorem d_M_goesWith_10 : decode b_M_goesWith 10 = .ok (.ifCond .eq 15, 3) := by decide +kernel
theorem d_M_goesWith_13 : decode b_M_goesWith 13 = .ok (.aload_n 0, 1) := by decide +kernel
theorem d_M_goesWith_14 : decode b_M_goesWith 14 = .ok (.iload_n 2, 1) := by decide +kernel
theorem d_M_goesWith_15 : decode b_M_goesWith 15 = .ok (.invokevirtual 235, 3) := by decide +kernel
theorem d_M_goesWith_18 : decode b_M_goesWith 18 = .ok (.ifCond .ne 7, 3) := by decide +kernel
theorem d_M_goesWith_21 : decode b_M_goesWith 21 = .ok (.iconst 1, 1) := by decide +kernel
theorem d_M_goesWith_22 : decode b_M_goesWith 22 = .ok (.goto 70, 3) := by decide +kernel
theorem d_M_goesWith_25 : decode b_M_goesWith 25 = .ok (.iconst 0, 1) := by decide +kernel
theorem d_M_goesWith_26 : decode b_M_goesWith 26 = .ok (.goto 66, 3) := by decide +kernel
theorem d_M_goesWith_29 : decode b_M_goesWith 29 = .ok (.iload_n 1, 1) := by decide +kernel
theorem d_M_goesWith_30 : decode b_M_goesWith 30 = .ok (.iconst 3, 1) := by decide +kernel
theorem d_M_goesWith_31 : decode b_M_goesWith 31 = .ok (.if_icmp .ne 27, 3) := by decide +kernel
theorem d_M_goesWith_34 : decode b_M_goesWith 34 = .ok (.aload_n 0, 1) := by decide +kernel
theorem d_M_goesWith_35 : decode b_M_goesWith 35 = .ok (.iload_n 2, 1) := by decide +kernel
theorem d_M_goesWith_36 : decode b_M_goesWith 36 = .ok (.invokevirtual 160, 3) := by decide +kernel
theorem d_M_goesWith_39 : decode b_M_goesWith 39 = .ok (.ifCond .eq 15, 3) := by decide +kernel
theorem d_M_goesWith_42 : decode b_M_goesWith 42 = .ok (.aload_n 0, 1) := by decide +kernel
theorem d_M_goesWith_43 : decode b_M_goesWith 43 = .ok (.iload_n 2, 1) := by decide +kernel
theorem d_M_goesWith_44 : decode b_M_goesWith 44 = .ok (.invokevirtual 235, 3) := by decide +kernel
theorem d_M_goesWith_47 : decode b_M_goesWith 47 = .ok (.ifCond .ne 7, 3) := by decide +kernel
theorem d_M_goesWith_50 : decode b_M_goesWith 50 = .ok (.iconst 1, 1) := by decide +kernel
theorem d_M_goesWith_51 : decode b_M_goesWith 51 = .ok (.goto 41, 3) := by decide +kernel
theorem d_M_goesWith_54 : decode b_M_goesWith 54 = .ok (.iconst 0, 1) := by decide +kernel
theorem d_M_goesWith_55 : decode b_M_goesWith 55 = .ok (.goto 37, 3) := by decide +kernel
theorem d_M_goesWith_58 : decode b_M_goesWith 58 = .ok (.iload_n 1, 1) := by decide +kernel
theorem d_M_goesWith_59 : decode b_M_goesWith 59 = .ok (.iconst 4, 1) := by decide +kernel
theorem d_M_goesWith_60 : decode b_M_goesWith 60 = .ok (.if_icmp .ne 11, 3) := by decide +kernel
theorem d_M_goesWith_63 : decode b_M_goesWith 63 = .ok (.aload_n 0, 1) := by decide +kernel
theorem d_M_goesWith_64 : decode b_M_goesWith 64 = .ok (.iload_n 2, 1) := by decide +kernel
theorem d_M_goesWith_65 : decode b_M_goesWith 65 = .ok (.invokevirtual 232, 3) := by decide +kernel
theorem d_M_goesWith_68 : decode b_M_goesWith 68 = .ok (.goto 24, 3) := by decide +kernel
theorem d_M_goesWith_71 : decode b_M_goesWith 71 = .ok (.aload_n 0, 1) := by decide +kernel
theorem d_M_goesWith_72 : decode b_M_goesWith 72 = .ok (.iload_n 2, 1) := by decide +kernel
theorem d_M_goesWith_73 : decode b_M_goesWith 73 = .ok (.invokevirtual 235, 3) := by decide +kernel
theorem d_M_goesWith_76 : decode b_M_goesWith 76 = .ok (.ifCond .eq 15, 3) := by decide +kernel
theorem d_M_goesWith_79 : decode b_M_goesWith 79 = .ok (.aload_n 0, 1) := by decide +kernel
theorem d_M_goesWith_80 : decode b_M_goesWith 80 = .ok (.iload_n 2, 1) := by decide +kernel
theorem d_M_goesWith_81 : decode b_M_goesWith 81 = .ok (.invokevirtual 174, 3) := by decide +kernel
theorem d_M_goesWith_84 : decode b_M_goesWith 84 = .ok (.ifCond .eq 7, 3) := by decide +kernel
theorem d_M_goesWith_87 : decode b_M_goesWith 87 = .ok (.iconst 1, 1) := by decide +kernel
theorem d_M_goesWith_88 : decode b_M_goesWith 88 = .ok (.goto 4, 3) := by decide +kernel
theorem d_M_goesWith_91 : decode b_M_goesWith 91 = .ok (.iconst 0, 1) := by decide +kernel
theorem d_M_goesWith_92 : decode b_M_goesWith 92 = .ok (.ireturn, 1) := by decide +kernel
theorem d_M_isFilled_0 : decode b_M_isFilled 0 = .ok (.iload_n 2, 1) := by decide +kernel
theorem d_M_isFilled_1 : decode b_M_isFilled 1 = .ok (.istore_n 3, 1) := by decide +kernel
theorem d_M_isFilled_2 : decode b_M_isFilled 2 = .ok (.iload_n 3, 1) := by decide +kernel
theorem d_M_isFilled_3 : decode b_M_isFilled 3 = .ok (.aload_n 0, 1) := by decide +kernel
theorem d_M_isFilled_4 : decode b_M_isFilled 4 = .ok (.getfield 26, 3) := by decide +kernel
theorem d_M_isFilled_7 : decode b_M_isFilled 7 = .ok (.iload_n 1, 1) := by decide +kernel
theorem d_M_isFilled_8 : decode b_M_isFilled 8 = .ok (.iaload, 1) := by decide +kernel
theorem d_M_isFilled_9 : decode b_M_isFilled 9 = .ok (.if_icmp .ge 208, 3) := by decide +kernel
theorem d_M_isFilled_12 : decode b_M_isFilled 12 = .ok (.aload_n 0, 1) := by decide +kernel
theorem d_M_isFilled_13 : decode b_M_isFilled 13 = .ok (.getfield 29, 3) := by decide +kernel
theorem d_M_isFilled_16 : decode b_M_isFilled 16 = .ok (.bipush 8, 2) := by decide +kernel
theorem d_M_isFilled_18 : decode b_M_isFilled 18 = .ok (.iload_n 1, 1) := by decide +kernel
theorem d_M_isFilled_19 : decode b_M_isFilled 19 = .ok (.imul, 1) := by decide +kernel
theorem d_M_isFilled_20 : decode b_M_isFilled 20 = .ok (.iload_n 3, 1) := by decide +kernel
theorem d_M_isFilled_21 : decode b_M_isFilled 21 = .ok (.iadd, 1) := by decide +kernel
theorem d_M_isFilled_22 : decode b_M_isFilled 22 = .ok (.iaload, 1) := by decide +kernel
theorem d_M_isFilled_23 : decode b_M_isFilled 23 = .ok (.istore 4, 2) := by decide +kernel
theorem d_M_isFilled_25 : decode b_M_isFilled 25 = .ok (.iload 4, 2) := by decide +kernel
theorem d_M_isFilled_27 : decode b_M_isFilled 27 = .ok (.ifCond .ne 26, 3) := by decide +kernel
theorem d_M_isFilled_30 : decode b_M_isFilled 30 = .ok (.aload_n 0, 1) := by decide +kernel
theorem d_M_isFilled_31 : decode b_M_isFilled 31 = .ok (.getfield 62, 3) := by decide +kernel
theorem d_M_isFilled_34 : decode b_M_isFilled 34 = .ok (.aload_n 0, 1) := by decide +kernel
theorem d_M_isFilled_35 : decode b_M_isFilled 35 = .ok (.getfield 192, 3) := by decide +kernel
theorem d_M_isFilled_38 : decode b_M_isFilled 38 = .ok (.aload_n 0, 1) := by decide +kernel
theorem d_M_isFilled_39 : decode b_M_isFilled 39 = .ok (.getfield 32, 3) := by decide +kernel
theorem d_M_isFilled_42 : decode b_M_isFilled 42 = .ok (.bipush 8, 2) := by decide +kernel
theorem d_M_isFilled_44 : decode b_M_isFilled 44 = .ok (.iload_n 1, 1) := by decide +kernel
theorem d_M_isFilled_45 : decode b_M_isFilled 45 = .ok (.imul, 1) := by decide +kernel
theorem d_M_isFilled_46 : decode b_M_isFilled 46 = .ok (.iload_n 3, 1) := by decide +kernel
theorem d_M_isFilled_47 : decode b_M_isFilled 47 = .ok (.iadd, 1) := by decide +kernel
theorem d_M_isFilled_48 : decode b_M_isFilled 48 = .ok (.iaload, 1) := by decide +kernel
theorem d_M_isFilled_49 : decode b_M_isFilled 49 = .ok (.iastore, 1) := by decide +kernel
theorem d_M_isFilled_50 : decode b_M_isFilled 50 = .ok (.goto 147, 3) := by decide +kernel
theorem d_M_isFilled_53 : decode b_M_isFilled 53 = .ok (.lconst 0, 1) := by decide +kernel
theorem d_M_isFilled_54 : decode b_M_isFilled 54 = .ok (.lstore 5, 2) := by decide +kernel
theorem d_M_isFilled_56 : decode b_M_isFilled 56 = .ok (.iconst 0, 1) := by decide +kernel
theorem d_M_isFilled_57 : decode b_M_isFilled 57 = .ok (.istore 7, 2) := by decide +kernel
theorem d_M_isFilled_59 : decode b_M_isFilled 59 = .ok (.iload 7, 2) := by decide +kernel
theorem d_M_isFilled_61 : decode b_M_isFilled 61 = .ok (.aload_n 0, 1) := by decide +kernel
theorem d_M_isFilled_62 : decode b_M_isFilled 62 = .ok (.getfield 186, 3) := by decide +kernel
theorem d_M_isFilled_65 : decode b_M_isFilled 65 = .ok (.if_icmp .ge 21, 3) := by decide +kernel
theorem d_M_isFilled_68 : decode b_M_isFilled 68 = .ok (.lload 5, 2) := by decide +kernel
theorem d_M_isFilled_70 : decode b_M_isFilled 70 = .ok (.aload_n 0, 1) := by decide +kernel
theorem d_M_isFilled_71 : decode b_M_isFilled 71 = .ok (.getfield 71, 3) := by decide +kernel
theorem d_M_isFilled_74 : decode b_M_isFilled 74 = .ok (.iload 7, 2) := by decide +kernel
theorem d_M_isFilled_76 : decode b_M_isFilled 76 = .ok (.laload, 1) := by decide +kernel
theorem d_M_isFilled_77 : decode b_M_isFilled 77 = .ok (.lor, 1) := by decide +kernel
theorem d_M_isFilled_78 : decode b_M_isFilled 78 = .ok (.lstore 5, 2) := by decide +kernel
theorem d_M_isFilled_80 : decode b_M_isFilled 80 = .ok (.iinc 7 1, 3) := by decide +kernel
theorem d_M_isFilled_83 : decode b_M_isFilled 83 = .ok (.goto (-24), 3) := by decide +kernel
theorem d_M_isFilled_86 : decode b_M_isFilled 86 = .ok (.lconst 0, 1) := by decide +kernel
theorem d_M_isFilled_87 : decode b_M_isFilled 87 = .ok (.lstore 7, 2) := by decide +kernel
theorem d_M_isFilled_89 : decode b_M_isFilled 89 = .ok (.iconst 0, 1) := by decide +kernel
theorem d_M_isFilled_90 : decode b_M_isFilled 90 = .ok (.istore 9, 2) := by decide +kernel
theorem d_M_isFilled_92 : decode b_M_isFilled 92 = .ok (.iload 9, 2) := by decide +kernel
theorem d_M_isFilled_94 : decode b_M_isFilled 94 = .ok (.aload_n 0, 1) := by decide +kernel
theorem d_M_isFilled_95 : decode b_M_isFilled 95 = .ok (.getfield 140, 3) := by decide +kernel
theorem d_M_isFilled_98 : decode b_M_isFilled 98 = .ok (.if_icmp .ge 44, 3) := by decide +kernel
theorem d_M_isFilled_101 : decode b_M_isFilled 101 = .ok (.aload_n 0, 1) := by decide +kernel
theorem d_M_isFilled_102 : decode b_M_isFilled 102 = .ok (.iload 4, 2) := by decide +kernel
theorem d_M_isFilled_104 : decode b_M_isFilled 104 = .ok (.iload 9, 2) := by decide +kernel
theorem d_M_isFilled_106 : decode b_M_isFilled 106 = .ok (.invokevirtual 259, 3) := by decide +kernel
theorem d_M_isFilled_109 : decode b_M_isFilled 109 = .ok (.ifCond .eq 23, 3) := by decide +kernel
theorem d_M_isFilled_112 : decode b_M_isFilled 112 = .ok (.lload 5, 2) := by decide +kernel
theorem d_M_isFilled_114 : decode b_M_isFilled 114 = .ok (.iload 9, 2) := by decide +kernel
theorem d_M_isFilled_116 : decode b_M_isFilled 116 = .ok (.invokestatic 163, 3) := by decide +kernel
theorem d_M_isFilled_119 : decode b_M_isFilled 119 = .ok (.ifCond .ne 13, 3) := by decide +kernel
theorem d_M_isFilled_122 : decode b_M_isFilled 122 = .ok (.lload 7, 2) := by decide +kernel
theorem d_M_isFilled_124 : decode b_M_isFilled 124 = .ok (.lconst 1, 1) := by decide +kernel
theorem d_M_isFilled_125 : decode b_M_isFilled 125 = .ok (.iload 9, 2) := by decide +kernel
theorem d_M_isFilled_127 : decode b_M_isFilled 127 = .ok (.lshl, 1) := by decide +kernel
theorem d_M_isFilled_128 : decode b_M_isFilled 128 = .ok (.lor, 1) := by decide +kernel
theorem d_M_isFilled_129 : decode b_M_isFilled 129 = .ok (.goto 5, 3) := by decide +kernel
theorem d_M_isFilled_132 : decode b_M_isFilled 132 = .ok (.lload 7, 2) := by decide +kernel
theorem d_M_isFilled_134 : decode b_M_isFilled 134 = .ok (.lstore 7, 2) := by decide +kernel
theorem d_M_isFilled_136 : decode b_M_isFilled 136 = .ok (.iinc 9 1, 3) := by decide +kernel
theorem d_M_isFilled_139 : decode b_M_isFilled 139 = .ok (.goto (-47), 3) := by decide +kernel
theorem d_M_isFilled_142 : decode b_M_isFilled 142 = .ok (.aload_n 0, 1) := by decide +kernel
theorem d_M_isFilled_143 : decode b_M_isFilled 143 = .ok (.lload 7, 2) := by decide +kernel
theorem d_M_isFilled_145 : decode b_M_isFilled 145 = .ok (.invokevirtual 238, 3) := by decide +kernel
theorem d_M_isFilled_148 : decode b_M_isFilled 148 = .ok (.iconst 1, 1) := by decide +kernel
theorem d_M_isFilled_149 : decode b_M_isFilled 149 = .ok (.if_icmp .eq 5, 3) := by decide +kernel
theorem d_M_isFilled_152 : decode b_M_isFilled 152 = .ok (.iconst 0, 1) := by decide +kernel
theorem d_M_isFilled_153 : decode b_M_isFilled 153 = .ok (.ireturn, 1) := by decide +kernel
theorem d_M_isFilled_154 : decode b_M_isFilled 154 = .ok (.aload_n 0, 1) := by decide +kernel
theorem d_M_isFilled_155 : decode b_M_isFilled 155 = .ok (.iload 4, 2) := by decide +kernel
theorem d_M_isFilled_157 : decode b_M_isFilled 157 = .ok (.aload_n 0, 1) := by decide +kernel
theorem d_M_isFilled_158 : decode b_M_isFilled 158 = .ok (.getfield 167, 3) := by decide +kernel
theorem d_M_isFilled_161 : decode b_M_isFilled 161 = .ok (.invokevirtual 214, 3) := by decide +kernel
theorem d_M_isFilled_164 : decode b_M_isFilled 164 = .ok (.aload_n 0, 1) := by decide +kernel
theorem d_M_isFilled_165 : decode b_M_isFilled 165 = .ok (.getfield 71, 3) := by decide +kernel
theorem d_M_isFilled_168 : decode b_M_isFilled 168 = .ok (.aload_n 0, 1) := by decide +kernel
theorem d_M_isFilled_169 : decode b_M_isFilled 169 = .ok (.getfield 186, 3) := by decide +kernel
theorem d_M_isFilled_172 : decode b_M_isFilled 172 = .ok (.iconst 1, 1) := by decide +kernel
theorem d_M_isFilled_173 : decode b_M_isFilled 173 = .ok (.isub, 1) := by decide +kernel
theorem d_M_isFilled_174 : decode b_M_isFilled 174 = .ok (.lload 7, 2) := by decide +kernel
theorem d_M_isFilled_176 : decode b_M_isFilled 176 = .ok (.lastore, 1) := by decide +kernel
theorem d_M_isFilled_177 : decode b_M_isFilled 177 = .ok (.aload_n 0, 1) := by decide +kernel
theorem d_M_isFilled_178 : decode b_M_isFilled 178 = .ok (.getfield 62, 3) := by decide +kernel
theorem d_M_isFilled_181 : decode b_M_isFilled 181 = .ok (.aload_n 0, 1) := by decide +kernel
theorem d_M_isFilled_182 : decode b_M_isFilled 182 = .ok (.getfield 192, 3) := by decide +kernel
theorem d_M_isFilled_185 : decode b_M_isFilled 185 = .ok (.sipush 20000, 3) := by decide +kernel
theorem d_M_isFilled_188 : decode b_M_isFilled 188 = .ok (.aload_n 0, 1) := by decide +kernel
theorem d_M_isFilled_189 : decode b_M_isFilled 189 = .ok (.lload 7, 2) := by decide +kernel
theorem d_M_isFilled_191 : decode b_M_isFilled 191 = .ok (.iconst 0, 1) := by decide +kernel
theorem d_M_isFilled_192 : decode b_M_isFilled 192 = .ok (.invokevirtual 262, 3) := by decide +kernel
theorem d_M_isFilled_195 : decode b_M_isFilled 195 = .ok (.iadd, 1) := by decide +kernel
theorem d_M_isFilled_196 : decode b_M_isFilled 196 = .ok (.iastore, 1) := by decide +kernel
theorem d_M_isFilled_197 : decode b_M_isFilled 197 = .ok (.aload_n 0, 1) := by decide +kernel
theorem d_M_isFilled_198 : decode b_M_isFilled 198 = .ok (.dup, 1) := by decide +kernel
theorem d_M_isFilled_199 : decode b_M_isFilled 199 = .ok (.getfield 192, 3) := by decide +kernel
theorem d_M_isFilled_202 : decode b_M_isFilled 202 = .ok (.iconst 1, 1) := by decide +kernel
theorem d_M_isFilled_203 : decode b_M_isFilled 203 = .ok (.iadd, 1) := by decide +kernel
theorem d_M_isFilled_204 : decode b_M_isFilled 204 = .ok (.putfield 192, 3) := by decide +kernel
theorem d_M_isFilled_207 : decode b_M_isFilled 207 = .ok (.aload_n 0, 1) := by decide +kernel
theorem d_M_isFilled_208 : decode b_M_isFilled 208 = .ok (.iload_n 1, 1) := by decide +kernel
theorem d_M_isFilled_209 : decode b_M_isFilled 209 = .ok (.iload_n 3, 1) := by decide +kernel
theorem d_M_isFilled_210 : decode b_M_isFilled 210 = .ok (.invokevirtual 189, 3) := by decide +kernel
theorem d_M_isFilled_213 : decode b_M_isFilled 213 = .ok (.istore_n 3, 1) := by decide +kernel
theorem d_M_isFilled_214 : decode b_M_isFilled 214 = .ok (.goto (-212), 3) := by decide +kernel
theorem d_M_isFilled_217 : decode b_M_isFilled 217 = .ok (.iconst 1, 1) := by decide +kernel
theorem d_M_isFilled_218 : decode b_M_isFilled 218 = .ok (.ireturn, 1) := by decide +kernel
theorem d_M_ends_0 : decode b_M_ends 0 = .ok (.iconst 0, 1) := by decide +kernel
theorem d_M_ends_1 : decode b_M_ends 1 = .ok (.istore_n 3, 1) := by decide +kernel
theorem d_M_ends_2 : decode b_M_ends 2 = .ok (.iconst 1, 1) := by decide +kernel
theorem d_M_ends_3 : decode b_M_ends 3 = .ok (.istore 4, 2) := by decide +kernel
theorem d_M_ends_5 : decode b_M_ends 5 = .ok (.iload_n 2, 1) := by decide +kernel
theorem d_M_ends_6 : decode b_M_ends 6 = .ok (.istore 5, 2) := by decide +kernel
theorem d_M_ends_8 : decode b_M_ends 8 = .ok (.iload 5, 2) := by decide +kernel
theorem d_M_ends_10 : decode b_M_ends 10 = .ok (.aload_n 0, 1) := by decide +kernel
theorem d_M_ends_11 : decode b_M_ends 11 = .ok (.getfield 26, 3) := by decide +kernel
theorem d_M_ends_14 : decode b_M_ends 14 = .ok (.iload_n 1, 1) := by decide +kernel
theorem d_M_ends_15 : decode b_M_ends 15 = .ok (.iaload, 1) := by decide +kernel
theorem d_M_ends_16 : decode b_M_ends 16 = .ok (.if_icmp .ge 57, 3) := by decide +kernel
theorem d_M_ends_19 : decode b_M_ends 19 = .ok (.aload_n 0, 1) := by decide +kernel
theorem d_M_ends_20 : decode b_M_ends 20 = .ok (.getfield 29, 3) := by decide +kernel
theorem d_M_ends_23 : decode b_M_ends 23 = .ok (.bipush 8, 2) := by decide +kernel
theorem d_M_ends_25 : decode b_M_ends 25 = .ok (.iload_n 1, 1) := by decide +kernel
theorem d_M_ends_26 : decode b_M_ends 26 = .ok (.imul, 1) := by decide +kernel
theorem d_M_ends_27 : decode b_M_ends 27 = .ok (.iload 5, 2) := by decide +kernel
theorem d_M_ends_29 : decode b_M_ends 29 = .ok (.iadd, 1) := by decide +kernel
theorem d_M_ends_30 : decode b_M_ends 30 = .ok (.iaload, 1) := by decide +kernel
theorem d_M_ends_31 : decode b_M_ends 31 = .ok (.istore 6, 2) := by decide +kernel
theorem d_M_ends_33 : decode b_M_ends 33 = .ok (.iload_n 3, 1) := by decide +kernel
theorem d_M_ends_34 : decode b_M_ends 34 = .ok (.iload 6, 2) := by decide +kernel
theorem d_M_ends_36 : decode b_M_ends 36 = .ok (.invokestatic 137, 3) := by decide +kernel
theorem d_M_ends_39 : decode b_M_ends 39 = .ok (.ifCond .eq 7, 3) := by decide +kernel
theorem d_M_ends_42 : decode b_M_ends 42 = .ok (.iconst 1, 1) := by decide +kernel
theorem d_M_ends_43 : decode b_M_ends 43 = .ok (.goto 4, 3) := by decide +kernel
theorem d_M_ends_46 : decode b_M_ends 46 = .ok (.iconst 0, 1) := by decide +kernel
theorem d_M_ends_47 : decode b_M_ends 47 = .ok (.iadd, 1) := by decide +kernel
theorem d_M_ends_48 : decode b_M_ends 48 = .ok (.istore_n 3, 1) := by decide +kernel
theorem d_M_ends_49 : decode b_M_ends 49 = .ok (.iload 4, 2) := by decide +kernel
theorem d_M_ends_51 : decode b_M_ends 51 = .ok (.ifCond .eq 13, 3) := by decide +kernel
theorem d_M_ends_54 : decode b_M_ends 54 = .ok (.iload 6, 2) := by decide +kernel
theorem d_M_ends_56 : decode b_M_ends 56 = .ok (.iconst 5, 1) := by decide +kernel
theorem d_M_ends_57 : decode b_M_ends 57 = .ok (.if_icmp .gt 7, 3) := by decide +kernel
theorem d_M_ends_60 : decode b_M_ends 60 = .ok (.iconst 1, 1) := by decide +kernel
theorem d_M_ends_61 : decode b_M_ends 61 = .ok (.goto 4, 3) := by decide +kernel
theorem d_M_ends_64 : decode b_M_ends 64 = .ok (.iconst 0, 1) := by decide +kernel
theorem d_M_ends_65 : decode b_M_ends 65 = .ok (.istore 4, 2) := by decide +kernel
theorem d_M_ends_67 : decode b_M_ends 67 = .ok (.iinc 5 1, 3) := by decide +kernel
theorem d_M_ends_70 : decode b_M_ends 70 = .ok (.goto (-62), 3) := by decide +kernel
theorem d_M_ends_73 : decode b_M_ends 73 = .ok (.iload_n 3, 1) := by decide +kernel
theorem d_M_ends_74 : decode b_M_ends 74 = .ok (.ifCond .ne 13, 3) := by decide +kernel
theorem d_M_ends_77 : decode b_M_ends 77 = .ok (.aload_n 0, 1) := by decide +kernel
theorem d_M_ends_78 : decode b_M_ends 78 = .ok (.iconst 5, 1) := by decide +kernel
theorem d_M_ends_79 : decode b_M_ends 79 = .ok (.aload_n 0, 1) := by decide +kernel
theorem d_M_ends_80 : decode b_M_ends 80 = .ok (.getfield 167, 3) := by decide +kernel
theorem d_M_ends_83 : decode b_M_ends 83 = .ok (.invokevirtual 205, 3) := by decide +kernel
theorem d_M_ends_86 : decode b_M_ends 86 = .ok (.return_, 1) := by decide +kernel
theorem d_M_ends_87 : decode b_M_ends 87 = .ok (.iload 4, 2) := by decide +kernel
theorem d_M_ends_89 : decode b_M_ends 89 = .ok (.ifCond .eq 12, 3) := by decide +kernel
theorem d_M_ends_92 : decode b_M_ends 92 = .ok (.aload_n 0, 1) := by decide +kernel
theorem d_M_ends_93 : decode b_M_ends 93 = .ok (.iload_n 1, 1) := by decide +kernel
theorem d_M_ends_94 : decode b_M_ends 94 = .ok (.iload_n 2, 1) := by decide +kernel
theorem d_M_ends_95 : decode b_M_ends 95 = .ok (.invokevirtual 253, 3) := by decide +kernel
theorem d_M_ends_98 : decode b_M_ends 98 = .ok (.ifCond .ne 107, 3) := by decide +kernel
theorem d_M_ends_101 : decode b_M_ends 101 = .ok (.aload_n 0, 1) := by decide +kernel
theorem d_M_ends_102 : decode b_M_ends 102 = .ok (.bipush 16, 2) := by decide +kernel
theorem d_M_ends_104 : decode b_M_ends 104 = .ok (.aload_n 0, 1) := by decide +kernel
theorem d_M_ends_105 : decode b_M_ends 105 = .ok (.getfield 167, 3) := by decide +kernel
theorem d_M_ends_108 : decode b_M_ends 108 = .ok (.invokevirtual 205, 3) := by decide +kernel
theorem d_M_ends_111 : decode b_M_ends 111 = .ok (.aload_n 0, 1) := by decide +kernel
theorem d_M_ends_112 : decode b_M_ends 112 = .ok (.iconst 0, 1) := by decide +kernel
theorem d_M_ends_113 : decode b_M_ends 113 = .ok (.putfield 192, 3) := by decide +kernel
theorem d_M_ends_116 : decode b_M_ends 116 = .ok (.iload_n 2, 1) := by decide +kernel
theorem d_M_ends_117 : decode b_M_ends 117 = .ok (.istore 5, 2) := by decide +kernel
theorem d_M_ends_119 : decode b_M_ends 119 = .ok (.aload_n 0, 1) := by decide +kernel
theorem d_M_ends_120 : decode b_M_ends 120 = .ok (.getfield 29, 3) := by decide +kernel
theorem d_M_ends_123 : decode b_M_ends 123 = .ok (.bipush 8, 2) := by decide +kernel
theorem d_M_ends_125 : decode b_M_ends 125 = .ok (.iload_n 1, 1) := by decide +kernel
theorem d_M_ends_126 : decode b_M_ends 126 = .ok (.imul, 1) := by decide +kernel
theorem d_M_ends_127 : decode b_M_ends 127 = .ok (.iload 5, 2) := by decide +kernel
theorem d_M_ends_129 : decode b_M_ends 129 = .ok (.iadd, 1) := by decide +kernel
theorem d_M_ends_130 : decode b_M_ends 130 = .ok (.iaload, 1) := by decide +kernel
theorem d_M_ends_131 : decode b_M_ends 131 = .ok (.invokestatic 137, 3) := by decide +kernel
theorem d_M_ends_134 : decode b_M_ends 134 = .ok (.ifCond .ne 55, 3) := by decide +kernel
theorem d_M_ends_137 : decode b_M_ends 137 = .ok (.aload_n 0, 1) := by decide +kernel
theorem d_M_ends_138 : decode b_M_ends 138 = .ok (.getfield 29, 3) := by decide +kernel
theorem d_M_ends_141 : decode b_M_ends 141 = .ok (.bipush 8, 2) := by decide +kernel
theorem d_M_ends_143 : decode b_M_ends 143 = .ok (.iload_n 1, 1) := by decide +kernel
theorem d_M_ends_144 : decode b_M_ends 144 = .ok (.imul, 1) := by decide +kernel
theorem d_M_ends_145 : decode b_M_ends 145 = .ok (.iload 5, 2) := by decide +kernel
theorem d_M_ends_147 : decode b_M_ends 147 = .ok (.iadd, 1) := by decide +kernel
theorem d_M_ends_148 : decode b_M_ends 148 = .ok (.iaload, 1) := by decide +kernel
theorem d_M_ends_149 : decode b_M_ends 149 = .ok (.ifCond .ne 34, 3) := by decide +kernel
theorem d_M_ends_152 : decode b_M_ends 152 = .ok (.aload_n 0, 1) := by decide +kernel
theorem d_M_ends_153 : decode b_M_ends 153 = .ok (.getfield 59, 3) := by decide +kernel
theorem d_M_ends_156 : decode b_M_ends 156 = .ok (.aload_n 0, 1) := by decide +kernel
theorem d_M_ends_157 : decode b_M_ends 157 = .ok (.getfield 195, 3) := by decide +kernel
theorem d_M_ends_160 : decode b_M_ends 160 = .ok (.aload_n 0, 1) := by decide +kernel
theorem d_M_ends_161 : decode b_M_ends 161 = .ok (.getfield 32, 3) := by decide +kernel
theorem d_M_ends_164 : decode b_M_ends 164 = .ok (.bipush 8, 2) := by decide +kernel
theorem d_M_ends_166 : decode b_M_ends 166 = .ok (.iload_n 1, 1) := by decide +kernel
theorem d_M_ends_167 : decode b_M_ends 167 = .ok (.imul, 1) := by decide +kernel
theorem d_M_ends_168 : decode b_M_ends 168 = .ok (.iload 5, 2) := by decide +kernel
theorem d_M_ends_170 : decode b_M_ends 170 = .ok (.iadd, 1) := by decide +kernel
theorem d_M_ends_171 : decode b_M_ends 171 = .ok (.iaload, 1) := by decide +kernel
theorem d_M_ends_172 : decode b_M_ends 172 = .ok (.iastore, 1) := by decide +kernel
theorem d_M_ends_173 : decode b_M_ends 173 = .ok (.aload_n 0, 1) := by decide +kernel
theorem d_M_ends_174 : decode b_M_ends 174 = .ok (.dup, 1) := by decide +kernel
theorem d_M_ends_175 : decode b_M_ends 175 = .ok (.getfield 195, 3) := by decide +kernel
theorem d_M_ends_178 : decode b_M_ends 178 = .ok (.iconst 1, 1) := by decide +kernel
theorem d_M_ends_179 : decode b_M_ends 179 = .ok (.iadd, 1) := by decide +kernel
theorem d_M_ends_180 : decode b_M_ends 180 = .ok (.putfield 195, 3) := by decide +kernel
theorem d_M_ends_183 : decode b_M_ends 183 = .ok (.iinc 5 1, 3) := by decide +kernel
theorem d_M_ends_186 : decode b_M_ends 186 = .ok (.goto (-67), 3) := by decide +kernel
theorem d_M_ends_189 : decode b_M_ends 189 = .ok (.aload_n 0, 1) := by decide +kernel
theorem d_M_ends_190 : decode b_M_ends 190 = .ok (.aload_n 0, 1) := by decide +kernel
theorem d_M_ends_191 : decode b_M_ends 191 = .ok (.getfield 29, 3) := by decide +kernel
theorem d_M_ends_194 : decode b_M_ends 194 = .ok (.bipush 8, 2) := by decide +kernel
theorem d_M_ends_196 : decode b_M_ends 196 = .ok (.iload_n 1, 1) := by decide +kernel
theorem d_M_ends_197 : decode b_M_ends 197 = .ok (.imul, 1) := by decide +kernel
theorem d_M_ends_198 : decode b_M_ends 198 = .ok (.iload 5, 2) := by decide +kernel
theorem d_M_ends_200 : decode b_M_ends 200 = .ok (.iadd, 1) := by decide +kernel
theorem d_M_ends_201 : decode b_M_ends 201 = .ok (.iaload, 1) := by decide +kernel
theorem d_M_ends_202 : decode b_M_ends 202 = .ok (.putfield 256, 3) := by decide +kernel
theorem d_M_ends_205 : decode b_M_ends 205 = .ok (.return_, 1) := by decide +kernel
theorem d_M_tries_0 : decode b_M_tries 0 = .ok (.aload_n 0, 1) := by decide +kernel
theorem d_M_tries_1 : decode b_M_tries 1 = .ok (.iconst 0, 1) := by decide +kernel
theorem d_M_tries_2 : decode b_M_tries 2 = .ok (.putfield 180, 3) := by decide +kernel
theorem d_M_tries_5 : decode b_M_tries 5 = .ok (.aload_n 0, 1) := by decide +kernel
theorem d_M_tries_6 : decode b_M_tries 6 = .ok (.iconst (-1), 1) := by decide +kernel
theorem d_M_tries_7 : decode b_M_tries 7 = .ok (.putfield 183, 3) := by decide +kernel
theorem d_M_tries_10 : decode b_M_tries 10 = .ok (.aload_n 0, 1) := by decide +kernel
theorem d_M_tries_11 : decode b_M_tries 11 = .ok (.iconst 0, 1) := by decide +kernel
theorem d_M_tries_12 : decode b_M_tries 12 = .ok (.putfield 192, 3) := by decide +kernel
theorem d_M_tries_15 : decode b_M_tries 15 = .ok (.aload_n 0, 1) := by decide +kernel
theorem d_M_tries_16 : decode b_M_tries 16 = .ok (.iconst 0, 1) := by decide +kernel
theorem d_M_tries_17 : decode b_M_tries 17 = .ok (.putfield 195, 3) := by decide +kernel
theorem d_M_tries_20 : decode b_M_tries 20 = .ok (.aload_n 0, 1) := by decide +kernel
theorem d_M_tries_21 : decode b_M_tries 21 = .ok (.iconst 0, 1) := by decide +kernel
theorem d_M_tries_22 : decode b_M_tries 22 = .ok (.putfield 186, 3) := by decide +kernel
theorem d_M_tries_25 : decode b_M_tries 25 = .ok (.iconst 1, 1) := by decide +kernel
theorem d_M_tries_26 : decode b_M_tries 26 = .ok (.istore_n 2, 1) := by decide +kernel
theorem d_M_tries_27 : decode b_M_tries 27 = .ok (.iconst 0, 1) := by decide +kernel
theorem d_M_tries_28 : decode b_M_tries 28 = .ok (.istore_n 3, 1) := by decide +kernel
theorem d_M_tries_29 : decode b_M_tries 29 = .ok (.iconst 0, 1) := by decide +kernel
theorem d_M_tries_30 : decode b_M_tries 30 = .ok (.istore 4, 2) := by decide +kernel
theorem d_M_tries_32 : decode b_M_tries 32 = .ok (.iload_n 3, 1) := by decide +kernel
theorem d_M_tries_33 : decode b_M_tries 33 = .ok (.aload_n 0, 1) := by decide +kernel
theorem d_M_tries_34 : decode b_M_tries 34 = .ok (.getfield 26, 3) := by decide +kernel
theorem d_M_tries_37 : decode b_M_tries 37 = .ok (.iload_n 1, 1) := by decide +kernel
theorem d_M_tries_38 : decode b_M_tries 38 = .ok (.iaload, 1) := by decide +kernel
theorem d_M_tries_39 : decode b_M_tries 39 = .ok (.if_icmp .ge 53, 3) := by decide +kernel
theorem d_M_tries_42 : decode b_M_tries 42 = .ok (.aload_n 0, 1) := by decide +kernel
theorem d_M_tries_43 : decode b_M_tries 43 = .ok (.getfield 180, 3) := by decide +kernel
theorem d_M_tries_46 : decode b_M_tries 46 = .ok (.ifCond .ne 46, 3) := by decide +kernel
theorem d_M_tries_49 : decode b_M_tries 49 = .ok (.iload 4, 2) := by decide +kernel
theorem d_M_tries_51 : decode b_M_tries 51 = .ok (.ifCond .ne 41, 3) := by decide +kernel
theorem d_M_tries_54 : decode b_M_tries 54 = .ok (.iload_n 2, 1) := by decide +kernel
theorem d_M_tries_55 : decode b_M_tries 55 = .ok (.aload_n 0, 1) := by decide +kernel
theorem d_M_tries_56 : decode b_M_tries 56 = .ok (.getfield 167, 3) := by decide +kernel
theorem d_M_tries_59 : decode b_M_tries 59 = .ok (.if_icmp .lt 15, 3) := by decide +kernel
theorem d_M_tries_62 : decode b_M_tries 62 = .ok (.aload_n 0, 1) := by decide +kernel
theorem d_M_tries_63 : decode b_M_tries 63 = .ok (.iload_n 1, 1) := by decide +kernel
theorem d_M_tries_64 : decode b_M_tries 64 = .ok (.iload_n 3, 1) := by decide +kernel
theorem d_M_tries_65 : decode b_M_tries 65 = .ok (.invokevirtual 198, 3) := by decide +kernel
theorem d_M_tries_68 : decode b_M_tries 68 = .ok (.iconst 1, 1) := by decide +kernel
theorem d_M_tries_69 : decode b_M_tries 69 = .ok (.istore 4, 2) := by decide +kernel
theorem d_M_tries_71 : decode b_M_tries 71 = .ok (.goto (-39), 3) := by decide +kernel
theorem d_M_tries_74 : decode b_M_tries 74 = .ok (.aload_n 0, 1) := by decide +kernel
theorem d_M_tries_75 : decode b_M_tries 75 = .ok (.iload_n 1, 1) := by decide +kernel
theorem d_M_tries_76 : decode b_M_tries 76 = .ok (.iload_n 3, 1) := by decide +kernel
theorem d_M_tries_77 : decode b_M_tries 77 = .ok (.iload_n 2, 1) := by decide +kernel
theorem d_M_tries_78 : decode b_M_tries 78 = .ok (.invokevirtual 201, 3) := by decide +kernel
theorem d_M_tries_81 : decode b_M_tries 81 = .ok (.istore_n 2, 1) := by decide +kernel
theorem d_M_tries_82 : decode b_M_tries 82 = .ok (.aload_n 0, 1) := by decide +kernel
theorem d_M_tries_83 : decode b_M_tries 83 = .ok (.iload_n 1, 1) := by decide +kernel
theorem d_M_tries_84 : decode b_M_tries 84 = .ok (.iload_n 3, 1) := by decide +kernel
theorem d_M_tries_85 : decode b_M_tries 85 = .ok (.invokevirtual 189, 3) := by decide +kernel
theorem d_M_tries_88 : decode b_M_tries 88 = .ok (.istore_n 3, 1) := by decide +kernel
theorem d_M_tries_89 : decode b_M_tries 89 = .ok (.goto (-57), 3) := by decide +kernel
theorem d_M_tries_92 : decode b_M_tries 92 = .ok (.aload_n 0, 1) := by decide +kernel
theorem d_M_tries_93 : decode b_M_tries 93 = .ok (.getfield 180, 3) := by decide +kernel
theorem d_M_tries_96 : decode b_M_tries 96 = .ok (.ifCond .ne 23, 3) := by decide +kernel
theorem d_M_tries_99 : decode b_M_tries 99 = .ok (.iload 4, 2) := by decide +kernel
theorem d_M_tries_101 : decode b_M_tries 101 = .ok (.ifCond .ne 18, 3) := by decide +kernel
theorem d_M_tries_104 : decode b_M_tries 104 = .ok (.iload_n 2, 1) := by decide +kernel
theorem d_M_tries_105 : decode b_M_tries 105 = .ok (.aload_n 0, 1) := by decide +kernel
theorem d_M_tries_106 : decode b_M_tries 106 = .ok (.getfield 167, 3) := by decide +kernel
theorem d_M_tries_109 : decode b_M_tries 109 = .ok (.if_icmp .ge 10, 3) := by decide +kernel
theorem d_M_tries_112 : decode b_M_tries 112 = .ok (.aload_n 0, 1) := by decide +kernel
theorem d_M_tries_113 : decode b_M_tries 113 = .ok (.bipush 6, 2) := by decide +kernel
theorem d_M_tries_115 : decode b_M_tries 115 = .ok (.iload_n 2, 1) := by decide +kernel
theorem d_M_tries_116 : decode b_M_tries 116 = .ok (.invokevirtual 205, 3) := by decide +kernel
theorem d_M_tries_119 : decode b_M_tries 119 = .ok (.aload_n 0, 1) := by decide +kernel
theorem d_M_tries_120 : decode b_M_tries 120 = .ok (.getfield 180, 3) := by decide +kernel
theorem d_M_tries_123 : decode b_M_tries 123 = .ok (.ifCond .ne 7, 3) := by decide +kernel
theorem d_M_tries_126 : decode b_M_tries 126 = .ok (.aload_n 0, 1) := by decide +kernel
theorem d_M_tries_127 : decode b_M_tries 127 = .ok (.invokevirtual 208, 3) := by decide +kernel
theorem d_M_tries_130 : decode b_M_tries 130 = .ok (.return_, 1) := by decide +kernel
theorem d_M_without_0 : decode b_M_without 0 = .ok (.aload_n 0, 1) := by decide +kernel
theorem d_M_without_1 : decode b_M_without 1 = .ok (.iconst 0, 1) := by decide +kernel
theorem d_M_without_2 : decode b_M_without 2 = .ok (.putfield 266, 3) := by decide +kernel
theorem d_M_without_5 : decode b_M_without 5 = .ok (.aload_n 0, 1) := by decide +kernel
theorem d_M_without_6 : decode b_M_without 6 = .ok (.iload_n 1, 1) := by decide +kernel
theorem d_M_without_7 : decode b_M_without 7 = .ok (.putfield 269, 3) := by decide +kernel
theorem d_M_without_10 : decode b_M_without 10 = .ok (.aload_n 0, 1) := by decide +kernel
theorem d_M_without_11 : decode b_M_without 11 = .ok (.iconst (-1), 1) := by decide +kernel
theorem d_M_without_12 : decode b_M_without 12 = .ok (.putfield 106, 3) := by decide +kernel
theorem d_M_without_15 : decode b_M_without 15 = .ok (.aload_n 0, 1) := by decide +kernel
theorem d_M_without_16 : decode b_M_without 16 = .ok (.iconst (-1), 1) := by decide +kernel
theorem d_M_without_17 : decode b_M_without 17 = .ok (.putfield 109, 3) := by decide +kernel
theorem d_M_without_20 : decode b_M_without 20 = .ok (.aload_n 0, 1) := by decide +kernel
theorem d_M_without_21 : decode b_M_without 21 = .ok (.iconst 0, 1) := by decide +kernel
theorem d_M_without_22 : decode b_M_without 22 = .ok (.putfield 157, 3) := by decide +kernel
theorem d_M_without_25 : decode b_M_without 25 = .ok (.iload_n 1, 1) := by decide +kernel
theorem d_M_without_26 : decode b_M_without 26 = .ok (.ineg, 1) := by decide +kernel
theorem d_M_without_27 : decode b_M_without 27 = .ok (.ireturn, 1) := by decide +kernel
theorem d_M_isTried_0 : decode b_M_isTried 0 = .ok (.aload_n 0, 1) := by decide +kernel
theorem d_M_isTried_1 : decode b_M_isTried 1 = .ok (.aload_n 0, 1) := by decide +kernel
theorem d_M_isTried_2 : decode b_M_isTried 2 = .ok (.getfield 84, 3) := by decide +kernel
theorem d_M_isTried_5 : decode b_M_isTried 5 = .ok (.aload_n 0, 1) := by decide +kernel
theorem d_M_isTried_6 : decode b_M_isTried 6 = .ok (.getfield 272, 3) := by decide +kernel
theorem d_M_isTried_9 : decode b_M_isTried 9 = .ok (.invokevirtual 275, 3) := by decide +kernel
theorem d_M_isTried_12 : decode b_M_isTried 12 = .ok (.aload_n 0, 1) := by decide +kernel
theorem d_M_isTried_13 : decode b_M_isTried 13 = .ok (.iconst 0, 1) := by decide +kernel
theorem d_M_isTried_14 : decode b_M_isTried 14 = .ok (.putfield 266, 3) := by decide +kernel
theorem d_M_isTried_17 : decode b_M_isTried 17 = .ok (.aload_n 0, 1) := by decide +kernel
theorem d_M_isTried_18 : decode b_M_isTried 18 = .ok (.aload_n 0, 1) := by decide +kernel
theorem d_M_isTried_19 : decode b_M_isTried 19 = .ok (.getfield 84, 3) := by decide +kernel
theorem d_M_isTried_22 : decode b_M_isTried 22 = .ok (.iconst 0, 1) := by decide +kernel
theorem d_M_isTried_23 : decode b_M_isTried 23 = .ok (.iaload, 1) := by decide +kernel
theorem d_M_isTried_24 : decode b_M_isTried 24 = .ok (.invokevirtual 123, 3) := by decide +kernel
theorem d_M_isTried_27 : decode b_M_isTried 27 = .ok (.istore_n 1, 1) := by decide +kernel
theorem d_M_isTried_28 : decode b_M_isTried 28 = .ok (.iconst (-1), 1) := by decide +kernel
theorem d_M_isTried_29 : decode b_M_isTried 29 = .ok (.istore_n 2, 1) := by decide +kernel
theorem d_M_isTried_30 : decode b_M_isTried 30 = .ok (.iconst 0, 1) := by decide +kernel
theorem d_M_isTried_31 : decode b_M_isTried 31 = .ok (.istore_n 3, 1) := by decide +kernel
theorem d_M_isTried_32 : decode b_M_isTried 32 = .ok (.iconst 0, 1) := by decide +kernel
theorem d_M_isTried_33 : decode b_M_isTried 33 = .ok (.istore 4, 2) := by decide +kernel
theorem d_M_isTried_35 : decode b_M_isTried 35 = .ok (.iconst 0, 1) := by decide +kernel
theorem d_M_isTried_36 : decode b_M_isTried 36 = .ok (.istore 5, 2) := by decide +kernel
theorem d_M_isTried_38 : decode b_M_isTried 38 = .ok (.iload 5, 2) := by decide +kernel
theorem d_M_isTried_40 : decode b_M_isTried 40 = .ok (.aload_n 0, 1) := by decide +kernel
theorem d_M_isTried_41 : decode b_M_isTried 41 = .ok (.getfield 134, 3) := by decide +kernel
theorem d_M_isTried_44 : decode b_M_isTried 44 = .ok (.if_icmp .ge 123, 3) := by decide +kernel
theorem d_M_isTried_47 : decode b_M_isTried 47 = .ok (.iload_n 1, 1) := by decide +kernel
theorem d_M_isTried_48 : decode b_M_isTried 48 = .ok (.iconst (-1), 1) := by decide +kernel
theorem d_M_isTried_49 : decode b_M_isTried 49 = .ok (.if_icmp .eq 118, 3) := by decide +kernel
theorem d_M_isTried_52 : decode b_M_isTried 52 = .ok (.iload 4, 2) := by decide +kernel
theorem d_M_isTried_54 : decode b_M_isTried 54 = .ok (.ifCond .ne 113, 3) := by decide +kernel
theorem d_M_isTried_57 : decode b_M_isTried 57 = .ok (.aload_n 0, 1) := by decide +kernel
theorem d_M_isTried_58 : decode b_M_isTried 58 = .ok (.getfield 16, 3) := by decide +kernel
