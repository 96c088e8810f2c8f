theorem d_M_isTried_61 : decode b_M_isTried 61 = .ok (.iload 5, 2) := by decide +kernel
theorem d_M_isTried_63 : decode b_M_isTried 63 = .ok (.iaload, 1) := by decide +kernel
theorem d_M_isTried_64 : decode b_M_isTried 64 = .ok (.iload_n 1, 1) := by decide +kernel
theorem d_M_isTried_65 : decode b_M_isTried 65 = .ok (.if_icmp .ne 96, 3) := by decide +kernel
theorem d_M_isTried_68 : decode b_M_isTried 68 = .ok (.aload_n 0, 1) := by decide +kernel
theorem d_M_isTried_69 : decode b_M_isTried 69 = .ok (.iload 5, 2) := by decide +kernel
theorem d_M_isTried_71 : decode b_M_isTried 71 = .ok (.invokevirtual 279, 3) := by decide +kernel
theorem d_M_isTried_74 : decode b_M_isTried 74 = .ok (.aload_n 0, 1) := by decide +kernel
theorem d_M_isTried_75 : decode b_M_isTried 75 = .ok (.getfield 87, 3) := by decide +kernel
theorem d_M_isTried_78 : decode b_M_isTried 78 = .ok (.aload_n 0, 1) := by decide +kernel
theorem d_M_isTried_79 : decode b_M_isTried 79 = .ok (.getfield 266, 3) := by decide +kernel
theorem d_M_isTried_82 : decode b_M_isTried 82 = .ok (.iload 5, 2) := by decide +kernel
theorem d_M_isTried_84 : decode b_M_isTried 84 = .ok (.iastore, 1) := by decide +kernel
theorem d_M_isTried_85 : decode b_M_isTried 85 = .ok (.aload_n 0, 1) := by decide +kernel
theorem d_M_isTried_86 : decode b_M_isTried 86 = .ok (.getfield 90, 3) := by decide +kernel
theorem d_M_isTried_89 : decode b_M_isTried 89 = .ok (.aload_n 0, 1) := by decide +kernel
theorem d_M_isTried_90 : decode b_M_isTried 90 = .ok (.getfield 266, 3) := by decide +kernel
theorem d_M_isTried_93 : decode b_M_isTried 93 = .ok (.aload_n 0, 1) := by decide +kernel
theorem d_M_isTried_94 : decode b_M_isTried 94 = .ok (.getfield 180, 3) := by decide +kernel
theorem d_M_isTried_97 : decode b_M_isTried 97 = .ok (.iastore, 1) := by decide +kernel
theorem d_M_isTried_98 : decode b_M_isTried 98 = .ok (.aload_n 0, 1) := by decide +kernel
theorem d_M_isTried_99 : decode b_M_isTried 99 = .ok (.getfield 93, 3) := by decide +kernel
theorem d_M_isTried_102 : decode b_M_isTried 102 = .ok (.aload_n 0, 1) := by decide +kernel
theorem d_M_isTried_103 : decode b_M_isTried 103 = .ok (.getfield 266, 3) := by decide +kernel
theorem d_M_isTried_106 : decode b_M_isTried 106 = .ok (.aload_n 0, 1) := by decide +kernel
theorem d_M_isTried_107 : decode b_M_isTried 107 = .ok (.getfield 183, 3) := by decide +kernel
theorem d_M_isTried_110 : decode b_M_isTried 110 = .ok (.iastore, 1) := by decide +kernel
theorem d_M_isTried_111 : decode b_M_isTried 111 = .ok (.aload_n 0, 1) := by decide +kernel
theorem d_M_isTried_112 : decode b_M_isTried 112 = .ok (.dup, 1) := by decide +kernel
theorem d_M_isTried_113 : decode b_M_isTried 113 = .ok (.getfield 266, 3) := by decide +kernel
theorem d_M_isTried_116 : decode b_M_isTried 116 = .ok (.iconst 1, 1) := by decide +kernel
theorem d_M_isTried_117 : decode b_M_isTried 117 = .ok (.iadd, 1) := by decide +kernel
theorem d_M_isTried_118 : decode b_M_isTried 118 = .ok (.putfield 266, 3) := by decide +kernel
theorem d_M_isTried_121 : decode b_M_isTried 121 = .ok (.aload_n 0, 1) := by decide +kernel
theorem d_M_isTried_122 : decode b_M_isTried 122 = .ok (.getfield 180, 3) := by decide +kernel
theorem d_M_isTried_125 : decode b_M_isTried 125 = .ok (.ifCond .ne 7, 3) := by decide +kernel
theorem d_M_isTried_128 : decode b_M_isTried 128 = .ok (.iconst 1, 1) := by decide +kernel
theorem d_M_isTried_129 : decode b_M_isTried 129 = .ok (.goto 4, 3) := by decide +kernel
theorem d_M_isTried_132 : decode b_M_isTried 132 = .ok (.iconst 0, 1) := by decide +kernel
theorem d_M_isTried_133 : decode b_M_isTried 133 = .ok (.istore 4, 2) := by decide +kernel
theorem d_M_isTried_135 : decode b_M_isTried 135 = .ok (.iload 4, 2) := by decide +kernel
theorem d_M_isTried_137 : decode b_M_isTried 137 = .ok (.ifCond .ne 16, 3) := by decide +kernel
theorem d_M_isTried_140 : decode b_M_isTried 140 = .ok (.iload_n 2, 1) := by decide +kernel
theorem d_M_isTried_141 : decode b_M_isTried 141 = .ok (.iconst (-1), 1) := by decide +kernel
theorem d_M_isTried_142 : decode b_M_isTried 142 = .ok (.if_icmp .eq 11, 3) := by decide +kernel
theorem d_M_isTried_145 : decode b_M_isTried 145 = .ok (.aload_n 0, 1) := by decide +kernel
theorem d_M_isTried_146 : decode b_M_isTried 146 = .ok (.getfield 180, 3) := by decide +kernel
theorem d_M_isTried_149 : decode b_M_isTried 149 = .ok (.iload_n 3, 1) := by decide +kernel
theorem d_M_isTried_150 : decode b_M_isTried 150 = .ok (.if_icmp .le 11, 3) := by decide +kernel
theorem d_M_isTried_153 : decode b_M_isTried 153 = .ok (.iload 5, 2) := by decide +kernel
theorem d_M_isTried_155 : decode b_M_isTried 155 = .ok (.istore_n 2, 1) := by decide +kernel
theorem d_M_isTried_156 : decode b_M_isTried 156 = .ok (.aload_n 0, 1) := by decide +kernel
theorem d_M_isTried_157 : decode b_M_isTried 157 = .ok (.getfield 180, 3) := by decide +kernel
theorem d_M_isTried_160 : decode b_M_isTried 160 = .ok (.istore_n 3, 1) := by decide +kernel
theorem d_M_isTried_161 : decode b_M_isTried 161 = .ok (.iinc 5 1, 3) := by decide +kernel
theorem d_M_isTried_164 : decode b_M_isTried 164 = .ok (.goto (-126), 3) := by decide +kernel
theorem d_M_isTried_167 : decode b_M_isTried 167 = .ok (.iload_n 2, 1) := by decide +kernel
theorem d_M_isTried_168 : decode b_M_isTried 168 = .ok (.iconst (-1), 1) := by decide +kernel
theorem d_M_isTried_169 : decode b_M_isTried 169 = .ok (.if_icmp .ne 18, 3) := by decide +kernel
theorem d_M_isTried_172 : decode b_M_isTried 172 = .ok (.aload_n 0, 1) := by decide +kernel
theorem d_M_isTried_173 : decode b_M_isTried 173 = .ok (.iconst 2, 1) := by decide +kernel
theorem d_M_isTried_174 : decode b_M_isTried 174 = .ok (.invokevirtual 283, 3) := by decide +kernel
theorem d_M_isTried_177 : decode b_M_isTried 177 = .ok (.istore 5, 2) := by decide +kernel
theorem d_M_isTried_179 : decode b_M_isTried 179 = .ok (.aload_n 0, 1) := by decide +kernel
theorem d_M_isTried_180 : decode b_M_isTried 180 = .ok (.iconst 0, 1) := by decide +kernel
theorem d_M_isTried_181 : decode b_M_isTried 181 = .ok (.putfield 106, 3) := by decide +kernel
theorem d_M_isTried_184 : decode b_M_isTried 184 = .ok (.iload 5, 2) := by decide +kernel
theorem d_M_isTried_186 : decode b_M_isTried 186 = .ok (.ireturn, 1) := by decide +kernel
theorem d_M_isTried_187 : decode b_M_isTried 187 = .ok (.aload_n 0, 1) := by decide +kernel
theorem d_M_isTried_188 : decode b_M_isTried 188 = .ok (.iload_n 2, 1) := by decide +kernel
theorem d_M_isTried_189 : decode b_M_isTried 189 = .ok (.invokevirtual 279, 3) := by decide +kernel
theorem d_M_isTried_192 : decode b_M_isTried 192 = .ok (.aload_n 0, 1) := by decide +kernel
theorem d_M_isTried_193 : decode b_M_isTried 193 = .ok (.aload_n 0, 1) := by decide +kernel
theorem d_M_isTried_194 : decode b_M_isTried 194 = .ok (.getfield 180, 3) := by decide +kernel
theorem d_M_isTried_197 : decode b_M_isTried 197 = .ok (.putfield 269, 3) := by decide +kernel
theorem d_M_isTried_200 : decode b_M_isTried 200 = .ok (.aload_n 0, 1) := by decide +kernel
theorem d_M_isTried_201 : decode b_M_isTried 201 = .ok (.aload_n 0, 1) := by decide +kernel
theorem d_M_isTried_202 : decode b_M_isTried 202 = .ok (.getfield 183, 3) := by decide +kernel
theorem d_M_isTried_205 : decode b_M_isTried 205 = .ok (.putfield 106, 3) := by decide +kernel
theorem d_M_isTried_208 : decode b_M_isTried 208 = .ok (.aload_n 0, 1) := by decide +kernel
theorem d_M_isTried_209 : decode b_M_isTried 209 = .ok (.iload_n 2, 1) := by decide +kernel
theorem d_M_isTried_210 : decode b_M_isTried 210 = .ok (.putfield 109, 3) := by decide +kernel
theorem d_M_isTried_213 : decode b_M_isTried 213 = .ok (.iload 4, 2) := by decide +kernel
theorem d_M_isTried_215 : decode b_M_isTried 215 = .ok (.ifCond .eq 63, 3) := by decide +kernel
theorem d_M_isTried_218 : decode b_M_isTried 218 = .ok (.aload_n 0, 1) := by decide +kernel
theorem d_M_isTried_219 : decode b_M_isTried 219 = .ok (.iconst 1, 1) := by decide +kernel
theorem d_M_isTried_220 : decode b_M_isTried 220 = .ok (.putfield 286, 3) := by decide +kernel
theorem d_M_isTried_223 : decode b_M_isTried 223 = .ok (.aload_n 0, 1) := by decide +kernel
theorem d_M_isTried_224 : decode b_M_isTried 224 = .ok (.aload_n 0, 1) := by decide +kernel
theorem d_M_isTried_225 : decode b_M_isTried 225 = .ok (.getfield 272, 3) := by decide +kernel
theorem d_M_isTried_228 : decode b_M_isTried 228 = .ok (.putfield 99, 3) := by decide +kernel
theorem d_M_isTried_231 : decode b_M_isTried 231 = .ok (.aload_n 0, 1) := by decide +kernel
theorem d_M_isTried_232 : decode b_M_isTried 232 = .ok (.aload_n 0, 1) := by decide +kernel
theorem d_M_isTried_233 : decode b_M_isTried 233 = .ok (.getfield 103, 3) := by decide +kernel
theorem d_M_isTried_236 : decode b_M_isTried 236 = .ok (.putfield 290, 3) := by decide +kernel
theorem d_M_isTried_239 : decode b_M_isTried 239 = .ok (.iconst 0, 1) := by decide +kernel
theorem d_M_isTried_240 : decode b_M_isTried 240 = .ok (.istore 5, 2) := by decide +kernel
theorem d_M_isTried_242 : decode b_M_isTried 242 = .ok (.iload 5, 2) := by decide +kernel
theorem d_M_isTried_244 : decode b_M_isTried 244 = .ok (.aload_n 0, 1) := by decide +kernel
theorem d_M_isTried_245 : decode b_M_isTried 245 = .ok (.getfield 272, 3) := by decide +kernel
theorem d_M_isTried_248 : decode b_M_isTried 248 = .ok (.if_icmp .ge 23, 3) := by decide +kernel
theorem d_M_isTried_251 : decode b_M_isTried 251 = .ok (.aload_n 0, 1) := by decide +kernel
theorem d_M_isTried_252 : decode b_M_isTried 252 = .ok (.getfield 96, 3) := by decide +kernel
theorem d_M_isTried_255 : decode b_M_isTried 255 = .ok (.iload 5, 2) := by decide +kernel
theorem d_M_isTried_257 : decode b_M_isTried 257 = .ok (.aload_n 0, 1) := by decide +kernel
theorem d_M_isTried_258 : decode b_M_isTried 258 = .ok (.getfield 84, 3) := by decide +kernel
theorem d_M_isTried_261 : decode b_M_isTried 261 = .ok (.iload 5, 2) := by decide +kernel
theorem d_M_isTried_263 : decode b_M_isTried 263 = .ok (.iaload, 1) := by decide +kernel
theorem d_M_isTried_264 : decode b_M_isTried 264 = .ok (.iastore, 1) := by decide +kernel
theorem d_M_isTried_265 : decode b_M_isTried 265 = .ok (.iinc 5 1, 3) := by decide +kernel
theorem d_M_isTried_268 : decode b_M_isTried 268 = .ok (.goto (-26), 3) := by decide +kernel
theorem d_M_isTried_271 : decode b_M_isTried 271 = .ok (.aload_n 0, 1) := by decide +kernel
theorem d_M_isTried_272 : decode b_M_isTried 272 = .ok (.getfield 19, 3) := by decide +kernel
theorem d_M_isTried_275 : decode b_M_isTried 275 = .ok (.iload_n 2, 1) := by decide +kernel
theorem d_M_isTried_276 : decode b_M_isTried 276 = .ok (.iaload, 1) := by decide +kernel
theorem d_M_isTried_277 : decode b_M_isTried 277 = .ok (.ireturn, 1) := by decide +kernel
theorem d_M_isTried_278 : decode b_M_isTried 278 = .ok (.aload_n 0, 1) := by decide +kernel
theorem d_M_isTried_279 : decode b_M_isTried 279 = .ok (.getfield 180, 3) := by decide +kernel
theorem d_M_isTried_282 : decode b_M_isTried 282 = .ok (.bipush 15, 2) := by decide +kernel
theorem d_M_isTried_284 : decode b_M_isTried 284 = .ok (.if_icmp .ge 14, 3) := by decide +kernel
theorem d_M_isTried_287 : decode b_M_isTried 287 = .ok (.aload_n 0, 1) := by decide +kernel
theorem d_M_isTried_288 : decode b_M_isTried 288 = .ok (.iconst 0, 1) := by decide +kernel
theorem d_M_isTried_289 : decode b_M_isTried 289 = .ok (.putfield 157, 3) := by decide +kernel
theorem d_M_isTried_292 : decode b_M_isTried 292 = .ok (.aload_n 0, 1) := by decide +kernel
theorem d_M_isTried_293 : decode b_M_isTried 293 = .ok (.getfield 180, 3) := by decide +kernel
theorem d_M_isTried_296 : decode b_M_isTried 296 = .ok (.ineg, 1) := by decide +kernel
theorem d_M_isTried_297 : decode b_M_isTried 297 = .ok (.ireturn, 1) := by decide +kernel
theorem d_M_isTried_298 : decode b_M_isTried 298 = .ok (.aload_n 0, 1) := by decide +kernel
theorem d_M_isTried_299 : decode b_M_isTried 299 = .ok (.aload_n 0, 1) := by decide +kernel
theorem d_M_isTried_300 : decode b_M_isTried 300 = .ok (.getfield 180, 3) := by decide +kernel
theorem d_M_isTried_303 : decode b_M_isTried 303 = .ok (.putfield 293, 3) := by decide +kernel
theorem d_M_isTried_306 : decode b_M_isTried 306 = .ok (.iconst 0, 1) := by decide +kernel
theorem d_M_isTried_307 : decode b_M_isTried 307 = .ok (.ireturn, 1) := by decide +kernel
theorem d_M_parse_0 : decode b_M_parse 0 = .ok (.aload_n 0, 1) := by decide +kernel
theorem d_M_parse_1 : decode b_M_parse 1 = .ok (.getfield 296, 3) := by decide +kernel
theorem d_M_parse_4 : decode b_M_parse 4 = .ok (.istore_n 1, 1) := by decide +kernel
theorem d_M_parse_5 : decode b_M_parse 5 = .ok (.aload_n 0, 1) := by decide +kernel
theorem d_M_parse_6 : decode b_M_parse 6 = .ok (.getfield 103, 3) := by decide +kernel
theorem d_M_parse_9 : decode b_M_parse 9 = .ok (.istore_n 2, 1) := by decide +kernel
theorem d_M_parse_10 : decode b_M_parse 10 = .ok (.aload_n 0, 1) := by decide +kernel
theorem d_M_parse_11 : decode b_M_parse 11 = .ok (.invokevirtual 302, 3) := by decide +kernel
theorem d_M_parse_14 : decode b_M_parse 14 = .ok (.iconst 0, 1) := by decide +kernel
theorem d_M_parse_15 : decode b_M_parse 15 = .ok (.istore_n 3, 1) := by decide +kernel
theorem d_M_parse_16 : decode b_M_parse 16 = .ok (.iload_n 3, 1) := by decide +kernel
theorem d_M_parse_17 : decode b_M_parse 17 = .ok (.aload_n 0, 1) := by decide +kernel
theorem d_M_parse_18 : decode b_M_parse 18 = .ok (.getfield 157, 3) := by decide +kernel
theorem d_M_parse_21 : decode b_M_parse 21 = .ok (.if_icmp .ge 66, 3) := by decide +kernel
theorem d_M_parse_24 : decode b_M_parse 24 = .ok (.aload_n 0, 1) := by decide +kernel
theorem d_M_parse_25 : decode b_M_parse 25 = .ok (.getfield 53, 3) := by decide +kernel
theorem d_M_parse_28 : decode b_M_parse 28 = .ok (.iload_n 3, 1) := by decide +kernel
theorem d_M_parse_29 : decode b_M_parse 29 = .ok (.iaload, 1) := by decide +kernel
theorem d_M_parse_30 : decode b_M_parse 30 = .ok (.iconst 2, 1) := by decide +kernel
theorem d_M_parse_31 : decode b_M_parse 31 = .ok (.if_icmp .eq 56, 3) := by decide +kernel
theorem d_M_parse_34 : decode b_M_parse 34 = .ok (.aload_n 0, 1) := by decide +kernel
theorem d_M_parse_35 : decode b_M_parse 35 = .ok (.getfield 53, 3) := by decide +kernel
theorem d_M_parse_38 : decode b_M_parse 38 = .ok (.iload_n 3, 1) := by decide +kernel
theorem d_M_parse_39 : decode b_M_parse 39 = .ok (.iaload, 1) := by decide +kernel
theorem d_M_parse_40 : decode b_M_parse 40 = .ok (.iconst 1, 1) := by decide +kernel
theorem d_M_parse_41 : decode b_M_parse 41 = .ok (.if_icmp .eq 14, 3) := by decide +kernel
theorem d_M_parse_44 : decode b_M_parse 44 = .ok (.aload_n 0, 1) := by decide +kernel
theorem d_M_parse_45 : decode b_M_parse 45 = .ok (.getfield 53, 3) := by decide +kernel
theorem d_M_parse_48 : decode b_M_parse 48 = .ok (.iload_n 3, 1) := by decide +kernel
theorem d_M_parse_49 : decode b_M_parse 49 = .ok (.iaload, 1) := by decide +kernel
theorem d_M_parse_50 : decode b_M_parse 50 = .ok (.bipush 7, 2) := by decide +kernel
theorem d_M_parse_52 : decode b_M_parse 52 = .ok (.if_icmp .ne 29, 3) := by decide +kernel
theorem d_M_parse_55 : decode b_M_parse 55 = .ok (.iload_n 3, 1) := by decide +kernel
theorem d_M_parse_56 : decode b_M_parse 56 = .ok (.iconst 1, 1) := by decide +kernel
theorem d_M_parse_57 : decode b_M_parse 57 = .ok (.iadd, 1) := by decide +kernel
theorem d_M_parse_58 : decode b_M_parse 58 = .ok (.aload_n 0, 1) := by decide +kernel
theorem d_M_parse_59 : decode b_M_parse 59 = .ok (.getfield 157, 3) := by decide +kernel
theorem d_M_parse_62 : decode b_M_parse 62 = .ok (.if_icmp .ge 19, 3) := by decide +kernel
theorem d_M_parse_65 : decode b_M_parse 65 = .ok (.aload_n 0, 1) := by decide +kernel
theorem d_M_parse_66 : decode b_M_parse 66 = .ok (.aload_n 0, 1) := by decide +kernel
theorem d_M_parse_67 : decode b_M_parse 67 = .ok (.getfield 53, 3) := by decide +kernel
theorem d_M_parse_70 : decode b_M_parse 70 = .ok (.iload_n 3, 1) := by decide +kernel
theorem d_M_parse_71 : decode b_M_parse 71 = .ok (.iconst 1, 1) := by decide +kernel
theorem d_M_parse_72 : decode b_M_parse 72 = .ok (.iadd, 1) := by decide +kernel
theorem d_M_parse_73 : decode b_M_parse 73 = .ok (.iaload, 1) := by decide +kernel
theorem d_M_parse_74 : decode b_M_parse 74 = .ok (.invokevirtual 123, 3) := by decide +kernel
theorem d_M_parse_77 : decode b_M_parse 77 = .ok (.iconst (-1), 1) := by decide +kernel
theorem d_M_parse_78 : decode b_M_parse 78 = .ok (.if_icmp .ne 9, 3) := by decide +kernel
theorem d_M_parse_81 : decode b_M_parse 81 = .ok (.iinc 3 1, 3) := by decide +kernel
theorem d_M_parse_84 : decode b_M_parse 84 = .ok (.goto (-68), 3) := by decide +kernel
theorem d_M_parse_87 : decode b_M_parse 87 = .ok (.iload_n 3, 1) := by decide +kernel
theorem d_M_parse_88 : decode b_M_parse 88 = .ok (.iconst 2, 1) := by decide +kernel
theorem d_M_parse_89 : decode b_M_parse 89 = .ok (.if_icmp .ne 18, 3) := by decide +kernel
theorem d_M_parse_92 : decode b_M_parse 92 = .ok (.aload_n 0, 1) := by decide +kernel
theorem d_M_parse_93 : decode b_M_parse 93 = .ok (.getfield 53, 3) := by decide +kernel
theorem d_M_parse_96 : decode b_M_parse 96 = .ok (.iconst 0, 1) := by decide +kernel
theorem d_M_parse_97 : decode b_M_parse 97 = .ok (.iaload, 1) := by decide +kernel
theorem d_M_parse_98 : decode b_M_parse 98 = .ok (.bipush 6, 2) := by decide +kernel
theorem d_M_parse_100 : decode b_M_parse 100 = .ok (.if_icmp .ne 7, 3) := by decide +kernel
theorem d_M_parse_103 : decode b_M_parse 103 = .ok (.iconst 1, 1) := by decide +kernel
theorem d_M_parse_104 : decode b_M_parse 104 = .ok (.goto 4, 3) := by decide +kernel
theorem d_M_parse_107 : decode b_M_parse 107 = .ok (.iconst 0, 1) := by decide +kernel
theorem d_M_parse_108 : decode b_M_parse 108 = .ok (.istore 4, 2) := by decide +kernel
theorem d_M_parse_110 : decode b_M_parse 110 = .ok (.iload 4, 2) := by decide +kernel
theorem d_M_parse_112 : decode b_M_parse 112 = .ok (.ifCond .eq 12, 3) := by decide +kernel
theorem d_M_parse_115 : decode b_M_parse 115 = .ok (.aload_n 0, 1) := by decide +kernel
theorem d_M_parse_116 : decode b_M_parse 116 = .ok (.getfield 53, 3) := by decide +kernel
theorem d_M_parse_119 : decode b_M_parse 119 = .ok (.iconst 1, 1) := by decide +kernel
theorem d_M_parse_120 : decode b_M_parse 120 = .ok (.iaload, 1) := by decide +kernel
theorem d_M_parse_121 : decode b_M_parse 121 = .ok (.goto 4, 3) := by decide +kernel
theorem d_M_parse_124 : decode b_M_parse 124 = .ok (.iconst 0, 1) := by decide +kernel
theorem d_M_parse_125 : decode b_M_parse 125 = .ok (.istore 5, 2) := by decide +kernel
theorem d_M_parse_127 : decode b_M_parse 127 = .ok (.iload_n 1, 1) := by decide +kernel
theorem d_M_parse_128 : decode b_M_parse 128 = .ok (.ifCond .eq 55, 3) := by decide +kernel
theorem d_M_parse_131 : decode b_M_parse 131 = .ok (.aload_n 0, 1) := by decide +kernel
theorem d_M_parse_132 : decode b_M_parse 132 = .ok (.getfield 269, 3) := by decide +kernel
theorem d_M_parse_135 : decode b_M_parse 135 = .ok (.ifCond .eq 48, 3) := by decide +kernel
theorem d_M_parse_138 : decode b_M_parse 138 = .ok (.aload_n 0, 1) := by decide +kernel
theorem d_M_parse_139 : decode b_M_parse 139 = .ok (.getfield 269, 3) := by decide +kernel
theorem d_M_parse_142 : decode b_M_parse 142 = .ok (.iconst 1, 1) := by decide +kernel
theorem d_M_parse_143 : decode b_M_parse 143 = .ok (.if_icmp .eq 40, 3) := by decide +kernel
theorem d_M_parse_146 : decode b_M_parse 146 = .ok (.aload_n 0, 1) := by decide +kernel
theorem d_M_parse_147 : decode b_M_parse 147 = .ok (.getfield 269, 3) := by decide +kernel
theorem d_M_parse_150 : decode b_M_parse 150 = .ok (.iconst 3, 1) := by decide +kernel
theorem d_M_parse_151 : decode b_M_parse 151 = .ok (.if_icmp .eq 32, 3) := by decide +kernel
theorem d_M_parse_154 : decode b_M_parse 154 = .ok (.aload_n 0, 1) := by decide +kernel
theorem d_M_parse_155 : decode b_M_parse 155 = .ok (.getfield 269, 3) := by decide +kernel
theorem d_M_parse_158 : decode b_M_parse 158 = .ok (.iconst 4, 1) := by decide +kernel
theorem d_M_parse_159 : decode b_M_parse 159 = .ok (.if_icmp .eq 24, 3) := by decide +kernel
theorem d_M_parse_162 : decode b_M_parse 162 = .ok (.aload_n 0, 1) := by decide +kernel
theorem d_M_parse_163 : decode b_M_parse 163 = .ok (.getfield 106, 3) := by decide +kernel
theorem d_M_parse_166 : decode b_M_parse 166 = .ok (.iconst 0, 1) := by decide +kernel
theorem d_M_parse_167 : decode b_M_parse 167 = .ok (.aload_n 0, 1) := by decide +kernel
theorem d_M_parse_168 : decode b_M_parse 168 = .ok (.getfield 272, 3) := by decide +kernel
theorem d_M_parse_171 : decode b_M_parse 171 = .ok (.iconst 1, 1) := by decide +kernel
theorem d_M_parse_172 : decode b_M_parse 172 = .ok (.isub, 1) := by decide +kernel
theorem d_M_parse_173 : decode b_M_parse 173 = .ok (.invokestatic 112, 3) := by decide +kernel
theorem d_M_parse_176 : decode b_M_parse 176 = .ok (.ifCond .eq 7, 3) := by decide +kernel
theorem d_M_parse_179 : decode b_M_parse 179 = .ok (.iconst 1, 1) := by decide +kernel
theorem d_M_parse_180 : decode b_M_parse 180 = .ok (.goto 4, 3) := by decide +kernel
theorem d_M_parse_183 : decode b_M_parse 183 = .ok (.iconst 0, 1) := by decide +kernel
theorem d_M_parse_184 : decode b_M_parse 184 = .ok (.istore 6, 2) := by decide +kernel
theorem d_M_parse_186 : decode b_M_parse 186 = .ok (.aload_n 0, 1) := by decide +kernel
theorem d_M_parse_187 : decode b_M_parse 187 = .ok (.invokevirtual 305, 3) := by decide +kernel
theorem d_M_parse_190 : decode b_M_parse 190 = .ok (.iload 4, 2) := by decide +kernel
theorem d_M_parse_192 : decode b_M_parse 192 = .ok (.ifCond .eq 48, 3) := by decide +kernel
theorem d_M_parse_195 : decode b_M_parse 195 = .ok (.iload 6, 2) := by decide +kernel
theorem d_M_parse_197 : decode b_M_parse 197 = .ok (.ifCond .eq 43, 3) := by decide +kernel
theorem d_M_parse_200 : decode b_M_parse 200 = .ok (.aload_n 0, 1) := by decide +kernel
theorem d_M_parse_201 : decode b_M_parse 201 = .ok (.iload_n 3, 1) := by decide +kernel
theorem d_M_parse_202 : decode b_M_parse 202 = .ok (.aload_n 0, 1) := by decide +kernel
theorem d_M_parse_203 : decode b_M_parse 203 = .ok (.getfield 157, 3) := by decide +kernel
theorem d_M_parse_206 : decode b_M_parse 206 = .ok (.if_icmp .ge 9, 3) := by decide +kernel
theorem d_M_parse_209 : decode b_M_parse 209 = .ok (.iload_n 3, 1) := by decide +kernel
theorem d_M_parse_210 : decode b_M_parse 210 = .ok (.iconst 1, 1) := by decide +kernel
theorem d_M_parse_211 : decode b_M_parse 211 = .ok (.iadd, 1) := by decide +kernel
theorem d_M_parse_212 : decode b_M_parse 212 = .ok (.goto 4, 3) := by decide +kernel
theorem d_M_parse_215 : decode b_M_parse 215 = .ok (.iload_n 3, 1) := by decide +kernel
theorem d_M_parse_216 : decode b_M_parse 216 = .ok (.invokevirtual 299, 3) := by decide +kernel
theorem d_M_parse_219 : decode b_M_parse 219 = .ok (.aload_n 0, 1) := by decide +kernel
theorem d_M_parse_220 : decode b_M_parse 220 = .ok (.getfield 84, 3) := by decide +kernel
theorem d_M_parse_223 : decode b_M_parse 223 = .ok (.aload_n 0, 1) := by decide +kernel
theorem d_M_parse_224 : decode b_M_parse 224 = .ok (.getfield 106, 3) := by decide +kernel
theorem d_M_parse_227 : decode b_M_parse 227 = .ok (.iload 5, 2) := by decide +kernel
theorem d_M_parse_229 : decode b_M_parse 229 = .ok (.iastore, 1) := by decide +kernel
theorem d_M_parse_230 : decode b_M_parse 230 = .ok (.aload_n 0, 1) := by decide +kernel
theorem d_M_parse_231 : decode b_M_parse 231 = .ok (.iload_n 2, 1) := by decide +kernel
theorem d_M_parse_232 : decode b_M_parse 232 = .ok (.putfield 103, 3) := by decide +kernel
theorem d_M_parse_235 : decode b_M_parse 235 = .ok (.aload_n 0, 1) := by decide +kernel
theorem d_M_parse_236 : decode b_M_parse 236 = .ok (.invokevirtual 308, 3) := by decide +kernel
theorem d_M_parse_239 : decode b_M_parse 239 = .ok (.ireturn, 1) := by decide +kernel
theorem d_M_parse_240 : decode b_M_parse 240 = .ok (.iconst 0, 1) := by decide +kernel
theorem d_M_parse_241 : decode b_M_parse 241 = .ok (.istore 7, 2) := by decide +kernel
theorem d_M_parse_243 : decode b_M_parse 243 = .ok (.iload 7, 2) := by decide +kernel
theorem d_M_parse_245 : decode b_M_parse 245 = .ok (.iload_n 3, 1) := by decide +kernel
theorem d_M_parse_246 : decode b_M_parse 246 = .ok (.if_icmp .ge 23, 3) := by decide +kernel
theorem d_M_parse_249 : decode b_M_parse 249 = .ok (.aload_n 0, 1) := by decide +kernel
theorem d_M_parse_250 : decode b_M_parse 250 = .ok (.getfield 84, 3) := by decide +kernel
theorem d_M_parse_253 : decode b_M_parse 253 = .ok (.iload 7, 2) := by decide +kernel
theorem d_M_parse_255 : decode b_M_parse 255 = .ok (.aload_n 0, 1) := by decide +kernel
theorem d_M_parse_256 : decode b_M_parse 256 = .ok (.getfield 53, 3) := by decide +kernel
theorem d_M_parse_259 : decode b_M_parse 259 = .ok (.iload 7, 2) := by decide +kernel
theorem d_M_parse_261 : decode b_M_parse 261 = .ok (.iaload, 1) := by decide +kernel
theorem d_M_parse_262 : decode b_M_parse 262 = .ok (.iastore, 1) := by decide +kernel
theorem d_M_parse_263 : decode b_M_parse 263 = .ok (.iinc 7 1, 3) := by decide +kernel
theorem d_M_parse_266 : decode b_M_parse 266 = .ok (.goto (-23), 3) := by decide +kernel
theorem d_M_parse_269 : decode b_M_parse 269 = .ok (.aload_n 0, 1) := by decide +kernel
theorem d_M_parse_270 : decode b_M_parse 270 = .ok (.iload_n 3, 1) := by decide +kernel
theorem d_M_parse_271 : decode b_M_parse 271 = .ok (.putfield 272, 3) := by decide +kernel
theorem d_M_parse_274 : decode b_M_parse 274 = .ok (.aload_n 0, 1) := by decide +kernel
theorem d_M_parse_275 : decode b_M_parse 275 = .ok (.iload_n 3, 1) := by decide +kernel
theorem d_M_parse_276 : decode b_M_parse 276 = .ok (.aload_n 0, 1) := by decide +kernel
theorem d_M_parse_277 : decode b_M_parse 277 = .ok (.getfield 157, 3) := by decide +kernel
theorem d_M_parse_280 : decode b_M_parse 280 = .ok (.if_icmp .ge 9, 3) := by decide +kernel
theorem d_M_parse_283 : decode b_M_parse 283 = .ok (.iload_n 3, 1) := by decide +kernel
theorem d_M_parse_284 : decode b_M_parse 284 = .ok (.iconst 1, 1) := by decide +kernel
theorem d_M_parse_285 : decode b_M_parse 285 = .ok (.iadd, 1) := by decide +kernel
theorem d_M_parse_286 : decode b_M_parse 286 = .ok (.goto 4, 3) := by decide +kernel
theorem d_M_parse_289 : decode b_M_parse 289 = .ok (.iload_n 3, 1) := by decide +kernel
theorem d_M_parse_290 : decode b_M_parse 290 = .ok (.invokevirtual 299, 3) := by decide +kernel
theorem d_M_parse_293 : decode b_M_parse 293 = .ok (.iload_n 3, 1) := by decide +kernel
theorem d_M_parse_294 : decode b_M_parse 294 = .ok (.ifCond .ne 9, 3) := by decide +kernel
theorem d_M_parse_297 : decode b_M_parse 297 = .ok (.aload_n 0, 1) := by decide +kernel
theorem d_M_parse_298 : decode b_M_parse 298 = .ok (.iconst 1, 1) := by decide +kernel
theorem d_M_parse_299 : decode b_M_parse 299 = .ok (.invokevirtual 283, 3) := by decide +kernel
theorem d_M_parse_302 : decode b_M_parse 302 = .ok (.ireturn, 1) := by decide +kernel
theorem d_M_parse_303 : decode b_M_parse 303 = .ok (.iload 4, 2) := by decide +kernel
theorem d_M_parse_305 : decode b_M_parse 305 = .ok (.ifCond .eq 9, 3) := by decide +kernel
theorem d_M_parse_308 : decode b_M_parse 308 = .ok (.aload_n 0, 1) := by decide +kernel
theorem d_M_parse_309 : decode b_M_parse 309 = .ok (.iconst 4, 1) := by decide +kernel
theorem d_M_parse_310 : decode b_M_parse 310 = .ok (.invokevirtual 283, 3) := by decide +kernel
theorem d_M_parse_313 : decode b_M_parse 313 = .ok (.ireturn, 1) := by decide +kernel
theorem d_M_parse_314 : decode b_M_parse 314 = .ok (.iload_n 3, 1) := by decide +kernel
theorem d_M_parse_315 : decode b_M_parse 315 = .ok (.iconst 1, 1) := by decide +kernel
theorem d_M_parse_316 : decode b_M_parse 316 = .ok (.if_icmp .ne 75, 3) := by decide +kernel
theorem d_M_parse_319 : decode b_M_parse 319 = .ok (.aload_n 0, 1) := by decide +kernel
theorem d_M_parse_320 : decode b_M_parse 320 = .ok (.getfield 84, 3) := by decide +kernel
theorem d_M_parse_323 : decode b_M_parse 323 = .ok (.iconst 0, 1) := by decide +kernel
theorem d_M_parse_324 : decode b_M_parse 324 = .ok (.iaload, 1) := by decide +kernel
theorem d_M_parse_325 : decode b_M_parse 325 = .ok (.iconst 5, 1) := by decide +kernel
theorem d_M_parse_326 : decode b_M_parse 326 = .ok (.if_icmp .ne 65, 3) := by decide +kernel
theorem d_M_parse_329 : decode b_M_parse 329 = .ok (.aload_n 0, 1) := by decide +kernel
theorem d_M_parse_330 : decode b_M_parse 330 = .ok (.getfield 99, 3) := by decide +kernel
theorem d_M_parse_333 : decode b_M_parse 333 = .ok (.iconst (-1), 1) := by decide +kernel
theorem d_M_parse_334 : decode b_M_parse 334 = .ok (.if_icmp .ne 9, 3) := by decide +kernel
theorem d_M_parse_337 : decode b_M_parse 337 = .ok (.aload_n 0, 1) := by decide +kernel
theorem d_M_parse_338 : decode b_M_parse 338 = .ok (.iconst 3, 1) := by decide +kernel
theorem d_M_parse_339 : decode b_M_parse 339 = .ok (.invokevirtual 283, 3) := by decide +kernel
theorem d_M_parse_342 : decode b_M_parse 342 = .ok (.ireturn, 1) := by decide +kernel
theorem d_M_parse_343 : decode b_M_parse 343 = .ok (.aload_n 0, 1) := by decide +kernel
theorem d_M_parse_344 : decode b_M_parse 344 = .ok (.aload_n 0, 1) := by decide +kernel
theorem d_M_parse_345 : decode b_M_parse 345 = .ok (.getfield 99, 3) := by decide +kernel
theorem d_M_parse_348 : decode b_M_parse 348 = .ok (.putfield 272, 3) := by decide +kernel
theorem d_M_parse_351 : decode b_M_parse 351 = .ok (.aload_n 0, 1) := by decide +kernel
theorem d_M_parse_352 : decode b_M_parse 352 = .ok (.aload_n 0, 1) := by decide +kernel
theorem d_M_parse_353 : decode b_M_parse 353 = .ok (.getfield 290, 3) := by decide +kernel
theorem d_M_parse_356 : decode b_M_parse 356 = .ok (.putfield 103, 3) := by decide +kernel
theorem d_M_parse_359 : decode b_M_parse 359 = .ok (.iconst 0, 1) := by decide +kernel
theorem d_M_parse_360 : decode b_M_parse 360 = .ok (.istore 7, 2) := by decide +kernel
theorem d_M_parse_362 : decode b_M_parse 362 = .ok (.iload 7, 2) := by decide +kernel
theorem d_M_parse_364 : decode b_M_parse 364 = .ok (.aload_n 0, 1) := by decide +kernel
theorem d_M_parse_365 : decode b_M_parse 365 = .ok (.getfield 99, 3) := by decide +kernel
theorem d_M_parse_368 : decode b_M_parse 368 = .ok (.if_icmp .ge 23, 3) := by decide +kernel
theorem d_M_parse_371 : decode b_M_parse 371 = .ok (.aload_n 0, 1) := by decide +kernel
theorem d_M_parse_372 : decode b_M_parse 372 = .ok (.getfield 84, 3) := by decide +kernel
theorem d_M_parse_375 : decode b_M_parse 375 = .ok (.iload 7, 2) := by decide +kernel
theorem d_M_parse_377 : decode b_M_parse 377 = .ok (.aload_n 0, 1) := by decide +kernel
theorem d_M_parse_378 : decode b_M_parse 378 = .ok (.getfield 96, 3) := by decide +kernel
theorem d_M_parse_381 : decode b_M_parse 381 = .ok (.iload 7, 2) := by decide +kernel
theorem d_M_parse_383 : decode b_M_parse 383 = .ok (.iaload, 1) := by decide +kernel
theorem d_M_parse_384 : decode b_M_parse 384 = .ok (.iastore, 1) := by decide +kernel
theorem d_M_parse_385 : decode b_M_parse 385 = .ok (.iinc 7 1, 3) := by decide +kernel
theorem d_M_parse_388 : decode b_M_parse 388 = .ok (.goto (-26), 3) := by decide +kernel
theorem d_M_parse_391 : decode b_M_parse 391 = .ok (.aload_n 0, 1) := by decide +kernel
theorem d_M_parse_392 : decode b_M_parse 392 = .ok (.invokevirtual 308, 3) := by decide +kernel
theorem d_M_parse_395 : decode b_M_parse 395 = .ok (.ireturn, 1) := by decide +kernel
theorem d_M_comesIn_0 : decode b_M_comesIn 0 = .ok (.aload_n 0, 1) := by decide +kernel
theorem d_M_comesIn_1 : decode b_M_comesIn 1 = .ok (.getfield 272, 3) := by decide +kernel
theorem d_M_comesIn_4 : decode b_M_comesIn 4 = .ok (.istore_n 3, 1) := by decide +kernel
theorem d_M_comesIn_5 : decode b_M_comesIn 5 = .ok (.iload_n 3, 1) := by decide +kernel
theorem d_M_comesIn_6 : decode b_M_comesIn 6 = .ok (.iload_n 1, 1) := by decide +kernel
theorem d_M_comesIn_7 : decode b_M_comesIn 7 = .ok (.if_icmp .le 23, 3) := by decide +kernel
theorem d_M_comesIn_10 : decode b_M_comesIn 10 = .ok (.aload_n 0, 1) := by decide +kernel
theorem d_M_comesIn_11 : decode b_M_comesIn 11 = .ok (.getfield 84, 3) := by decide +kernel
theorem d_M_comesIn_14 : decode b_M_comesIn 14 = .ok (.iload_n 3, 1) := by decide +kernel
theorem d_M_comesIn_15 : decode b_M_comesIn 15 = .ok (.aload_n 0, 1) := by decide +kernel
theorem d_M_comesIn_16 : decode b_M_comesIn 16 = .ok (.getfield 84, 3) := by decide +kernel
theorem d_M_comesIn_19 : decode b_M_comesIn 19 = .ok (.iload_n 3, 1) := by decide +kernel
theorem d_M_comesIn_20 : decode b_M_comesIn 20 = .ok (.iconst 1, 1) := by decide +kernel
theorem d_M_comesIn_21 : decode b_M_comesIn 21 = .ok (.isub, 1) := by decide +kernel
theorem d_M_comesIn_22 : decode b_M_comesIn 22 = .ok (.iaload, 1) := by decide +kernel
theorem d_M_comesIn_23 : decode b_M_comesIn 23 = .ok (.iastore, 1) := by decide +kernel
theorem d_M_comesIn_24 : decode b_M_comesIn 24 = .ok (.iinc 3 (-1), 3) := by decide +kernel
theorem d_M_comesIn_27 : decode b_M_comesIn 27 = .ok (.goto (-22), 3) := by decide +kernel
theorem d_M_comesIn_30 : decode b_M_comesIn 30 = .ok (.aload_n 0, 1) := by decide +kernel
theorem d_M_comesIn_31 : decode b_M_comesIn 31 = .ok (.getfield 84, 3) := by decide +kernel
theorem d_M_comesIn_34 : decode b_M_comesIn 34 = .ok (.iload_n 1, 1) := by decide +kernel
theorem d_M_comesIn_35 : decode b_M_comesIn 35 = .ok (.iload_n 2, 1) := by decide +kernel
theorem d_M_comesIn_36 : decode b_M_comesIn 36 = .ok (.iastore, 1) := by decide +kernel
theorem d_M_comesIn_37 : decode b_M_comesIn 37 = .ok (.aload_n 0, 1) := by decide +kernel
theorem d_M_comesIn_38 : decode b_M_comesIn 38 = .ok (.dup, 1) := by decide +kernel
theorem d_M_comesIn_39 : decode b_M_comesIn 39 = .ok (.getfield 272, 3) := by decide +kernel
theorem d_M_comesIn_42 : decode b_M_comesIn 42 = .ok (.iconst 1, 1) := by decide +kernel
theorem d_M_comesIn_43 : decode b_M_comesIn 43 = .ok (.iadd, 1) := by decide +kernel
theorem d_M_comesIn_44 : decode b_M_comesIn 44 = .ok (.putfield 272, 3) := by decide +kernel
theorem d_M_comesIn_47 : decode b_M_comesIn 47 = .ok (.return_, 1) := by decide +kernel
theorem d_M_answer_0 : decode b_M_answer 0 = .ok (.iload_n 1, 1) := by decide +kernel
theorem d_M_answer_1 : decode b_M_answer 1 = .ok (.invokestatic 154, 3) := by decide +kernel
theorem d_M_answer_4 : decode b_M_answer 4 = .ok (.ifCond .ne 6, 3) := by decide +kernel
theorem d_M_answer_7 : decode b_M_answer 7 = .ok (.bipush (-102), 2) := by decide +kernel
theorem d_M_answer_9 : decode b_M_answer 9 = .ok (.ireturn, 1) := by decide +kernel
theorem d_M_answer_10 : decode b_M_answer 10 = .ok (.aload_n 0, 1) := by decide +kernel
theorem d_M_answer_11 : decode b_M_answer 11 = .ok (.getfield 293, 3) := by decide +kernel
theorem d_M_answer_14 : decode b_M_answer 14 = .ok (.ifCond .ne 6, 3) := by decide +kernel
theorem d_M_answer_17 : decode b_M_answer 17 = .ok (.bipush (-103), 2) := by decide +kernel
theorem d_M_answer_19 : decode b_M_answer 19 = .ok (.ireturn, 1) := by decide +kernel
theorem d_M_answer_20 : decode b_M_answer 20 = .ok (.aload_n 0, 1) := by decide +kernel
theorem d_M_answer_21 : decode b_M_answer 21 = .ok (.iload_n 1, 1) := by decide +kernel
theorem d_M_answer_22 : decode b_M_answer 22 = .ok (.invokevirtual 123, 3) := by decide +kernel
theorem d_M_answer_25 : decode b_M_answer 25 = .ok (.iconst (-1), 1) := by decide +kernel
theorem d_M_answer_26 : decode b_M_answer 26 = .ok (.if_icmp .eq 20, 3) := by decide +kernel
theorem d_M_answer_29 : decode b_M_answer 29 = .ok (.aload_n 0, 1) := by decide +kernel
theorem d_M_answer_30 : decode b_M_answer 30 = .ok (.getfield 53, 3) := by decide +kernel
theorem d_M_answer_33 : decode b_M_answer 33 = .ok (.iconst 0, 1) := by decide +kernel
theorem d_M_answer_34 : decode b_M_answer 34 = .ok (.iload_n 1, 1) := by decide +kernel
theorem d_M_answer_35 : decode b_M_answer 35 = .ok (.iastore, 1) := by decide +kernel
theorem d_M_answer_36 : decode b_M_answer 36 = .ok (.aload_n 0, 1) := by decide +kernel
theorem d_M_answer_37 : decode b_M_answer 37 = .ok (.iconst 1, 1) := by decide +kernel
theorem d_M_answer_38 : decode b_M_answer 38 = .ok (.putfield 157, 3) := by decide +kernel
theorem d_M_answer_41 : decode b_M_answer 41 = .ok (.aload_n 0, 1) := by decide +kernel
theorem d_M_answer_42 : decode b_M_answer 42 = .ok (.invokevirtual 312, 3) := by decide +kernel
theorem d_M_answer_45 : decode b_M_answer 45 = .ok (.ireturn, 1) := by decide +kernel
theorem d_M_answer_46 : decode b_M_answer 46 = .ok (.aload_n 0, 1) := by decide +kernel
theorem d_M_answer_47 : decode b_M_answer 47 = .ok (.getfield 293, 3) := by decide +kernel
theorem d_M_answer_50 : decode b_M_answer 50 = .ok (.bipush 16, 2) := by decide +kernel
theorem d_M_answer_52 : decode b_M_answer 52 = .ok (.if_icmp .ne 12, 3) := by decide +kernel
theorem d_M_answer_55 : decode b_M_answer 55 = .ok (.aload_n 0, 1) := by decide +kernel
theorem d_M_answer_56 : decode b_M_answer 56 = .ok (.getfield 195, 3) := by decide +kernel
theorem d_M_answer_59 : decode b_M_answer 59 = .ok (.iconst 1, 1) := by decide +kernel
theorem d_M_answer_60 : decode b_M_answer 60 = .ok (.iadd, 1) := by decide +kernel
theorem d_M_answer_61 : decode b_M_answer 61 = .ok (.goto 4, 3) := by decide +kernel
theorem d_M_answer_64 : decode b_M_answer 64 = .ok (.iconst 1, 1) := by decide +kernel
theorem d_M_answer_65 : decode b_M_answer 65 = .ok (.istore_n 2, 1) := by decide +kernel
theorem d_M_answer_66 : decode b_M_answer 66 = .ok (.aload_n 0, 1) := by decide +kernel
theorem d_M_answer_67 : decode b_M_answer 67 = .ok (.getfield 272, 3) := by decide +kernel
theorem d_M_answer_70 : decode b_M_answer 70 = .ok (.iload_n 2, 1) := by decide +kernel
theorem d_M_answer_71 : decode b_M_answer 71 = .ok (.iadd, 1) := by decide +kernel
theorem d_M_answer_72 : decode b_M_answer 72 = .ok (.bipush 60, 2) := by decide +kernel
theorem d_M_answer_74 : decode b_M_answer 74 = .ok (.if_icmp .le 6, 3) := by decide +kernel
theorem d_M_answer_77 : decode b_M_answer 77 = .ok (.bipush (-104), 2) := by decide +kernel
theorem d_M_answer_79 : decode b_M_answer 79 = .ok (.ireturn, 1) := by decide +kernel
theorem d_M_answer_80 : decode b_M_answer 80 = .ok (.aload_n 0, 1) := by decide +kernel
theorem d_M_answer_81 : decode b_M_answer 81 = .ok (.getfield 293, 3) := by decide +kernel
theorem d_M_answer_84 : decode b_M_answer 84 = .ok (.bipush 15, 2) := by decide +kernel
theorem d_M_answer_86 : decode b_M_answer 86 = .ok (.if_icmp .ne 15, 3) := by decide +kernel
theorem d_M_answer_89 : decode b_M_answer 89 = .ok (.aload_n 0, 1) := by decide +kernel
theorem d_M_answer_90 : decode b_M_answer 90 = .ok (.aload_n 0, 1) := by decide +kernel
theorem d_M_answer_91 : decode b_M_answer 91 = .ok (.getfield 245, 3) := by decide +kernel
theorem d_M_answer_94 : decode b_M_answer 94 = .ok (.iload_n 1, 1) := by decide +kernel
theorem d_M_answer_95 : decode b_M_answer 95 = .ok (.invokevirtual 315, 3) := by decide +kernel
theorem d_M_answer_98 : decode b_M_answer 98 = .ok (.goto 42, 3) := by decide +kernel
theorem d_M_answer_101 : decode b_M_answer 101 = .ok (.iconst 0, 1) := by decide +kernel
theorem d_M_answer_102 : decode b_M_answer 102 = .ok (.istore_n 3, 1) := by decide +kernel
theorem d_M_answer_103 : decode b_M_answer 103 = .ok (.iload_n 3, 1) := by decide +kernel
theorem d_M_answer_104 : decode b_M_answer 104 = .ok (.aload_n 0, 1) := by decide +kernel
theorem d_M_answer_105 : decode b_M_answer 105 = .ok (.getfield 195, 3) := by decide +kernel
theorem d_M_answer_108 : decode b_M_answer 108 = .ok (.if_icmp .ge 23, 3) := by decide +kernel
theorem d_M_answer_111 : decode b_M_answer 111 = .ok (.aload_n 0, 1) := by decide +kernel
theorem d_M_answer_112 : decode b_M_answer 112 = .ok (.aload_n 0, 1) := by decide +kernel
theorem d_M_answer_113 : decode b_M_answer 113 = .ok (.getfield 272, 3) := by decide +kernel
theorem d_M_answer_116 : decode b_M_answer 116 = .ok (.aload_n 0, 1) := by decide +kernel
theorem d_M_answer_117 : decode b_M_answer 117 = .ok (.getfield 59, 3) := by decide +kernel
theorem d_M_answer_120 : decode b_M_answer 120 = .ok (.iload_n 3, 1) := by decide +kernel
theorem d_M_answer_121 : decode b_M_answer 121 = .ok (.iaload, 1) := by decide +kernel
theorem d_M_answer_122 : decode b_M_answer 122 = .ok (.invokevirtual 315, 3) := by decide +kernel
theorem d_M_answer_125 : decode b_M_answer 125 = .ok (.iinc 3 1, 3) := by decide +kernel
theorem d_M_answer_128 : decode b_M_answer 128 = .ok (.goto (-25), 3) := by decide +kernel
theorem d_M_answer_131 : decode b_M_answer 131 = .ok (.aload_n 0, 1) := by decide +kernel
theorem d_M_answer_132 : decode b_M_answer 132 = .ok (.aload_n 0, 1) := by decide +kernel
theorem d_M_answer_133 : decode b_M_answer 133 = .ok (.getfield 272, 3) := by decide +kernel
theorem d_M_answer_136 : decode b_M_answer 136 = .ok (.iload_n 1, 1) := by decide +kernel
theorem d_M_answer_137 : decode b_M_answer 137 = .ok (.invokevirtual 315, 3) := by decide +kernel
theorem d_M_answer_140 : decode b_M_answer 140 = .ok (.aload_n 0, 1) := by decide +kernel
theorem d_M_answer_141 : decode b_M_answer 141 = .ok (.invokevirtual 305, 3) := by decide +kernel
theorem d_M_answer_144 : decode b_M_answer 144 = .ok (.aload_n 0, 1) := by decide +kernel
theorem d_M_answer_145 : decode b_M_answer 145 = .ok (.invokevirtual 308, 3) := by decide +kernel
theorem d_M_answer_148 : decode b_M_answer 148 = .ok (.ireturn, 1) := by decide +kernel
theorem d_M_object_0 : decode b_M_object 0 = .ok (.aload_n 0, 1) := by decide +kernel
theorem d_M_object_1 : decode b_M_object 1 = .ok (.getfield 286, 3) := by decide +kernel
theorem d_M_object_4 : decode b_M_object 4 = .ok (.ifCond .eq 23, 3) := by decide +kernel
theorem d_M_object_7 : decode b_M_object 7 = .ok (.iload_n 1, 1) := by decide +kernel
theorem d_M_object_8 : decode b_M_object 8 = .ok (.iconst 0, 1) := by decide +kernel
theorem d_M_object_9 : decode b_M_object 9 = .ok (.aload_n 0, 1) := by decide +kernel
theorem d_M_object_10 : decode b_M_object 10 = .ok (.getfield 186, 3) := by decide +kernel
theorem d_M_object_13 : decode b_M_object 13 = .ok (.iconst 1, 1) := by decide +kernel
theorem d_M_object_14 : decode b_M_object 14 = .ok (.isub, 1) := by decide +kernel
theorem d_M_object_15 : decode b_M_object 15 = .ok (.invokestatic 112, 3) := by decide +kernel
theorem d_M_object_18 : decode b_M_object 18 = .ok (.ifCond .eq 9, 3) := by decide +kernel
theorem d_M_object_21 : decode b_M_object 21 = .ok (.iload_n 2, 1) := by decide +kernel
theorem d_M_object_22 : decode b_M_object 22 = .ok (.bipush (-2), 2) := by decide +kernel
theorem d_M_object_24 : decode b_M_object 24 = .ok (.if_icmp .ge 5, 3) := by decide +kernel
theorem d_M_object_27 : decode b_M_object 27 = .ok (.iconst (-1), 1) := by decide +kernel
theorem d_M_object_28 : decode b_M_object 28 = .ok (.ireturn, 1) := by decide +kernel
theorem d_M_object_29 : decode b_M_object 29 = .ok (.aload_n 0, 1) := by decide +kernel
theorem d_M_object_30 : decode b_M_object 30 = .ok (.getfield 22, 3) := by decide +kernel
theorem d_M_object_33 : decode b_M_object 33 = .ok (.aload_n 0, 1) := by decide +kernel
theorem d_M_object_34 : decode b_M_object 34 = .ok (.getfield 109, 3) := by decide +kernel
theorem d_M_object_37 : decode b_M_object 37 = .ok (.baload, 1) := by decide +kernel
theorem d_M_object_38 : decode b_M_object 38 = .ok (.ifCond .eq 17, 3) := by decide +kernel
theorem d_M_object_41 : decode b_M_object 41 = .ok (.aload_n 0, 1) := by decide +kernel
theorem d_M_object_42 : decode b_M_object 42 = .ok (.getfield 186, 3) := by decide +kernel
theorem d_M_object_45 : decode b_M_object 45 = .ok (.iconst 2, 1) := by decide +kernel
theorem d_M_object_46 : decode b_M_object 46 = .ok (.if_icmp .ne 9, 3) := by decide +kernel
theorem d_M_object_49 : decode b_M_object 49 = .ok (.iconst 1, 1) := by decide +kernel
theorem d_M_object_50 : decode b_M_object 50 = .ok (.iload_n 1, 1) := by decide +kernel
theorem d_M_object_51 : decode b_M_object 51 = .ok (.isub, 1) := by decide +kernel
theorem d_M_object_52 : decode b_M_object 52 = .ok (.goto 4, 3) := by decide +kernel
theorem d_M_object_55 : decode b_M_object 55 = .ok (.iload_n 1, 1) := by decide +kernel
theorem d_M_object_56 : decode b_M_object 56 = .ok (.istore_n 3, 1) := by decide +kernel
theorem d_M_object_57 : decode b_M_object 57 = .ok (.aload_n 0, 1) := by decide +kernel
theorem d_M_object_58 : decode b_M_object 58 = .ok (.getfield 65, 3) := by decide +kernel
theorem d_M_object_61 : decode b_M_object 61 = .ok (.iload_n 3, 1) := by decide +kernel
theorem d_M_object_62 : decode b_M_object 62 = .ok (.iaload, 1) := by decide +kernel
theorem d_M_object_63 : decode b_M_object 63 = .ok (.istore 4, 2) := by decide +kernel
theorem d_M_object_65 : decode b_M_object 65 = .ok (.iload_n 2, 1) := by decide +kernel
theorem d_M_object_66 : decode b_M_object 66 = .ok (.bipush (-2), 2) := by decide +kernel
theorem d_M_object_68 : decode b_M_object 68 = .ok (.if_icmp .ne 6, 3) := by decide +kernel
theorem d_M_object_71 : decode b_M_object 71 = .ok (.iload 4, 2) := by decide +kernel
theorem d_M_object_73 : decode b_M_object 73 = .ok (.ireturn, 1) := by decide +kernel
theorem d_M_object_74 : decode b_M_object 74 = .ok (.iload 4, 2) := by decide +kernel
theorem d_M_object_76 : decode b_M_object 76 = .ok (.bipush 8, 2) := by decide +kernel
theorem d_M_object_78 : decode b_M_object 78 = .ok (.if_icmp .gt 33, 3) := by decide +kernel
theorem d_M_object_81 : decode b_M_object 81 = .ok (.iload_n 2, 1) := by decide +kernel
theorem d_M_object_82 : decode b_M_object 82 = .ok (.iconst (-1), 1) := by decide +kernel
theorem d_M_object_83 : decode b_M_object 83 = .ok (.if_icmp .ne 16, 3) := by decide +kernel
theorem d_M_object_86 : decode b_M_object 86 = .ok (.aload_n 0, 1) := by decide +kernel
theorem d_M_object_87 : decode b_M_object 87 = .ok (.aload_n 0, 1) := by decide +kernel
theorem d_M_object_88 : decode b_M_object 88 = .ok (.getfield 71, 3) := by decide +kernel
theorem d_M_object_91 : decode b_M_object 91 = .ok (.iload_n 3, 1) := by decide +kernel
theorem d_M_object_92 : decode b_M_object 92 = .ok (.laload, 1) := by decide +kernel
theorem d_M_object_93 : decode b_M_object 93 = .ok (.invokevirtual 238, 3) := by decide +kernel
theorem d_M_object_96 : decode b_M_object 96 = .ok (.goto 14, 3) := by decide +kernel
theorem d_M_object_99 : decode b_M_object 99 = .ok (.aload_n 0, 1) := by decide +kernel
theorem d_M_object_100 : decode b_M_object 100 = .ok (.aload_n 0, 1) := by decide +kernel
theorem d_M_object_101 : decode b_M_object 101 = .ok (.getfield 71, 3) := by decide +kernel
theorem d_M_object_104 : decode b_M_object 104 = .ok (.iload_n 3, 1) := by decide +kernel
theorem d_M_object_105 : decode b_M_object 105 = .ok (.laload, 1) := by decide +kernel
theorem d_M_object_106 : decode b_M_object 106 = .ok (.iload_n 2, 1) := by decide +kernel
theorem d_M_object_107 : decode b_M_object 107 = .ok (.invokevirtual 262, 3) := by decide +kernel
theorem d_M_object_110 : decode b_M_object 110 = .ok (.ireturn, 1) := by decide +kernel
theorem d_M_object_111 : decode b_M_object 111 = .ok (.iload 4, 2) := by decide +kernel
theorem d_M_object_113 : decode b_M_object 113 = .ok (.bipush 9, 2) := by decide +kernel
theorem d_M_object_115 : decode b_M_object 115 = .ok (.if_icmp .ne 52, 3) := by decide +kernel
theorem d_M_object_118 : decode b_M_object 118 = .ok (.aload_n 0, 1) := by decide +kernel
theorem d_M_object_119 : decode b_M_object 119 = .ok (.getfield 78, 3) := by decide +kernel
theorem d_M_object_122 : decode b_M_object 122 = .ok (.iload_n 3, 1) := by decide +kernel
theorem d_M_object_123 : decode b_M_object 123 = .ok (.iaload, 1) := by decide +kernel
theorem d_M_object_124 : decode b_M_object 124 = .ok (.aload_n 0, 1) := by decide +kernel
theorem d_M_object_125 : decode b_M_object 125 = .ok (.getfield 75, 3) := by decide +kernel
theorem d_M_object_128 : decode b_M_object 128 = .ok (.iload_n 3, 1) := by decide +kernel
theorem d_M_object_129 : decode b_M_object 129 = .ok (.iaload, 1) := by decide +kernel
theorem d_M_object_130 : decode b_M_object 130 = .ok (.isub, 1) := by decide +kernel
theorem d_M_object_131 : decode b_M_object 131 = .ok (.istore 5, 2) := by decide +kernel
theorem d_M_object_133 : decode b_M_object 133 = .ok (.iload_n 2, 1) := by decide +kernel
theorem d_M_object_134 : decode b_M_object 134 = .ok (.iconst (-1), 1) := by decide +kernel
theorem d_M_object_135 : decode b_M_object 135 = .ok (.if_icmp .ne 8, 3) := by decide +kernel
theorem d_M_object_138 : decode b_M_object 138 = .ok (.iload 5, 2) := by decide +kernel
theorem d_M_object_140 : decode b_M_object 140 = .ok (.goto 26, 3) := by decide +kernel
theorem d_M_object_143 : decode b_M_object 143 = .ok (.iload_n 2, 1) := by decide +kernel
theorem d_M_object_144 : decode b_M_object 144 = .ok (.iload 5, 2) := by decide +kernel
theorem d_M_object_146 : decode b_M_object 146 = .ok (.if_icmp .ge 19, 3) := by decide +kernel
theorem d_M_object_149 : decode b_M_object 149 = .ok (.aload_n 0, 1) := by decide +kernel
theorem d_M_object_150 : decode b_M_object 150 = .ok (.getfield 56, 3) := by decide +kernel
theorem d_M_object_153 : decode b_M_object 153 = .ok (.aload_n 0, 1) := by decide +kernel
theorem d_M_object_154 : decode b_M_object 154 = .ok (.getfield 75, 3) := by decide +kernel
theorem d_M_object_157 : decode b_M_object 157 = .ok (.iload_n 3, 1) := by decide +kernel
theorem d_M_object_158 : decode b_M_object 158 = .ok (.iaload, 1) := by decide +kernel
theorem d_M_object_159 : decode b_M_object 159 = .ok (.iload_n 2, 1) := by decide +kernel
theorem d_M_object_160 : decode b_M_object 160 = .ok (.iadd, 1) := by decide +kernel
theorem d_M_object_161 : decode b_M_object 161 = .ok (.iaload, 1) := by decide +kernel
theorem d_M_object_162 : decode b_M_object 162 = .ok (.goto 4, 3) := by decide +kernel
theorem d_M_object_165 : decode b_M_object 165 = .ok (.iconst (-1), 1) := by decide +kernel
theorem d_M_object_166 : decode b_M_object 166 = .ok (.ireturn, 1) := by decide +kernel
theorem d_M_object_167 : decode b_M_object 167 = .ok (.iload_n 2, 1) := by decide +kernel
theorem d_M_object_168 : decode b_M_object 168 = .ok (.iconst (-1), 1) := by decide +kernel
theorem d_M_object_169 : decode b_M_object 169 = .ok (.if_icmp .ne 7, 3) := by decide +kernel
theorem d_M_object_172 : decode b_M_object 172 = .ok (.iconst 1, 1) := by decide +kernel
theorem d_M_object_173 : decode b_M_object 173 = .ok (.goto 17, 3) := by decide +kernel
theorem d_M_object_176 : decode b_M_object 176 = .ok (.iload_n 2, 1) := by decide +kernel
theorem d_M_object_177 : decode b_M_object 177 = .ok (.ifCond .ne 12, 3) := by decide +kernel
theorem d_M_object_180 : decode b_M_object 180 = .ok (.aload_n 0, 1) := by decide +kernel
theorem d_M_object_181 : decode b_M_object 181 = .ok (.getfield 81, 3) := by decide +kernel
theorem d_M_object_184 : decode b_M_object 184 = .ok (.iload_n 3, 1) := by decide +kernel
theorem d_M_object_185 : decode b_M_object 185 = .ok (.iaload, 1) := by decide +kernel
theorem d_M_object_186 : decode b_M_object 186 = .ok (.goto 4, 3) := by decide +kernel
theorem d_M_object_189 : decode b_M_object 189 = .ok (.iconst (-1), 1) := by decide +kernel
theorem d_M_object_190 : decode b_M_object 190 = .ok (.ireturn, 1) := by decide +kernel
theorem d_M_asked_0 : decode b_M_asked 0 = .ok (.iload_n 1, 1) := by decide +kernel
theorem d_M_asked_1 : decode b_M_asked 1 = .ok (.iconst (-1), 1) := by decide +kernel
theorem d_M_asked_2 : decode b_M_asked 2 = .ok (.if_icmp .ne 8, 3) := by decide +kernel
theorem d_M_asked_5 : decode b_M_asked 5 = .ok (.aload_n 0, 1) := by decide +kernel
theorem d_M_asked_6 : decode b_M_asked 6 = .ok (.getfield 293, 3) := by decide +kernel
theorem d_M_asked_9 : decode b_M_asked 9 = .ok (.ireturn, 1) := by decide +kernel
theorem d_M_asked_10 : decode b_M_asked 10 = .ok (.aload_n 0, 1) := by decide +kernel
theorem d_M_asked_11 : decode b_M_asked 11 = .ok (.getfield 293, 3) := by decide +kernel
theorem d_M_asked_14 : decode b_M_asked 14 = .ok (.ifCond .eq 7, 3) := by decide +kernel
theorem d_M_asked_17 : decode b_M_asked 17 = .ok (.iload_n 1, 1) := by decide +kernel
theorem d_M_asked_18 : decode b_M_asked 18 = .ok (.ifCond .ge 5, 3) := by decide +kernel
theorem d_M_asked_21 : decode b_M_asked 21 = .ok (.iconst (-1), 1) := by decide +kernel
theorem d_M_asked_22 : decode b_M_asked 22 = .ok (.ireturn, 1) := by decide +kernel
theorem d_M_asked_23 : decode b_M_asked 23 = .ok (.aload_n 0, 1) := by decide +kernel
theorem d_M_asked_24 : decode b_M_asked 24 = .ok (.getfield 293, 3) := by decide +kernel
theorem d_M_asked_27 : decode b_M_asked 27 = .ok (.bipush 15, 2) := by decide +kernel
theorem d_M_asked_29 : decode b_M_asked 29 = .ok (.if_icmp .ne 13, 3) := by decide +kernel
theorem d_M_asked_32 : decode b_M_asked 32 = .ok (.aload_n 0, 1) := by decide +kernel
theorem d_M_asked_33 : decode b_M_asked 33 = .ok (.aload_n 0, 1) := by decide +kernel
theorem d_M_asked_34 : decode b_M_asked 34 = .ok (.getfield 242, 3) := by decide +kernel
theorem d_M_asked_37 : decode b_M_asked 37 = .ok (.iload_n 1, 1) := by decide +kernel
theorem d_M_asked_38 : decode b_M_asked 38 = .ok (.invokevirtual 262, 3) := by decide +kernel
theorem d_M_asked_41 : decode b_M_asked 41 = .ok (.ireturn, 1) := by decide +kernel
theorem d_M_asked_42 : decode b_M_asked 42 = .ok (.iload_n 1, 1) := by decide +kernel
theorem d_M_asked_43 : decode b_M_asked 43 = .ok (.ifCond .ne 10, 3) := by decide +kernel
theorem d_M_asked_46 : decode b_M_asked 46 = .ok (.aload_n 0, 1) := by decide +kernel
theorem d_M_asked_47 : decode b_M_asked 47 = .ok (.getfield 256, 3) := by decide +kernel
theorem d_M_asked_50 : decode b_M_asked 50 = .ok (.goto 23, 3) := by decide +kernel
theorem d_M_asked_53 : decode b_M_asked 53 = .ok (.iload_n 1, 1) := by decide +kernel
theorem d_M_asked_54 : decode b_M_asked 54 = .ok (.aload_n 0, 1) := by decide +kernel
theorem d_M_asked_55 : decode b_M_asked 55 = .ok (.getfield 195, 3) := by decide +kernel
theorem d_M_asked_58 : decode b_M_asked 58 = .ok (.if_icmp .gt 14, 3) := by decide +kernel
theorem d_M_asked_61 : decode b_M_asked 61 = .ok (.aload_n 0, 1) := by decide +kernel
theorem d_M_asked_62 : decode b_M_asked 62 = .ok (.getfield 59, 3) := by decide +kernel
theorem d_M_asked_65 : decode b_M_asked 65 = .ok (.iload_n 1, 1) := by decide +kernel
theorem d_M_asked_66 : decode b_M_asked 66 = .ok (.iconst 1, 1) := by decide +kernel
theorem d_M_asked_67 : decode b_M_asked 67 = .ok (.isub, 1) := by decide +kernel
theorem d_M_asked_68 : decode b_M_asked 68 = .ok (.iaload, 1) := by decide +kernel
theorem d_M_asked_69 : decode b_M_asked 69 = .ok (.goto 4, 3) := by decide +kernel
theorem d_M_asked_72 : decode b_M_asked 72 = .ok (.iconst (-1), 1) := by decide +kernel
theorem d_M_asked_73 : decode b_M_asked 73 = .ok (.ireturn, 1) := by decide +kernel
theorem d_M_filled_0 : decode b_M_filled 0 = .ok (.aload_n 0, 1) := by decide +kernel
theorem d_M_filled_1 : decode b_M_filled 1 = .ok (.getfield 286, 3) := by decide +kernel
theorem d_M_filled_4 : decode b_M_filled 4 = .ok (.ifCond .eq 26, 3) := by decide +kernel
theorem d_M_filled_7 : decode b_M_filled 7 = .ok (.iload_n 1, 1) := by decide +kernel
theorem d_M_filled_8 : decode b_M_filled 8 = .ok (.iconst 0, 1) := by decide +kernel
theorem d_M_filled_9 : decode b_M_filled 9 = .ok (.aload_n 0, 1) := by decide +kernel
theorem d_M_filled_10 : decode b_M_filled 10 = .ok (.getfield 192, 3) := by decide +kernel
theorem d_M_filled_13 : decode b_M_filled 13 = .ok (.iconst 1, 1) := by decide +kernel
theorem d_M_filled_14 : decode b_M_filled 14 = .ok (.isub, 1) := by decide +kernel
theorem d_M_filled_15 : decode b_M_filled 15 = .ok (.invokestatic 112, 3) := by decide +kernel
theorem d_M_filled_18 : decode b_M_filled 18 = .ok (.ifCond .eq 12, 3) := by decide +kernel
theorem d_M_filled_21 : decode b_M_filled 21 = .ok (.aload_n 0, 1) := by decide +kernel
theorem d_M_filled_22 : decode b_M_filled 22 = .ok (.getfield 62, 3) := by decide +kernel
theorem d_M_filled_25 : decode b_M_filled 25 = .ok (.iload_n 1, 1) := by decide +kernel
theorem d_M_filled_26 : decode b_M_filled 26 = .ok (.iaload, 1) := by decide +kernel
theorem d_M_filled_27 : decode b_M_filled 27 = .ok (.goto 4, 3) := by decide +kernel
theorem d_M_filled_30 : decode b_M_filled 30 = .ok (.iconst (-1), 1) := by decide +kernel
theorem d_M_filled_31 : decode b_M_filled 31 = .ok (.ireturn, 1) := by decide +kernel
theorem d_M_told_0 : decode b_M_told 0 = .ok (.iload_n 1, 1) := by decide +kernel
theorem d_M_told_1 : decode b_M_told 1 = .ok (.tableswitch 114 0 10 #[59, 64, 69, 74, 79, 84, 89, 94, 99, 104, 109], 59) := by decide +kernel
theorem d_M_told_60 : decode b_M_told 60 = .ok (.aload_n 0, 1) := by decide +kernel
theorem d_M_told_61 : decode b_M_told 61 = .ok (.getfield 269, 3) := by decide +kernel
theorem d_M_told_64 : decode b_M_told 64 = .ok (.ireturn, 1) := by decide +kernel
theorem d_M_told_65 : decode b_M_told 65 = .ok (.aload_n 0, 1) := by decide +kernel
theorem d_M_told_66 : decode b_M_told 66 = .ok (.getfield 106, 3) := by decide +kernel
theorem d_M_told_69 : decode b_M_told 69 = .ok (.ireturn, 1) := by decide +kernel
theorem d_M_told_70 : decode b_M_told 70 = .ok (.aload_n 0, 1) := by decide +kernel
theorem d_M_told_71 : decode b_M_told 71 = .ok (.getfield 109, 3) := by decide +kernel
theorem d_M_told_74 : decode b_M_told 74 = .ok (.ireturn, 1) := by decide +kernel
theorem d_M_told_75 : decode b_M_told 75 = .ok (.aload_n 0, 1) := by decide +kernel
theorem d_M_told_76 : decode b_M_told 76 = .ok (.getfield 103, 3) := by decide +kernel
theorem d_M_told_79 : decode b_M_told 79 = .ok (.ireturn, 1) := by decide +kernel
theorem d_M_told_80 : decode b_M_told 80 = .ok (.aload_n 0, 1) := by decide +kernel
theorem d_M_told_81 : decode b_M_told 81 = .ok (.getfield 266, 3) := by decide +kernel
theorem d_M_told_84 : decode b_M_told 84 = .ok (.ireturn, 1) := by decide +kernel
theorem d_M_told_85 : decode b_M_told 85 = .ok (.aload_n 0, 1) := by decide +kernel
theorem d_M_told_86 : decode b_M_told 86 = .ok (.getfield 157, 3) := by decide +kernel
theorem d_M_told_89 : decode b_M_told 89 = .ok (.ireturn, 1) := by decide +kernel
theorem d_M_told_90 : decode b_M_told 90 = .ok (.aload_n 0, 1) := by decide +kernel
theorem d_M_told_91 : decode b_M_told 91 = .ok (.getfield 272, 3) := by decide +kernel
theorem d_M_told_94 : decode b_M_told 94 = .ok (.ireturn, 1) := by decide +kernel
theorem d_M_told_95 : decode b_M_told 95 = .ok (.aload_n 0, 1) := by decide +kernel
theorem d_M_told_96 : decode b_M_told 96 = .ok (.getfield 127, 3) := by decide +kernel
theorem d_M_told_99 : decode b_M_told 99 = .ok (.ireturn, 1) := by decide +kernel
theorem d_M_told_100 : decode b_M_told 100 = .ok (.aload_n 0, 1) := by decide +kernel
theorem d_M_told_101 : decode b_M_told 101 = .ok (.getfield 134, 3) := by decide +kernel
theorem d_M_told_104 : decode b_M_told 104 = .ok (.ireturn, 1) := by decide +kernel
theorem d_M_told_105 : decode b_M_told 105 = .ok (.aload_n 0, 1) := by decide +kernel
theorem d_M_told_106 : decode b_M_told 106 = .ok (.getfield 140, 3) := by decide +kernel
theorem d_M_told_109 : decode b_M_told 109 = .ok (.ireturn, 1) := by decide +kernel
theorem d_M_told_110 : decode b_M_told 110 = .ok (.aload_n 0, 1) := by decide +kernel
theorem d_M_told_111 : decode b_M_told 111 = .ok (.getfield 147, 3) := by decide +kernel
theorem d_M_told_114 : decode b_M_told 114 = .ok (.ireturn, 1) := by decide +kernel
theorem d_M_told_115 : decode b_M_told 115 = .ok (.iconst (-1), 1) := by decide +kernel
theorem d_M_told_116 : decode b_M_told 116 = .ok (.ireturn, 1) := by decide +kernel
theorem d_M_trace_0 : decode b_M_trace 0 = .ok (.iload_n 1, 1) := by decide +kernel
theorem d_M_trace_1 : decode b_M_trace 1 = .ok (.iconst 0, 1) := by decide +kernel
theorem d_M_trace_2 : decode b_M_trace 2 = .ok (.aload_n 0, 1) := by decide +kernel
theorem d_M_trace_3 : decode b_M_trace 3 = .ok (.getfield 266, 3) := by decide +kernel
theorem d_M_trace_6 : decode b_M_trace 6 = .ok (.iconst 1, 1) := by decide +kernel
theorem d_M_trace_7 : decode b_M_trace 7 = .ok (.isub, 1) := by decide +kernel
theorem d_M_trace_8 : decode b_M_trace 8 = .ok (.invokestatic 112, 3) := by decide +kernel
theorem d_M_trace_11 : decode b_M_trace 11 = .ok (.ifCond .eq 12, 3) := by decide +kernel
theorem d_M_trace_14 : decode b_M_trace 14 = .ok (.iload_n 2, 1) := by decide +kernel
theorem d_M_trace_15 : decode b_M_trace 15 = .ok (.iconst 0, 1) := by decide +kernel
theorem d_M_trace_16 : decode b_M_trace 16 = .ok (.iconst 2, 1) := by decide +kernel
theorem d_M_trace_17 : decode b_M_trace 17 = .ok (.invokestatic 112, 3) := by decide +kernel
theorem d_M_trace_20 : decode b_M_trace 20 = .ok (.ifCond .ne 5, 3) := by decide +kernel
theorem d_M_trace_23 : decode b_M_trace 23 = .ok (.iconst (-1), 1) := by decide +kernel
theorem d_M_trace_24 : decode b_M_trace 24 = .ok (.ireturn, 1) := by decide +kernel
theorem d_M_trace_25 : decode b_M_trace 25 = .ok (.iload_n 2, 1) := by decide +kernel
theorem d_M_trace_26 : decode b_M_trace 26 = .ok (.ifCond .ne 12, 3) := by decide +kernel
theorem d_M_trace_29 : decode b_M_trace 29 = .ok (.aload_n 0, 1) := by decide +kernel
theorem d_M_trace_30 : decode b_M_trace 30 = .ok (.getfield 87, 3) := by decide +kernel
theorem d_M_trace_33 : decode b_M_trace 33 = .ok (.iload_n 1, 1) := by decide +kernel
theorem d_M_trace_34 : decode b_M_trace 34 = .ok (.iaload, 1) := by decide +kernel
theorem d_M_trace_35 : decode b_M_trace 35 = .ok (.goto 23, 3) := by decide +kernel
theorem d_M_trace_38 : decode b_M_trace 38 = .ok (.iload_n 2, 1) := by decide +kernel
theorem d_M_trace_39 : decode b_M_trace 39 = .ok (.iconst 1, 1) := by decide +kernel
theorem d_M_trace_40 : decode b_M_trace 40 = .ok (.if_icmp .ne 12, 3) := by decide +kernel
theorem d_M_trace_43 : decode b_M_trace 43 = .ok (.aload_n 0, 1) := by decide +kernel
theorem d_M_trace_44 : decode b_M_trace 44 = .ok (.getfield 90, 3) := by decide +kernel
theorem d_M_trace_47 : decode b_M_trace 47 = .ok (.iload_n 1, 1) := by decide +kernel
theorem d_M_trace_48 : decode b_M_trace 48 = .ok (.iaload, 1) := by decide +kernel
theorem d_M_trace_49 : decode b_M_trace 49 = .ok (.goto 9, 3) := by decide +kernel
theorem d_M_trace_52 : decode b_M_trace 52 = .ok (.aload_n 0, 1) := by decide +kernel
theorem d_M_trace_53 : decode b_M_trace 53 = .ok (.getfield 93, 3) := by decide +kernel
theorem d_M_trace_56 : decode b_M_trace 56 = .ok (.iload_n 1, 1) := by decide +kernel
theorem d_M_trace_57 : decode b_M_trace 57 = .ok (.iaload, 1) := by decide +kernel
