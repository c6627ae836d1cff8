theorem d_M_init_0 : decode b_M_init 0 = .ok (.aload_n 0, 1) := by decide +kernel
theorem d_M_init_1 : decode b_M_init 1 = .ok (.invokespecial 1, 3) := by decide +kernel
theorem d_M_init_4 : decode b_M_init 4 = .ok (.aload_n 0, 1) := by decide +kernel
theorem d_M_init_5 : decode b_M_init 5 = .ok (.bipush 64, 2) := by decide +kernel
theorem d_M_init_7 : decode b_M_init 7 = .ok (.newarray .boolean, 2) := by decide +kernel
theorem d_M_init_9 : decode b_M_init 9 = .ok (.putfield 7, 3) := by decide +kernel
theorem d_M_init_12 : decode b_M_init 12 = .ok (.aload_n 0, 1) := by decide +kernel
theorem d_M_init_13 : decode b_M_init 13 = .ok (.bipush 64, 2) := by decide +kernel
theorem d_M_init_15 : decode b_M_init 15 = .ok (.newarray .short, 2) := by decide +kernel
theorem d_M_init_17 : decode b_M_init 17 = .ok (.putfield 13, 3) := by decide +kernel
theorem d_M_init_20 : decode b_M_init 20 = .ok (.aload_n 0, 1) := by decide +kernel
theorem d_M_init_21 : decode b_M_init 21 = .ok (.sipush 1024, 3) := by decide +kernel
theorem d_M_init_24 : decode b_M_init 24 = .ok (.newarray .short, 2) := by decide +kernel
theorem d_M_init_26 : decode b_M_init 26 = .ok (.putfield 17, 3) := by decide +kernel
theorem d_M_init_29 : decode b_M_init 29 = .ok (.aload_n 0, 1) := by decide +kernel
theorem d_M_init_30 : decode b_M_init 30 = .ok (.bipush 40, 2) := by decide +kernel
theorem d_M_init_32 : decode b_M_init 32 = .ok (.newarray .int, 2) := by decide +kernel
theorem d_M_init_34 : decode b_M_init 34 = .ok (.putfield 20, 3) := by decide +kernel
theorem d_M_init_37 : decode b_M_init 37 = .ok (.aload_n 0, 1) := by decide +kernel
theorem d_M_init_38 : decode b_M_init 38 = .ok (.bipush 40, 2) := by decide +kernel
theorem d_M_init_40 : decode b_M_init 40 = .ok (.newarray .int, 2) := by decide +kernel
theorem d_M_init_42 : decode b_M_init 42 = .ok (.putfield 24, 3) := by decide +kernel
theorem d_M_init_45 : decode b_M_init 45 = .ok (.aload_n 0, 1) := by decide +kernel
theorem d_M_init_46 : decode b_M_init 46 = .ok (.bipush 40, 2) := by decide +kernel
theorem d_M_init_48 : decode b_M_init 48 = .ok (.newarray .int, 2) := by decide +kernel
theorem d_M_init_50 : decode b_M_init 50 = .ok (.putfield 27, 3) := by decide +kernel
theorem d_M_init_53 : decode b_M_init 53 = .ok (.aload_n 0, 1) := by decide +kernel
theorem d_M_init_54 : decode b_M_init 54 = .ok (.bipush 40, 2) := by decide +kernel
theorem d_M_init_56 : decode b_M_init 56 = .ok (.newarray .int, 2) := by decide +kernel
theorem d_M_init_58 : decode b_M_init 58 = .ok (.putfield 30, 3) := by decide +kernel
theorem d_M_init_61 : decode b_M_init 61 = .ok (.aload_n 0, 1) := by decide +kernel
theorem d_M_init_62 : decode b_M_init 62 = .ok (.bipush 40, 2) := by decide +kernel
theorem d_M_init_64 : decode b_M_init 64 = .ok (.newarray .int, 2) := by decide +kernel
theorem d_M_init_66 : decode b_M_init 66 = .ok (.putfield 33, 3) := by decide +kernel
theorem d_M_init_69 : decode b_M_init 69 = .ok (.aload_n 0, 1) := by decide +kernel
theorem d_M_init_70 : decode b_M_init 70 = .ok (.bipush 40, 2) := by decide +kernel
theorem d_M_init_72 : decode b_M_init 72 = .ok (.newarray .int, 2) := by decide +kernel
theorem d_M_init_74 : decode b_M_init 74 = .ok (.putfield 36, 3) := by decide +kernel
theorem d_M_init_77 : decode b_M_init 77 = .ok (.aload_n 0, 1) := by decide +kernel
theorem d_M_init_78 : decode b_M_init 78 = .ok (.sipush 2560, 3) := by decide +kernel
theorem d_M_init_81 : decode b_M_init 81 = .ok (.newarray .short, 2) := by decide +kernel
theorem d_M_init_83 : decode b_M_init 83 = .ok (.putfield 39, 3) := by decide +kernel
theorem d_M_init_86 : decode b_M_init 86 = .ok (.aload_n 0, 1) := by decide +kernel
theorem d_M_init_87 : decode b_M_init 87 = .ok (.bipush 64, 2) := by decide +kernel
theorem d_M_init_89 : decode b_M_init 89 = .ok (.newarray .short, 2) := by decide +kernel
theorem d_M_init_91 : decode b_M_init 91 = .ok (.putfield 42, 3) := by decide +kernel
theorem d_M_init_94 : decode b_M_init 94 = .ok (.aload_n 0, 1) := by decide +kernel
theorem d_M_init_95 : decode b_M_init 95 = .ok (.bipush 6, 2) := by decide +kernel
theorem d_M_init_97 : decode b_M_init 97 = .ok (.newarray .int, 2) := by decide +kernel
theorem d_M_init_99 : decode b_M_init 99 = .ok (.putfield 45, 3) := by decide +kernel
theorem d_M_init_102 : decode b_M_init 102 = .ok (.aload_n 0, 1) := by decide +kernel
theorem d_M_init_103 : decode b_M_init 103 = .ok (.bipush 6, 2) := by decide +kernel
theorem d_M_init_105 : decode b_M_init 105 = .ok (.newarray .int, 2) := by decide +kernel
theorem d_M_init_107 : decode b_M_init 107 = .ok (.putfield 48, 3) := by decide +kernel
theorem d_M_init_110 : decode b_M_init 110 = .ok (.aload_n 0, 1) := by decide +kernel
theorem d_M_init_111 : decode b_M_init 111 = .ok (.bipush 6, 2) := by decide +kernel
theorem d_M_init_113 : decode b_M_init 113 = .ok (.newarray .int, 2) := by decide +kernel
theorem d_M_init_115 : decode b_M_init 115 = .ok (.putfield 51, 3) := by decide +kernel
theorem d_M_init_118 : decode b_M_init 118 = .ok (.aload_n 0, 1) := by decide +kernel
theorem d_M_init_119 : decode b_M_init 119 = .ok (.bipush 6, 2) := by decide +kernel
theorem d_M_init_121 : decode b_M_init 121 = .ok (.newarray .int, 2) := by decide +kernel
theorem d_M_init_123 : decode b_M_init 123 = .ok (.putfield 54, 3) := by decide +kernel
theorem d_M_init_126 : decode b_M_init 126 = .ok (.aload_n 0, 1) := by decide +kernel
theorem d_M_init_127 : decode b_M_init 127 = .ok (.bipush 6, 2) := by decide +kernel
theorem d_M_init_129 : decode b_M_init 129 = .ok (.newarray .int, 2) := by decide +kernel
theorem d_M_init_131 : decode b_M_init 131 = .ok (.putfield 57, 3) := by decide +kernel
theorem d_M_init_134 : decode b_M_init 134 = .ok (.aload_n 0, 1) := by decide +kernel
theorem d_M_init_135 : decode b_M_init 135 = .ok (.sipush 384, 3) := by decide +kernel
theorem d_M_init_138 : decode b_M_init 138 = .ok (.newarray .short, 2) := by decide +kernel
theorem d_M_init_140 : decode b_M_init 140 = .ok (.putfield 60, 3) := by decide +kernel
theorem d_M_init_143 : decode b_M_init 143 = .ok (.aload_n 0, 1) := by decide +kernel
theorem d_M_init_144 : decode b_M_init 144 = .ok (.sipush 384, 3) := by decide +kernel
theorem d_M_init_147 : decode b_M_init 147 = .ok (.newarray .short, 2) := by decide +kernel
theorem d_M_init_149 : decode b_M_init 149 = .ok (.putfield 63, 3) := by decide +kernel
theorem d_M_init_152 : decode b_M_init 152 = .ok (.aload_n 0, 1) := by decide +kernel
theorem d_M_init_153 : decode b_M_init 153 = .ok (.sipush 384, 3) := by decide +kernel
theorem d_M_init_156 : decode b_M_init 156 = .ok (.newarray .int, 2) := by decide +kernel
theorem d_M_init_158 : decode b_M_init 158 = .ok (.putfield 66, 3) := by decide +kernel
theorem d_M_init_161 : decode b_M_init 161 = .ok (.aload_n 0, 1) := by decide +kernel
theorem d_M_init_162 : decode b_M_init 162 = .ok (.sipush 384, 3) := by decide +kernel
theorem d_M_init_165 : decode b_M_init 165 = .ok (.newarray .int, 2) := by decide +kernel
theorem d_M_init_167 : decode b_M_init 167 = .ok (.putfield 69, 3) := by decide +kernel
theorem d_M_init_170 : decode b_M_init 170 = .ok (.aload_n 0, 1) := by decide +kernel
theorem d_M_init_171 : decode b_M_init 171 = .ok (.sipush 384, 3) := by decide +kernel
theorem d_M_init_174 : decode b_M_init 174 = .ok (.newarray .int, 2) := by decide +kernel
theorem d_M_init_176 : decode b_M_init 176 = .ok (.putfield 72, 3) := by decide +kernel
theorem d_M_init_179 : decode b_M_init 179 = .ok (.iconst 0, 1) := by decide +kernel
theorem d_M_init_180 : decode b_M_init 180 = .ok (.istore_n 1, 1) := by decide +kernel
theorem d_M_init_181 : decode b_M_init 181 = .ok (.iload_n 1, 1) := by decide +kernel
theorem d_M_init_182 : decode b_M_init 182 = .ok (.bipush 64, 2) := by decide +kernel
theorem d_M_init_184 : decode b_M_init 184 = .ok (.if_icmp .ge 16, 3) := by decide +kernel
theorem d_M_init_187 : decode b_M_init 187 = .ok (.aload_n 0, 1) := by decide +kernel
theorem d_M_init_188 : decode b_M_init 188 = .ok (.getfield 13, 3) := by decide +kernel
theorem d_M_init_191 : decode b_M_init 191 = .ok (.iload_n 1, 1) := by decide +kernel
theorem d_M_init_192 : decode b_M_init 192 = .ok (.iconst (-1), 1) := by decide +kernel
theorem d_M_init_193 : decode b_M_init 193 = .ok (.sastore, 1) := by decide +kernel
theorem d_M_init_194 : decode b_M_init 194 = .ok (.iinc 1 1, 3) := by decide +kernel
theorem d_M_init_197 : decode b_M_init 197 = .ok (.goto (-16), 3) := by decide +kernel
theorem d_M_init_200 : decode b_M_init 200 = .ok (.iconst 0, 1) := by decide +kernel
theorem d_M_init_201 : decode b_M_init 201 = .ok (.istore_n 1, 1) := by decide +kernel
theorem d_M_init_202 : decode b_M_init 202 = .ok (.iload_n 1, 1) := by decide +kernel
theorem d_M_init_203 : decode b_M_init 203 = .ok (.sipush 1024, 3) := by decide +kernel
theorem d_M_init_206 : decode b_M_init 206 = .ok (.if_icmp .ge 16, 3) := by decide +kernel
theorem d_M_init_209 : decode b_M_init 209 = .ok (.aload_n 0, 1) := by decide +kernel
theorem d_M_init_210 : decode b_M_init 210 = .ok (.getfield 17, 3) := by decide +kernel
theorem d_M_init_213 : decode b_M_init 213 = .ok (.iload_n 1, 1) := by decide +kernel
theorem d_M_init_214 : decode b_M_init 214 = .ok (.iconst (-1), 1) := by decide +kernel
theorem d_M_init_215 : decode b_M_init 215 = .ok (.sastore, 1) := by decide +kernel
theorem d_M_init_216 : decode b_M_init 216 = .ok (.iinc 1 1, 3) := by decide +kernel
theorem d_M_init_219 : decode b_M_init 219 = .ok (.goto (-17), 3) := by decide +kernel
theorem d_M_init_222 : decode b_M_init 222 = .ok (.iconst 0, 1) := by decide +kernel
theorem d_M_init_223 : decode b_M_init 223 = .ok (.istore_n 1, 1) := by decide +kernel
theorem d_M_init_224 : decode b_M_init 224 = .ok (.iload_n 1, 1) := by decide +kernel
theorem d_M_init_225 : decode b_M_init 225 = .ok (.bipush 40, 2) := by decide +kernel
theorem d_M_init_227 : decode b_M_init 227 = .ok (.if_icmp .ge 16, 3) := by decide +kernel
theorem d_M_init_230 : decode b_M_init 230 = .ok (.aload_n 0, 1) := by decide +kernel
theorem d_M_init_231 : decode b_M_init 231 = .ok (.getfield 20, 3) := by decide +kernel
theorem d_M_init_234 : decode b_M_init 234 = .ok (.iload_n 1, 1) := by decide +kernel
theorem d_M_init_235 : decode b_M_init 235 = .ok (.iconst (-1), 1) := by decide +kernel
theorem d_M_init_236 : decode b_M_init 236 = .ok (.iastore, 1) := by decide +kernel
theorem d_M_init_237 : decode b_M_init 237 = .ok (.iinc 1 1, 3) := by decide +kernel
theorem d_M_init_240 : decode b_M_init 240 = .ok (.goto (-16), 3) := by decide +kernel
theorem d_M_init_243 : decode b_M_init 243 = .ok (.iconst 0, 1) := by decide +kernel
theorem d_M_init_244 : decode b_M_init 244 = .ok (.istore_n 1, 1) := by decide +kernel
theorem d_M_init_245 : decode b_M_init 245 = .ok (.iload_n 1, 1) := by decide +kernel
theorem d_M_init_246 : decode b_M_init 246 = .ok (.bipush 6, 2) := by decide +kernel
theorem d_M_init_248 : decode b_M_init 248 = .ok (.if_icmp .ge 39, 3) := by decide +kernel
theorem d_M_init_251 : decode b_M_init 251 = .ok (.aload_n 0, 1) := by decide +kernel
theorem d_M_init_252 : decode b_M_init 252 = .ok (.getfield 45, 3) := by decide +kernel
theorem d_M_init_255 : decode b_M_init 255 = .ok (.iload_n 1, 1) := by decide +kernel
theorem d_M_init_256 : decode b_M_init 256 = .ok (.iconst (-1), 1) := by decide +kernel
theorem d_M_init_257 : decode b_M_init 257 = .ok (.iastore, 1) := by decide +kernel
theorem d_M_init_258 : decode b_M_init 258 = .ok (.aload_n 0, 1) := by decide +kernel
theorem d_M_init_259 : decode b_M_init 259 = .ok (.getfield 48, 3) := by decide +kernel
theorem d_M_init_262 : decode b_M_init 262 = .ok (.iload_n 1, 1) := by decide +kernel
theorem d_M_init_263 : decode b_M_init 263 = .ok (.sipush 255, 3) := by decide +kernel
theorem d_M_init_266 : decode b_M_init 266 = .ok (.iastore, 1) := by decide +kernel
theorem d_M_init_267 : decode b_M_init 267 = .ok (.aload_n 0, 1) := by decide +kernel
theorem d_M_init_268 : decode b_M_init 268 = .ok (.getfield 54, 3) := by decide +kernel
theorem d_M_init_271 : decode b_M_init 271 = .ok (.iload_n 1, 1) := by decide +kernel
theorem d_M_init_272 : decode b_M_init 272 = .ok (.iconst (-1), 1) := by decide +kernel
theorem d_M_init_273 : decode b_M_init 273 = .ok (.iastore, 1) := by decide +kernel
theorem d_M_init_274 : decode b_M_init 274 = .ok (.aload_n 0, 1) := by decide +kernel
theorem d_M_init_275 : decode b_M_init 275 = .ok (.getfield 57, 3) := by decide +kernel
theorem d_M_init_278 : decode b_M_init 278 = .ok (.iload_n 1, 1) := by decide +kernel
theorem d_M_init_279 : decode b_M_init 279 = .ok (.iconst (-1), 1) := by decide +kernel
theorem d_M_init_280 : decode b_M_init 280 = .ok (.iastore, 1) := by decide +kernel
theorem d_M_init_281 : decode b_M_init 281 = .ok (.iinc 1 1, 3) := by decide +kernel
theorem d_M_init_284 : decode b_M_init 284 = .ok (.goto (-39), 3) := by decide +kernel
theorem d_M_init_287 : decode b_M_init 287 = .ok (.iconst 0, 1) := by decide +kernel
theorem d_M_init_288 : decode b_M_init 288 = .ok (.istore_n 1, 1) := by decide +kernel
theorem d_M_init_289 : decode b_M_init 289 = .ok (.iload_n 1, 1) := by decide +kernel
theorem d_M_init_290 : decode b_M_init 290 = .ok (.sipush 384, 3) := by decide +kernel
theorem d_M_init_293 : decode b_M_init 293 = .ok (.if_icmp .ge 16, 3) := by decide +kernel
theorem d_M_init_296 : decode b_M_init 296 = .ok (.aload_n 0, 1) := by decide +kernel
theorem d_M_init_297 : decode b_M_init 297 = .ok (.getfield 72, 3) := by decide +kernel
theorem d_M_init_300 : decode b_M_init 300 = .ok (.iload_n 1, 1) := by decide +kernel
theorem d_M_init_301 : decode b_M_init 301 = .ok (.iconst (-1), 1) := by decide +kernel
theorem d_M_init_302 : decode b_M_init 302 = .ok (.iastore, 1) := by decide +kernel
theorem d_M_init_303 : decode b_M_init 303 = .ok (.iinc 1 1, 3) := by decide +kernel
theorem d_M_init_306 : decode b_M_init 306 = .ok (.goto (-17), 3) := by decide +kernel
theorem d_M_init_309 : decode b_M_init 309 = .ok (.return_, 1) := by decide +kernel
theorem d_M_thrown_0 : decode b_M_thrown 0 = .ok (.aload_n 0, 1) := by decide +kernel
theorem d_M_thrown_1 : decode b_M_thrown 1 = .ok (.getfield 75, 3) := by decide +kernel
theorem d_M_thrown_4 : decode b_M_thrown 4 = .ok (.ireturn, 1) := by decide +kernel
theorem d_M_isChannel_0 : decode b_M_isChannel 0 = .ok (.iload_n 0, 1) := by decide +kernel
theorem d_M_isChannel_1 : decode b_M_isChannel 1 = .ok (.ifCond .lt 13, 3) := by decide +kernel
theorem d_M_isChannel_4 : decode b_M_isChannel 4 = .ok (.iload_n 0, 1) := by decide +kernel
theorem d_M_isChannel_5 : decode b_M_isChannel 5 = .ok (.bipush 64, 2) := by decide +kernel
theorem d_M_isChannel_7 : decode b_M_isChannel 7 = .ok (.if_icmp .ge 7, 3) := by decide +kernel
theorem d_M_isChannel_10 : decode b_M_isChannel 10 = .ok (.iconst 1, 1) := by decide +kernel
theorem d_M_isChannel_11 : decode b_M_isChannel 11 = .ok (.goto 4, 3) := by decide +kernel
theorem d_M_isChannel_14 : decode b_M_isChannel 14 = .ok (.iconst 0, 1) := by decide +kernel
theorem d_M_isChannel_15 : decode b_M_isChannel 15 = .ok (.ireturn, 1) := by decide +kernel
theorem d_M_isLevel_0 : decode b_M_isLevel 0 = .ok (.iload_n 0, 1) := by decide +kernel
theorem d_M_isLevel_1 : decode b_M_isLevel 1 = .ok (.ifCond .lt 14, 3) := by decide +kernel
theorem d_M_isLevel_4 : decode b_M_isLevel 4 = .ok (.iload_n 0, 1) := by decide +kernel
theorem d_M_isLevel_5 : decode b_M_isLevel 5 = .ok (.sipush 256, 3) := by decide +kernel
theorem d_M_isLevel_8 : decode b_M_isLevel 8 = .ok (.if_icmp .ge 7, 3) := by decide +kernel
theorem d_M_isLevel_11 : decode b_M_isLevel 11 = .ok (.iconst 1, 1) := by decide +kernel
theorem d_M_isLevel_12 : decode b_M_isLevel 12 = .ok (.goto 4, 3) := by decide +kernel
theorem d_M_isLevel_15 : decode b_M_isLevel 15 = .ok (.iconst 0, 1) := by decide +kernel
theorem d_M_isLevel_16 : decode b_M_isLevel 16 = .ok (.ireturn, 1) := by decide +kernel
theorem d_M_isTime_0 : decode b_M_isTime 0 = .ok (.iload_n 0, 1) := by decide +kernel
theorem d_M_isTime_1 : decode b_M_isTime 1 = .ok (.ifCond .lt 14, 3) := by decide +kernel
theorem d_M_isTime_4 : decode b_M_isTime 4 = .ok (.iload_n 0, 1) := by decide +kernel
theorem d_M_isTime_5 : decode b_M_isTime 5 = .ok (.sipush 10000, 3) := by decide +kernel
theorem d_M_isTime_8 : decode b_M_isTime 8 = .ok (.if_icmp .gt 7, 3) := by decide +kernel
theorem d_M_isTime_11 : decode b_M_isTime 11 = .ok (.iconst 1, 1) := by decide +kernel
theorem d_M_isTime_12 : decode b_M_isTime 12 = .ok (.goto 4, 3) := by decide +kernel
theorem d_M_isTime_15 : decode b_M_isTime 15 = .ok (.iconst 0, 1) := by decide +kernel
theorem d_M_isTime_16 : decode b_M_isTime 16 = .ok (.ireturn, 1) := by decide +kernel
theorem d_M_isPlayback_0 : decode b_M_isPlayback 0 = .ok (.iload_n 0, 1) := by decide +kernel
theorem d_M_isPlayback_1 : decode b_M_isPlayback 1 = .ok (.ifCond .lt 13, 3) := by decide +kernel
theorem d_M_isPlayback_4 : decode b_M_isPlayback 4 = .ok (.iload_n 0, 1) := by decide +kernel
theorem d_M_isPlayback_5 : decode b_M_isPlayback 5 = .ok (.bipush 6, 2) := by decide +kernel
theorem d_M_isPlayback_7 : decode b_M_isPlayback 7 = .ok (.if_icmp .ge 7, 3) := by decide +kernel
theorem d_M_isPlayback_10 : decode b_M_isPlayback 10 = .ok (.iconst 1, 1) := by decide +kernel
theorem d_M_isPlayback_11 : decode b_M_isPlayback 11 = .ok (.goto 4, 3) := by decide +kernel
theorem d_M_isPlayback_14 : decode b_M_isPlayback 14 = .ok (.iconst 0, 1) := by decide +kernel
theorem d_M_isPlayback_15 : decode b_M_isPlayback 15 = .ok (.ireturn, 1) := by decide +kernel
theorem d_M_kind_0 : decode b_M_kind 0 = .ok (.aload_n 0, 1) := by decide +kernel
theorem d_M_kind_1 : decode b_M_kind 1 = .ok (.iconst 0, 1) := by decide +kernel
theorem d_M_kind_2 : decode b_M_kind 2 = .ok (.putfield 75, 3) := by decide +kernel
theorem d_M_kind_5 : decode b_M_kind 5 = .ok (.iload_n 1, 1) := by decide +kernel
theorem d_M_kind_6 : decode b_M_kind 6 = .ok (.invokestatic 79, 3) := by decide +kernel
theorem d_M_kind_9 : decode b_M_kind 9 = .ok (.ifCond .ne 5, 3) := by decide +kernel
theorem d_M_kind_12 : decode b_M_kind 12 = .ok (.iconst 0, 1) := by decide +kernel
theorem d_M_kind_13 : decode b_M_kind 13 = .ok (.ireturn, 1) := by decide +kernel
theorem d_M_kind_14 : decode b_M_kind 14 = .ok (.aload_n 0, 1) := by decide +kernel
theorem d_M_kind_15 : decode b_M_kind 15 = .ok (.getfield 7, 3) := by decide +kernel
theorem d_M_kind_18 : decode b_M_kind 18 = .ok (.iload_n 1, 1) := by decide +kernel
theorem d_M_kind_19 : decode b_M_kind 19 = .ok (.iload_n 2, 1) := by decide +kernel
theorem d_M_kind_20 : decode b_M_kind 20 = .ok (.bastore, 1) := by decide +kernel
theorem d_M_kind_21 : decode b_M_kind 21 = .ok (.iconst 1, 1) := by decide +kernel
theorem d_M_kind_22 : decode b_M_kind 22 = .ok (.ireturn, 1) := by decide +kernel
theorem d_M_set_0 : decode b_M_set 0 = .ok (.aload_n 0, 1) := by decide +kernel
theorem d_M_set_1 : decode b_M_set 1 = .ok (.iconst 0, 1) := by decide +kernel
theorem d_M_set_2 : decode b_M_set 2 = .ok (.putfield 75, 3) := by decide +kernel
theorem d_M_set_5 : decode b_M_set 5 = .ok (.iload_n 1, 1) := by decide +kernel
theorem d_M_set_6 : decode b_M_set 6 = .ok (.invokestatic 79, 3) := by decide +kernel
theorem d_M_set_9 : decode b_M_set 9 = .ok (.ifCond .eq 10, 3) := by decide +kernel
theorem d_M_set_12 : decode b_M_set 12 = .ok (.iload_n 2, 1) := by decide +kernel
theorem d_M_set_13 : decode b_M_set 13 = .ok (.invokestatic 83, 3) := by decide +kernel
theorem d_M_set_16 : decode b_M_set 16 = .ok (.ifCond .ne 5, 3) := by decide +kernel
theorem d_M_set_19 : decode b_M_set 19 = .ok (.iconst 0, 1) := by decide +kernel
theorem d_M_set_20 : decode b_M_set 20 = .ok (.ireturn, 1) := by decide +kernel
theorem d_M_set_21 : decode b_M_set 21 = .ok (.aload_n 0, 1) := by decide +kernel
theorem d_M_set_22 : decode b_M_set 22 = .ok (.getfield 13, 3) := by decide +kernel
theorem d_M_set_25 : decode b_M_set 25 = .ok (.iload_n 1, 1) := by decide +kernel
theorem d_M_set_26 : decode b_M_set 26 = .ok (.iload_n 2, 1) := by decide +kernel
theorem d_M_set_27 : decode b_M_set 27 = .ok (.i2s, 1) := by decide +kernel
theorem d_M_set_28 : decode b_M_set 28 = .ok (.sastore, 1) := by decide +kernel
theorem d_M_set_29 : decode b_M_set 29 = .ok (.iconst 1, 1) := by decide +kernel
theorem d_M_set_30 : decode b_M_set 30 = .ok (.ireturn, 1) := by decide +kernel
theorem d_M_use_0 : decode b_M_use 0 = .ok (.aload_n 0, 1) := by decide +kernel
theorem d_M_use_1 : decode b_M_use 1 = .ok (.iconst 0, 1) := by decide +kernel
theorem d_M_use_2 : decode b_M_use 2 = .ok (.putfield 75, 3) := by decide +kernel
theorem d_M_use_5 : decode b_M_use 5 = .ok (.iload_n 1, 1) := by decide +kernel
theorem d_M_use_6 : decode b_M_use 6 = .ok (.invokestatic 79, 3) := by decide +kernel
theorem d_M_use_9 : decode b_M_use 9 = .ok (.ifCond .eq 13, 3) := by decide +kernel
theorem d_M_use_12 : decode b_M_use 12 = .ok (.iload_n 2, 1) := by decide +kernel
theorem d_M_use_13 : decode b_M_use 13 = .ok (.ifCond .lt 9, 3) := by decide +kernel
theorem d_M_use_16 : decode b_M_use 16 = .ok (.iload_n 2, 1) := by decide +kernel
theorem d_M_use_17 : decode b_M_use 17 = .ok (.bipush 15, 2) := by decide +kernel
theorem d_M_use_19 : decode b_M_use 19 = .ok (.if_icmp .le 5, 3) := by decide +kernel
theorem d_M_use_22 : decode b_M_use 22 = .ok (.iconst 0, 1) := by decide +kernel
theorem d_M_use_23 : decode b_M_use 23 = .ok (.ireturn, 1) := by decide +kernel
theorem d_M_use_24 : decode b_M_use 24 = .ok (.aload_n 0, 1) := by decide +kernel
theorem d_M_use_25 : decode b_M_use 25 = .ok (.getfield 13, 3) := by decide +kernel
theorem d_M_use_28 : decode b_M_use 28 = .ok (.iload_n 1, 1) := by decide +kernel
theorem d_M_use_29 : decode b_M_use 29 = .ok (.sipush 256, 3) := by decide +kernel
theorem d_M_use_32 : decode b_M_use 32 = .ok (.iload_n 2, 1) := by decide +kernel
theorem d_M_use_33 : decode b_M_use 33 = .ok (.iadd, 1) := by decide +kernel
theorem d_M_use_34 : decode b_M_use 34 = .ok (.i2s, 1) := by decide +kernel
theorem d_M_use_35 : decode b_M_use 35 = .ok (.sastore, 1) := by decide +kernel
theorem d_M_use_36 : decode b_M_use 36 = .ok (.iconst 1, 1) := by decide +kernel
theorem d_M_use_37 : decode b_M_use 37 = .ok (.ireturn, 1) := by decide +kernel
theorem d_M_release_0 : decode b_M_release 0 = .ok (.aload_n 0, 1) := by decide +kernel
theorem d_M_release_1 : decode b_M_release 1 = .ok (.iconst 0, 1) := by decide +kernel
theorem d_M_release_2 : decode b_M_release 2 = .ok (.putfield 75, 3) := by decide +kernel
theorem d_M_release_5 : decode b_M_release 5 = .ok (.iconst 0, 1) := by decide +kernel
theorem d_M_release_6 : decode b_M_release 6 = .ok (.istore_n 2, 1) := by decide +kernel
theorem d_M_release_7 : decode b_M_release 7 = .ok (.iconst 0, 1) := by decide +kernel
theorem d_M_release_8 : decode b_M_release 8 = .ok (.istore_n 3, 1) := by decide +kernel
theorem d_M_release_9 : decode b_M_release 9 = .ok (.iload_n 3, 1) := by decide +kernel
theorem d_M_release_10 : decode b_M_release 10 = .ok (.bipush 64, 2) := by decide +kernel
theorem d_M_release_12 : decode b_M_release 12 = .ok (.if_icmp .ge 39, 3) := by decide +kernel
theorem d_M_release_15 : decode b_M_release 15 = .ok (.iload_n 1, 1) := by decide +kernel
theorem d_M_release_16 : decode b_M_release 16 = .ok (.iconst (-1), 1) := by decide +kernel
theorem d_M_release_17 : decode b_M_release 17 = .ok (.if_icmp .eq 8, 3) := by decide +kernel
theorem d_M_release_20 : decode b_M_release 20 = .ok (.iload_n 1, 1) := by decide +kernel
theorem d_M_release_21 : decode b_M_release 21 = .ok (.iload_n 3, 1) := by decide +kernel
theorem d_M_release_22 : decode b_M_release 22 = .ok (.if_icmp .ne 23, 3) := by decide +kernel
theorem d_M_release_25 : decode b_M_release 25 = .ok (.aload_n 0, 1) := by decide +kernel
theorem d_M_release_26 : decode b_M_release 26 = .ok (.getfield 13, 3) := by decide +kernel
theorem d_M_release_29 : decode b_M_release 29 = .ok (.iload_n 3, 1) := by decide +kernel
theorem d_M_release_30 : decode b_M_release 30 = .ok (.saload, 1) := by decide +kernel
theorem d_M_release_31 : decode b_M_release 31 = .ok (.iconst (-1), 1) := by decide +kernel
theorem d_M_release_32 : decode b_M_release 32 = .ok (.if_icmp .eq 13, 3) := by decide +kernel
theorem d_M_release_35 : decode b_M_release 35 = .ok (.aload_n 0, 1) := by decide +kernel
theorem d_M_release_36 : decode b_M_release 36 = .ok (.getfield 13, 3) := by decide +kernel
theorem d_M_release_39 : decode b_M_release 39 = .ok (.iload_n 3, 1) := by decide +kernel
theorem d_M_release_40 : decode b_M_release 40 = .ok (.iconst (-1), 1) := by decide +kernel
theorem d_M_release_41 : decode b_M_release 41 = .ok (.sastore, 1) := by decide +kernel
theorem d_M_release_42 : decode b_M_release 42 = .ok (.iinc 2 1, 3) := by decide +kernel
theorem d_M_release_45 : decode b_M_release 45 = .ok (.iinc 3 1, 3) := by decide +kernel
theorem d_M_release_48 : decode b_M_release 48 = .ok (.goto (-39), 3) := by decide +kernel
theorem d_M_release_51 : decode b_M_release 51 = .ok (.iload_n 2, 1) := by decide +kernel
theorem d_M_release_52 : decode b_M_release 52 = .ok (.ireturn, 1) := by decide +kernel
theorem d_M_palette_0 : decode b_M_palette 0 = .ok (.aload_n 0, 1) := by decide +kernel
theorem d_M_palette_1 : decode b_M_palette 1 = .ok (.iconst 0, 1) := by decide +kernel
theorem d_M_palette_2 : decode b_M_palette 2 = .ok (.putfield 75, 3) := by decide +kernel
theorem d_M_palette_5 : decode b_M_palette 5 = .ok (.iload_n 1, 1) := by decide +kernel
theorem d_M_palette_6 : decode b_M_palette 6 = .ok (.ifCond .lt 28, 3) := by decide +kernel
theorem d_M_palette_9 : decode b_M_palette 9 = .ok (.iload_n 1, 1) := by decide +kernel
theorem d_M_palette_10 : decode b_M_palette 10 = .ok (.bipush 15, 2) := by decide +kernel
theorem d_M_palette_12 : decode b_M_palette 12 = .ok (.if_icmp .gt 22, 3) := by decide +kernel
theorem d_M_palette_15 : decode b_M_palette 15 = .ok (.iload_n 2, 1) := by decide +kernel
theorem d_M_palette_16 : decode b_M_palette 16 = .ok (.invokestatic 79, 3) := by decide +kernel
theorem d_M_palette_19 : decode b_M_palette 19 = .ok (.ifCond .eq 15, 3) := by decide +kernel
theorem d_M_palette_22 : decode b_M_palette 22 = .ok (.iload_n 3, 1) := by decide +kernel
theorem d_M_palette_23 : decode b_M_palette 23 = .ok (.iconst (-1), 1) := by decide +kernel
theorem d_M_palette_24 : decode b_M_palette 24 = .ok (.if_icmp .eq 12, 3) := by decide +kernel
theorem d_M_palette_27 : decode b_M_palette 27 = .ok (.iload_n 3, 1) := by decide +kernel
theorem d_M_palette_28 : decode b_M_palette 28 = .ok (.invokestatic 83, 3) := by decide +kernel
theorem d_M_palette_31 : decode b_M_palette 31 = .ok (.ifCond .ne 5, 3) := by decide +kernel
theorem d_M_palette_34 : decode b_M_palette 34 = .ok (.iconst 0, 1) := by decide +kernel
theorem d_M_palette_35 : decode b_M_palette 35 = .ok (.ireturn, 1) := by decide +kernel
theorem d_M_palette_36 : decode b_M_palette 36 = .ok (.aload_n 0, 1) := by decide +kernel
theorem d_M_palette_37 : decode b_M_palette 37 = .ok (.getfield 17, 3) := by decide +kernel
theorem d_M_palette_40 : decode b_M_palette 40 = .ok (.bipush 64, 2) := by decide +kernel
theorem d_M_palette_42 : decode b_M_palette 42 = .ok (.iload_n 1, 1) := by decide +kernel
theorem d_M_palette_43 : decode b_M_palette 43 = .ok (.imul, 1) := by decide +kernel
theorem d_M_palette_44 : decode b_M_palette 44 = .ok (.iload_n 2, 1) := by decide +kernel
theorem d_M_palette_45 : decode b_M_palette 45 = .ok (.iadd, 1) := by decide +kernel
theorem d_M_palette_46 : decode b_M_palette 46 = .ok (.iload_n 3, 1) := by decide +kernel
theorem d_M_palette_47 : decode b_M_palette 47 = .ok (.i2s, 1) := by decide +kernel
theorem d_M_palette_48 : decode b_M_palette 48 = .ok (.sastore, 1) := by decide +kernel
theorem d_M_palette_49 : decode b_M_palette 49 = .ok (.iconst 1, 1) := by decide +kernel
theorem d_M_palette_50 : decode b_M_palette 50 = .ok (.ireturn, 1) := by decide +kernel
theorem d_M_levelOf_0 : decode b_M_levelOf 0 = .ok (.iload_n 1, 1) := by decide +kernel
theorem d_M_levelOf_1 : decode b_M_levelOf 1 = .ok (.sipush 256, 3) := by decide +kernel
theorem d_M_levelOf_4 : decode b_M_levelOf 4 = .ok (.if_icmp .ge 7, 3) := by decide +kernel
theorem d_M_levelOf_7 : decode b_M_levelOf 7 = .ok (.iload_n 1, 1) := by decide +kernel
theorem d_M_levelOf_8 : decode b_M_levelOf 8 = .ok (.goto 29, 3) := by decide +kernel
theorem d_M_levelOf_11 : decode b_M_levelOf 11 = .ok (.iload_n 1, 1) := by decide +kernel
theorem d_M_levelOf_12 : decode b_M_levelOf 12 = .ok (.sipush 300, 3) := by decide +kernel
theorem d_M_levelOf_15 : decode b_M_levelOf 15 = .ok (.if_icmp .ne 7, 3) := by decide +kernel
theorem d_M_levelOf_18 : decode b_M_levelOf 18 = .ok (.iconst (-1), 1) := by decide +kernel
theorem d_M_levelOf_19 : decode b_M_levelOf 19 = .ok (.goto 18, 3) := by decide +kernel
theorem d_M_levelOf_22 : decode b_M_levelOf 22 = .ok (.aload_n 0, 1) := by decide +kernel
theorem d_M_levelOf_23 : decode b_M_levelOf 23 = .ok (.getfield 17, 3) := by decide +kernel
theorem d_M_levelOf_26 : decode b_M_levelOf 26 = .ok (.bipush 64, 2) := by decide +kernel
theorem d_M_levelOf_28 : decode b_M_levelOf 28 = .ok (.iload_n 1, 1) := by decide +kernel
theorem d_M_levelOf_29 : decode b_M_levelOf 29 = .ok (.sipush 256, 3) := by decide +kernel
theorem d_M_levelOf_32 : decode b_M_levelOf 32 = .ok (.isub, 1) := by decide +kernel
theorem d_M_levelOf_33 : decode b_M_levelOf 33 = .ok (.imul, 1) := by decide +kernel
theorem d_M_levelOf_34 : decode b_M_levelOf 34 = .ok (.iload_n 2, 1) := by decide +kernel
theorem d_M_levelOf_35 : decode b_M_levelOf 35 = .ok (.iadd, 1) := by decide +kernel
theorem d_M_levelOf_36 : decode b_M_levelOf 36 = .ok (.saload, 1) := by decide +kernel
theorem d_M_levelOf_37 : decode b_M_levelOf 37 = .ok (.ireturn, 1) := by decide +kernel
theorem d_M_find_0 : decode b_M_find 0 = .ok (.iconst (-1), 1) := by decide +kernel
theorem d_M_find_1 : decode b_M_find 1 = .ok (.istore_n 3, 1) := by decide +kernel
theorem d_M_find_2 : decode b_M_find 2 = .ok (.iconst 0, 1) := by decide +kernel
theorem d_M_find_3 : decode b_M_find 3 = .ok (.istore 4, 2) := by decide +kernel
theorem d_M_find_5 : decode b_M_find 5 = .ok (.iload 4, 2) := by decide +kernel
theorem d_M_find_7 : decode b_M_find 7 = .ok (.bipush 40, 2) := by decide +kernel
theorem d_M_find_9 : decode b_M_find 9 = .ok (.if_icmp .ge 42, 3) := by decide +kernel
theorem d_M_find_12 : decode b_M_find 12 = .ok (.iload_n 1, 1) := by decide +kernel
theorem d_M_find_13 : decode b_M_find 13 = .ok (.ifCond .lt 30, 3) := by decide +kernel
theorem d_M_find_16 : decode b_M_find 16 = .ok (.aload_n 0, 1) := by decide +kernel
theorem d_M_find_17 : decode b_M_find 17 = .ok (.getfield 20, 3) := by decide +kernel
theorem d_M_find_20 : decode b_M_find 20 = .ok (.iload 4, 2) := by decide +kernel
theorem d_M_find_22 : decode b_M_find 22 = .ok (.iaload, 1) := by decide +kernel
theorem d_M_find_23 : decode b_M_find 23 = .ok (.iload_n 1, 1) := by decide +kernel
theorem d_M_find_24 : decode b_M_find 24 = .ok (.if_icmp .ne 19, 3) := by decide +kernel
theorem d_M_find_27 : decode b_M_find 27 = .ok (.aload_n 0, 1) := by decide +kernel
theorem d_M_find_28 : decode b_M_find 28 = .ok (.getfield 24, 3) := by decide +kernel
theorem d_M_find_31 : decode b_M_find 31 = .ok (.iload 4, 2) := by decide +kernel
theorem d_M_find_33 : decode b_M_find 33 = .ok (.iaload, 1) := by decide +kernel
theorem d_M_find_34 : decode b_M_find 34 = .ok (.iload_n 2, 1) := by decide +kernel
theorem d_M_find_35 : decode b_M_find 35 = .ok (.if_icmp .ne 8, 3) := by decide +kernel
theorem d_M_find_38 : decode b_M_find 38 = .ok (.iload 4, 2) := by decide +kernel
theorem d_M_find_40 : decode b_M_find 40 = .ok (.goto 4, 3) := by decide +kernel
theorem d_M_find_43 : decode b_M_find 43 = .ok (.iload_n 3, 1) := by decide +kernel
theorem d_M_find_44 : decode b_M_find 44 = .ok (.istore_n 3, 1) := by decide +kernel
theorem d_M_find_45 : decode b_M_find 45 = .ok (.iinc 4 1, 3) := by decide +kernel
theorem d_M_find_48 : decode b_M_find 48 = .ok (.goto (-43), 3) := by decide +kernel
theorem d_M_find_51 : decode b_M_find 51 = .ok (.iload_n 3, 1) := by decide +kernel
theorem d_M_find_52 : decode b_M_find 52 = .ok (.ireturn, 1) := by decide +kernel
theorem d_M_above_0 : decode b_M_above 0 = .ok (.iconst (-1), 1) := by decide +kernel
theorem d_M_above_1 : decode b_M_above 1 = .ok (.istore_n 3, 1) := by decide +kernel
theorem d_M_above_2 : decode b_M_above 2 = .ok (.iconst 0, 1) := by decide +kernel
theorem d_M_above_3 : decode b_M_above 3 = .ok (.istore 4, 2) := by decide +kernel
theorem d_M_above_5 : decode b_M_above 5 = .ok (.iload 4, 2) := by decide +kernel
theorem d_M_above_7 : decode b_M_above 7 = .ok (.bipush 40, 2) := by decide +kernel
theorem d_M_above_9 : decode b_M_above 9 = .ok (.if_icmp .ge 54, 3) := by decide +kernel
theorem d_M_above_12 : decode b_M_above 12 = .ok (.aload_n 0, 1) := by decide +kernel
theorem d_M_above_13 : decode b_M_above 13 = .ok (.getfield 20, 3) := by decide +kernel
theorem d_M_above_16 : decode b_M_above 16 = .ok (.iload 4, 2) := by decide +kernel
theorem d_M_above_18 : decode b_M_above 18 = .ok (.iaload, 1) := by decide +kernel
theorem d_M_above_19 : decode b_M_above 19 = .ok (.iload_n 1, 1) := by decide +kernel
theorem d_M_above_20 : decode b_M_above 20 = .ok (.if_icmp .ne 37, 3) := by decide +kernel
theorem d_M_above_23 : decode b_M_above 23 = .ok (.aload_n 0, 1) := by decide +kernel
theorem d_M_above_24 : decode b_M_above 24 = .ok (.getfield 24, 3) := by decide +kernel
theorem d_M_above_27 : decode b_M_above 27 = .ok (.iload 4, 2) := by decide +kernel
theorem d_M_above_29 : decode b_M_above 29 = .ok (.iaload, 1) := by decide +kernel
theorem d_M_above_30 : decode b_M_above 30 = .ok (.iload_n 2, 1) := by decide +kernel
theorem d_M_above_31 : decode b_M_above 31 = .ok (.if_icmp .le 26, 3) := by decide +kernel
theorem d_M_above_34 : decode b_M_above 34 = .ok (.iload_n 3, 1) := by decide +kernel
theorem d_M_above_35 : decode b_M_above 35 = .ok (.ifCond .lt 19, 3) := by decide +kernel
theorem d_M_above_38 : decode b_M_above 38 = .ok (.aload_n 0, 1) := by decide +kernel
theorem d_M_above_39 : decode b_M_above 39 = .ok (.getfield 24, 3) := by decide +kernel
theorem d_M_above_42 : decode b_M_above 42 = .ok (.iload 4, 2) := by decide +kernel
theorem d_M_above_44 : decode b_M_above 44 = .ok (.iaload, 1) := by decide +kernel
theorem d_M_above_45 : decode b_M_above 45 = .ok (.aload_n 0, 1) := by decide +kernel
theorem d_M_above_46 : decode b_M_above 46 = .ok (.getfield 24, 3) := by decide +kernel
theorem d_M_above_49 : decode b_M_above 49 = .ok (.iload_n 3, 1) := by decide +kernel
theorem d_M_above_50 : decode b_M_above 50 = .ok (.iaload, 1) := by decide +kernel
theorem d_M_above_51 : decode b_M_above 51 = .ok (.if_icmp .ge 6, 3) := by decide +kernel
theorem d_M_above_54 : decode b_M_above 54 = .ok (.iload 4, 2) := by decide +kernel
theorem d_M_above_56 : decode b_M_above 56 = .ok (.istore_n 3, 1) := by decide +kernel
theorem d_M_above_57 : decode b_M_above 57 = .ok (.iinc 4 1, 3) := by decide +kernel
theorem d_M_above_60 : decode b_M_above 60 = .ok (.goto (-55), 3) := by decide +kernel
theorem d_M_above_63 : decode b_M_above 63 = .ok (.iload_n 3, 1) := by decide +kernel
theorem d_M_above_64 : decode b_M_above 64 = .ok (.ireturn, 1) := by decide +kernel
theorem d_M_below_0 : decode b_M_below 0 = .ok (.iconst (-1), 1) := by decide +kernel
theorem d_M_below_1 : decode b_M_below 1 = .ok (.istore_n 3, 1) := by decide +kernel
theorem d_M_below_2 : decode b_M_below 2 = .ok (.iconst 0, 1) := by decide +kernel
theorem d_M_below_3 : decode b_M_below 3 = .ok (.istore 4, 2) := by decide +kernel
theorem d_M_below_5 : decode b_M_below 5 = .ok (.iload 4, 2) := by decide +kernel
theorem d_M_below_7 : decode b_M_below 7 = .ok (.bipush 40, 2) := by decide +kernel
theorem d_M_below_9 : decode b_M_below 9 = .ok (.if_icmp .ge 54, 3) := by decide +kernel
theorem d_M_below_12 : decode b_M_below 12 = .ok (.aload_n 0, 1) := by decide +kernel
theorem d_M_below_13 : decode b_M_below 13 = .ok (.getfield 20, 3) := by decide +kernel
theorem d_M_below_16 : decode b_M_below 16 = .ok (.iload 4, 2) := by decide +kernel
theorem d_M_below_18 : decode b_M_below 18 = .ok (.iaload, 1) := by decide +kernel
theorem d_M_below_19 : decode b_M_below 19 = .ok (.iload_n 1, 1) := by decide +kernel
theorem d_M_below_20 : decode b_M_below 20 = .ok (.if_icmp .ne 37, 3) := by decide +kernel
theorem d_M_below_23 : decode b_M_below 23 = .ok (.aload_n 0, 1) := by decide +kernel
theorem d_M_below_24 : decode b_M_below 24 = .ok (.getfield 24, 3) := by decide +kernel
theorem d_M_below_27 : decode b_M_below 27 = .ok (.iload 4, 2) := by decide +kernel
theorem d_M_below_29 : decode b_M_below 29 = .ok (.iaload, 1) := by decide +kernel
theorem d_M_below_30 : decode b_M_below 30 = .ok (.iload_n 2, 1) := by decide +kernel
theorem d_M_below_31 : decode b_M_below 31 = .ok (.if_icmp .ge 26, 3) := by decide +kernel
theorem d_M_below_34 : decode b_M_below 34 = .ok (.iload_n 3, 1) := by decide +kernel
theorem d_M_below_35 : decode b_M_below 35 = .ok (.ifCond .lt 19, 3) := by decide +kernel
theorem d_M_below_38 : decode b_M_below 38 = .ok (.aload_n 0, 1) := by decide +kernel
theorem d_M_below_39 : decode b_M_below 39 = .ok (.getfield 24, 3) := by decide +kernel
theorem d_M_below_42 : decode b_M_below 42 = .ok (.iload 4, 2) := by decide +kernel
theorem d_M_below_44 : decode b_M_below 44 = .ok (.iaload, 1) := by decide +kernel
theorem d_M_below_45 : decode b_M_below 45 = .ok (.aload_n 0, 1) := by decide +kernel
theorem d_M_below_46 : decode b_M_below 46 = .ok (.getfield 24, 3) := by decide +kernel
theorem d_M_below_49 : decode b_M_below 49 = .ok (.iload_n 3, 1) := by decide +kernel
theorem d_M_below_50 : decode b_M_below 50 = .ok (.iaload, 1) := by decide +kernel
theorem d_M_below_51 : decode b_M_below 51 = .ok (.if_icmp .le 6, 3) := by decide +kernel
theorem d_M_below_54 : decode b_M_below 54 = .ok (.iload 4, 2) := by decide +kernel
theorem d_M_below_56 : decode b_M_below 56 = .ok (.istore_n 3, 1) := by decide +kernel
theorem d_M_below_57 : decode b_M_below 57 = .ok (.iinc 4 1, 3) := by decide +kernel
theorem d_M_below_60 : decode b_M_below 60 = .ok (.goto (-55), 3) := by decide +kernel
theorem d_M_below_63 : decode b_M_below 63 = .ok (.iload_n 3, 1) := by decide +kernel
theorem d_M_below_64 : decode b_M_below 64 = .ok (.ireturn, 1) := by decide +kernel
theorem d_M_moveOf_0 : decode b_M_moveOf 0 = .ok (.aload_n 0, 1) := by decide +kernel
theorem d_M_moveOf_1 : decode b_M_moveOf 1 = .ok (.getfield 39, 3) := by decide +kernel
theorem d_M_moveOf_4 : decode b_M_moveOf 4 = .ok (.bipush 64, 2) := by decide +kernel
theorem d_M_moveOf_6 : decode b_M_moveOf 6 = .ok (.iload_n 1, 1) := by decide +kernel
theorem d_M_moveOf_7 : decode b_M_moveOf 7 = .ok (.imul, 1) := by decide +kernel
theorem d_M_moveOf_8 : decode b_M_moveOf 8 = .ok (.iload_n 2, 1) := by decide +kernel
theorem d_M_moveOf_9 : decode b_M_moveOf 9 = .ok (.iadd, 1) := by decide +kernel
theorem d_M_moveOf_10 : decode b_M_moveOf 10 = .ok (.saload, 1) := by decide +kernel
theorem d_M_moveOf_11 : decode b_M_moveOf 11 = .ok (.ireturn, 1) := by decide +kernel
theorem d_M_sourceOf_0 : decode b_M_sourceOf 0 = .ok (.aload_n 0, 1) := by decide +kernel
theorem d_M_sourceOf_1 : decode b_M_sourceOf 1 = .ok (.iload_n 1, 1) := by decide +kernel
theorem d_M_sourceOf_2 : decode b_M_sourceOf 2 = .ok (.iload_n 2, 1) := by decide +kernel
theorem d_M_sourceOf_3 : decode b_M_sourceOf 3 = .ok (.iconst 1, 1) := by decide +kernel
theorem d_M_sourceOf_4 : decode b_M_sourceOf 4 = .ok (.iadd, 1) := by decide +kernel
theorem d_M_sourceOf_5 : decode b_M_sourceOf 5 = .ok (.invokevirtual 86, 3) := by decide +kernel
theorem d_M_sourceOf_8 : decode b_M_sourceOf 8 = .ok (.istore 4, 2) := by decide +kernel
theorem d_M_sourceOf_10 : decode b_M_sourceOf 10 = .ok (.iload 4, 2) := by decide +kernel
theorem d_M_sourceOf_12 : decode b_M_sourceOf 12 = .ok (.ifCond .lt 31, 3) := by decide +kernel
theorem d_M_sourceOf_15 : decode b_M_sourceOf 15 = .ok (.aload_n 0, 1) := by decide +kernel
theorem d_M_sourceOf_16 : decode b_M_sourceOf 16 = .ok (.iload 4, 2) := by decide +kernel
theorem d_M_sourceOf_18 : decode b_M_sourceOf 18 = .ok (.iload_n 3, 1) := by decide +kernel
theorem d_M_sourceOf_19 : decode b_M_sourceOf 19 = .ok (.invokevirtual 90, 3) := by decide +kernel
theorem d_M_sourceOf_22 : decode b_M_sourceOf 22 = .ok (.iconst (-1), 1) := by decide +kernel
theorem d_M_sourceOf_23 : decode b_M_sourceOf 23 = .ok (.if_icmp .ne 20, 3) := by decide +kernel
theorem d_M_sourceOf_26 : decode b_M_sourceOf 26 = .ok (.aload_n 0, 1) := by decide +kernel
theorem d_M_sourceOf_27 : decode b_M_sourceOf 27 = .ok (.iload_n 1, 1) := by decide +kernel
theorem d_M_sourceOf_28 : decode b_M_sourceOf 28 = .ok (.aload_n 0, 1) := by decide +kernel
theorem d_M_sourceOf_29 : decode b_M_sourceOf 29 = .ok (.getfield 24, 3) := by decide +kernel
theorem d_M_sourceOf_32 : decode b_M_sourceOf 32 = .ok (.iload 4, 2) := by decide +kernel
theorem d_M_sourceOf_34 : decode b_M_sourceOf 34 = .ok (.iaload, 1) := by decide +kernel
theorem d_M_sourceOf_35 : decode b_M_sourceOf 35 = .ok (.invokevirtual 86, 3) := by decide +kernel
theorem d_M_sourceOf_38 : decode b_M_sourceOf 38 = .ok (.istore 4, 2) := by decide +kernel
theorem d_M_sourceOf_40 : decode b_M_sourceOf 40 = .ok (.goto (-30), 3) := by decide +kernel
theorem d_M_sourceOf_43 : decode b_M_sourceOf 43 = .ok (.iload 4, 2) := by decide +kernel
theorem d_M_sourceOf_45 : decode b_M_sourceOf 45 = .ok (.ireturn, 1) := by decide +kernel
theorem d_M_tracked_0 : decode b_M_tracked 0 = .ok (.aload_n 0, 1) := by decide +kernel
theorem d_M_tracked_1 : decode b_M_tracked 1 = .ok (.iload_n 1, 1) := by decide +kernel
theorem d_M_tracked_2 : decode b_M_tracked 2 = .ok (.iload_n 2, 1) := by decide +kernel
theorem d_M_tracked_3 : decode b_M_tracked 3 = .ok (.iload_n 3, 1) := by decide +kernel
theorem d_M_tracked_4 : decode b_M_tracked 4 = .ok (.invokevirtual 93, 3) := by decide +kernel
theorem d_M_tracked_7 : decode b_M_tracked 7 = .ok (.istore 4, 2) := by decide +kernel
theorem d_M_tracked_9 : decode b_M_tracked 9 = .ok (.iload 4, 2) := by decide +kernel
theorem d_M_tracked_11 : decode b_M_tracked 11 = .ok (.ifCond .ge 7, 3) := by decide +kernel
theorem d_M_tracked_14 : decode b_M_tracked 14 = .ok (.iconst (-1), 1) := by decide +kernel
theorem d_M_tracked_15 : decode b_M_tracked 15 = .ok (.goto 10, 3) := by decide +kernel
theorem d_M_tracked_18 : decode b_M_tracked 18 = .ok (.aload_n 0, 1) := by decide +kernel
theorem d_M_tracked_19 : decode b_M_tracked 19 = .ok (.iload 4, 2) := by decide +kernel
theorem d_M_tracked_21 : decode b_M_tracked 21 = .ok (.iload_n 3, 1) := by decide +kernel
theorem d_M_tracked_22 : decode b_M_tracked 22 = .ok (.invokevirtual 90, 3) := by decide +kernel
theorem d_M_tracked_25 : decode b_M_tracked 25 = .ok (.ireturn, 1) := by decide +kernel
theorem d_M_movesOf_0 : decode b_M_movesOf 0 = .ok (.iconst 0, 1) := by decide +kernel
theorem d_M_movesOf_1 : decode b_M_movesOf 1 = .ok (.istore_n 2, 1) := by decide +kernel
theorem d_M_movesOf_2 : decode b_M_movesOf 2 = .ok (.iconst 0, 1) := by decide +kernel
theorem d_M_movesOf_3 : decode b_M_movesOf 3 = .ok (.istore_n 3, 1) := by decide +kernel
theorem d_M_movesOf_4 : decode b_M_movesOf 4 = .ok (.iload_n 3, 1) := by decide +kernel
theorem d_M_movesOf_5 : decode b_M_movesOf 5 = .ok (.bipush 64, 2) := by decide +kernel
theorem d_M_movesOf_7 : decode b_M_movesOf 7 = .ok (.if_icmp .ge 27, 3) := by decide +kernel
theorem d_M_movesOf_10 : decode b_M_movesOf 10 = .ok (.iload_n 2, 1) := by decide +kernel
theorem d_M_movesOf_11 : decode b_M_movesOf 11 = .ok (.aload_n 0, 1) := by decide +kernel
theorem d_M_movesOf_12 : decode b_M_movesOf 12 = .ok (.iload_n 1, 1) := by decide +kernel
theorem d_M_movesOf_13 : decode b_M_movesOf 13 = .ok (.iload_n 3, 1) := by decide +kernel
theorem d_M_movesOf_14 : decode b_M_movesOf 14 = .ok (.invokevirtual 90, 3) := by decide +kernel
theorem d_M_movesOf_17 : decode b_M_movesOf 17 = .ok (.iconst (-1), 1) := by decide +kernel
theorem d_M_movesOf_18 : decode b_M_movesOf 18 = .ok (.if_icmp .eq 7, 3) := by decide +kernel
theorem d_M_movesOf_21 : decode b_M_movesOf 21 = .ok (.iconst 1, 1) := by decide +kernel
theorem d_M_movesOf_22 : decode b_M_movesOf 22 = .ok (.goto 4, 3) := by decide +kernel
theorem d_M_movesOf_25 : decode b_M_movesOf 25 = .ok (.iconst 0, 1) := by decide +kernel
theorem d_M_movesOf_26 : decode b_M_movesOf 26 = .ok (.iadd, 1) := by decide +kernel
theorem d_M_movesOf_27 : decode b_M_movesOf 27 = .ok (.istore_n 2, 1) := by decide +kernel
theorem d_M_movesOf_28 : decode b_M_movesOf 28 = .ok (.iinc 3 1, 3) := by decide +kernel
theorem d_M_movesOf_31 : decode b_M_movesOf 31 = .ok (.goto (-27), 3) := by decide +kernel
theorem d_M_movesOf_34 : decode b_M_movesOf 34 = .ok (.iload_n 2, 1) := by decide +kernel
theorem d_M_movesOf_35 : decode b_M_movesOf 35 = .ok (.ireturn, 1) := by decide +kernel
theorem d_M_cueCount_0 : decode b_M_cueCount 0 = .ok (.iconst 0, 1) := by decide +kernel
theorem d_M_cueCount_1 : decode b_M_cueCount 1 = .ok (.istore_n 1, 1) := by decide +kernel
theorem d_M_cueCount_2 : decode b_M_cueCount 2 = .ok (.iconst 0, 1) := by decide +kernel
theorem d_M_cueCount_3 : decode b_M_cueCount 3 = .ok (.istore_n 2, 1) := by decide +kernel
theorem d_M_cueCount_4 : decode b_M_cueCount 4 = .ok (.iload_n 2, 1) := by decide +kernel
theorem d_M_cueCount_5 : decode b_M_cueCount 5 = .ok (.bipush 40, 2) := by decide +kernel
theorem d_M_cueCount_7 : decode b_M_cueCount 7 = .ok (.if_icmp .ge 26, 3) := by decide +kernel
theorem d_M_cueCount_10 : decode b_M_cueCount 10 = .ok (.iload_n 1, 1) := by decide +kernel
theorem d_M_cueCount_11 : decode b_M_cueCount 11 = .ok (.aload_n 0, 1) := by decide +kernel
theorem d_M_cueCount_12 : decode b_M_cueCount 12 = .ok (.getfield 20, 3) := by decide +kernel
theorem d_M_cueCount_15 : decode b_M_cueCount 15 = .ok (.iload_n 2, 1) := by decide +kernel
theorem d_M_cueCount_16 : decode b_M_cueCount 16 = .ok (.iaload, 1) := by decide +kernel
theorem d_M_cueCount_17 : decode b_M_cueCount 17 = .ok (.ifCond .lt 7, 3) := by decide +kernel
theorem d_M_cueCount_20 : decode b_M_cueCount 20 = .ok (.iconst 1, 1) := by decide +kernel
theorem d_M_cueCount_21 : decode b_M_cueCount 21 = .ok (.goto 4, 3) := by decide +kernel
theorem d_M_cueCount_24 : decode b_M_cueCount 24 = .ok (.iconst 0, 1) := by decide +kernel
theorem d_M_cueCount_25 : decode b_M_cueCount 25 = .ok (.iadd, 1) := by decide +kernel
theorem d_M_cueCount_26 : decode b_M_cueCount 26 = .ok (.istore_n 1, 1) := by decide +kernel
theorem d_M_cueCount_27 : decode b_M_cueCount 27 = .ok (.iinc 2 1, 3) := by decide +kernel
theorem d_M_cueCount_30 : decode b_M_cueCount 30 = .ok (.goto (-26), 3) := by decide +kernel
theorem d_M_cueCount_33 : decode b_M_cueCount 33 = .ok (.iload_n 1, 1) := by decide +kernel
theorem d_M_cueCount_34 : decode b_M_cueCount 34 = .ok (.ireturn, 1) := by decide +kernel
theorem d_M_moveCount_0 : decode b_M_moveCount 0 = .ok (.iconst 0, 1) := by decide +kernel
theorem d_M_moveCount_1 : decode b_M_moveCount 1 = .ok (.istore_n 1, 1) := by decide +kernel
theorem d_M_moveCount_2 : decode b_M_moveCount 2 = .ok (.iconst 0, 1) := by decide +kernel
theorem d_M_moveCount_3 : decode b_M_moveCount 3 = .ok (.istore_n 2, 1) := by decide +kernel
theorem d_M_moveCount_4 : decode b_M_moveCount 4 = .ok (.iload_n 2, 1) := by decide +kernel
theorem d_M_moveCount_5 : decode b_M_moveCount 5 = .ok (.bipush 40, 2) := by decide +kernel
theorem d_M_moveCount_7 : decode b_M_moveCount 7 = .ok (.if_icmp .ge 30, 3) := by decide +kernel
theorem d_M_moveCount_10 : decode b_M_moveCount 10 = .ok (.iload_n 1, 1) := by decide +kernel
theorem d_M_moveCount_11 : decode b_M_moveCount 11 = .ok (.aload_n 0, 1) := by decide +kernel
theorem d_M_moveCount_12 : decode b_M_moveCount 12 = .ok (.getfield 20, 3) := by decide +kernel
theorem d_M_moveCount_15 : decode b_M_moveCount 15 = .ok (.iload_n 2, 1) := by decide +kernel
theorem d_M_moveCount_16 : decode b_M_moveCount 16 = .ok (.iaload, 1) := by decide +kernel
theorem d_M_moveCount_17 : decode b_M_moveCount 17 = .ok (.ifCond .lt 11, 3) := by decide +kernel
theorem d_M_moveCount_20 : decode b_M_moveCount 20 = .ok (.aload_n 0, 1) := by decide +kernel
theorem d_M_moveCount_21 : decode b_M_moveCount 21 = .ok (.iload_n 2, 1) := by decide +kernel
theorem d_M_moveCount_22 : decode b_M_moveCount 22 = .ok (.invokevirtual 97, 3) := by decide +kernel
theorem d_M_moveCount_25 : decode b_M_moveCount 25 = .ok (.goto 4, 3) := by decide +kernel
theorem d_M_moveCount_28 : decode b_M_moveCount 28 = .ok (.iconst 0, 1) := by decide +kernel
theorem d_M_moveCount_29 : decode b_M_moveCount 29 = .ok (.iadd, 1) := by decide +kernel
theorem d_M_moveCount_30 : decode b_M_moveCount 30 = .ok (.istore_n 1, 1) := by decide +kernel
theorem d_M_moveCount_31 : decode b_M_moveCount 31 = .ok (.iinc 2 1, 3) := by decide +kernel
theorem d_M_moveCount_34 : decode b_M_moveCount 34 = .ok (.goto (-30), 3) := by decide +kernel
theorem d_M_moveCount_37 : decode b_M_moveCount 37 = .ok (.iload_n 1, 1) := by decide +kernel
theorem d_M_moveCount_38 : decode b_M_moveCount 38 = .ok (.ireturn, 1) := by decide +kernel
theorem d_M_put_0 : decode b_M_put 0 = .ok (.aload_n 0, 1) := by decide +kernel
theorem d_M_put_1 : decode b_M_put 1 = .ok (.getfield 39, 3) := by decide +kernel
theorem d_M_put_4 : decode b_M_put 4 = .ok (.bipush 64, 2) := by decide +kernel
theorem d_M_put_6 : decode b_M_put 6 = .ok (.iload_n 1, 1) := by decide +kernel
theorem d_M_put_7 : decode b_M_put 7 = .ok (.imul, 1) := by decide +kernel
theorem d_M_put_8 : decode b_M_put 8 = .ok (.iload_n 2, 1) := by decide +kernel
theorem d_M_put_9 : decode b_M_put 9 = .ok (.iadd, 1) := by decide +kernel
theorem d_M_put_10 : decode b_M_put 10 = .ok (.iload_n 3, 1) := by decide +kernel
theorem d_M_put_11 : decode b_M_put 11 = .ok (.i2s, 1) := by decide +kernel
theorem d_M_put_12 : decode b_M_put 12 = .ok (.sastore, 1) := by decide +kernel
theorem d_M_put_13 : decode b_M_put 13 = .ok (.return_, 1) := by decide +kernel
theorem d_M_note_0 : decode b_M_note 0 = .ok (.iconst 0, 1) := by decide +kernel
theorem d_M_note_1 : decode b_M_note 1 = .ok (.istore_n 2, 1) := by decide +kernel
theorem d_M_note_2 : decode b_M_note 2 = .ok (.iload_n 2, 1) := by decide +kernel
theorem d_M_note_3 : decode b_M_note 3 = .ok (.bipush 64, 2) := by decide +kernel
theorem d_M_note_5 : decode b_M_note 5 = .ok (.if_icmp .ge 41, 3) := by decide +kernel
theorem d_M_note_8 : decode b_M_note 8 = .ok (.aload_n 0, 1) := by decide +kernel
theorem d_M_note_9 : decode b_M_note 9 = .ok (.getfield 42, 3) := by decide +kernel
theorem d_M_note_12 : decode b_M_note 12 = .ok (.iload_n 2, 1) := by decide +kernel
theorem d_M_note_13 : decode b_M_note 13 = .ok (.iload_n 1, 1) := by decide +kernel
theorem d_M_note_14 : decode b_M_note 14 = .ok (.ifCond .ge 7, 3) := by decide +kernel
theorem d_M_note_17 : decode b_M_note 17 = .ok (.iconst (-1), 1) := by decide +kernel
theorem d_M_note_18 : decode b_M_note 18 = .ok (.goto 20, 3) := by decide +kernel
theorem d_M_note_21 : decode b_M_note 21 = .ok (.aload_n 0, 1) := by decide +kernel
theorem d_M_note_22 : decode b_M_note 22 = .ok (.aload_n 0, 1) := by decide +kernel
theorem d_M_note_23 : decode b_M_note 23 = .ok (.getfield 20, 3) := by decide +kernel
theorem d_M_note_26 : decode b_M_note 26 = .ok (.iload_n 1, 1) := by decide +kernel
theorem d_M_note_27 : decode b_M_note 27 = .ok (.iaload, 1) := by decide +kernel
theorem d_M_note_28 : decode b_M_note 28 = .ok (.aload_n 0, 1) := by decide +kernel
theorem d_M_note_29 : decode b_M_note 29 = .ok (.getfield 24, 3) := by decide +kernel
theorem d_M_note_32 : decode b_M_note 32 = .ok (.iload_n 1, 1) := by decide +kernel
theorem d_M_note_33 : decode b_M_note 33 = .ok (.iaload, 1) := by decide +kernel
theorem d_M_note_34 : decode b_M_note 34 = .ok (.iload_n 2, 1) := by decide +kernel
theorem d_M_note_35 : decode b_M_note 35 = .ok (.invokevirtual 101, 3) := by decide +kernel
theorem d_M_note_38 : decode b_M_note 38 = .ok (.i2s, 1) := by decide +kernel
theorem d_M_note_39 : decode b_M_note 39 = .ok (.sastore, 1) := by decide +kernel
theorem d_M_note_40 : decode b_M_note 40 = .ok (.iinc 2 1, 3) := by decide +kernel
theorem d_M_note_43 : decode b_M_note 43 = .ok (.goto (-41), 3) := by decide +kernel
theorem d_M_note_46 : decode b_M_note 46 = .ok (.return_, 1) := by decide +kernel
theorem d_M_keep_0 : decode b_M_keep 0 = .ok (.aload_n 0, 1) := by decide +kernel
theorem d_M_keep_1 : decode b_M_keep 1 = .ok (.iload_n 1, 1) := by decide +kernel
theorem d_M_keep_2 : decode b_M_keep 2 = .ok (.iload_n 2, 1) := by decide +kernel
theorem d_M_keep_3 : decode b_M_keep 3 = .ok (.invokevirtual 90, 3) := by decide +kernel
theorem d_M_keep_6 : decode b_M_keep 6 = .ok (.iconst (-1), 1) := by decide +kernel
theorem d_M_keep_7 : decode b_M_keep 7 = .ok (.if_icmp .ne 31, 3) := by decide +kernel
theorem d_M_keep_10 : decode b_M_keep 10 = .ok (.aload_n 0, 1) := by decide +kernel
theorem d_M_keep_11 : decode b_M_keep 11 = .ok (.iload_n 1, 1) := by decide +kernel
theorem d_M_keep_12 : decode b_M_keep 12 = .ok (.iload_n 2, 1) := by decide +kernel
theorem d_M_keep_13 : decode b_M_keep 13 = .ok (.aload_n 0, 1) := by decide +kernel
theorem d_M_keep_14 : decode b_M_keep 14 = .ok (.getfield 42, 3) := by decide +kernel
theorem d_M_keep_17 : decode b_M_keep 17 = .ok (.iload_n 2, 1) := by decide +kernel
theorem d_M_keep_18 : decode b_M_keep 18 = .ok (.saload, 1) := by decide +kernel
theorem d_M_keep_19 : decode b_M_keep 19 = .ok (.iconst (-1), 1) := by decide +kernel
theorem d_M_keep_20 : decode b_M_keep 20 = .ok (.if_icmp .ne 9, 3) := by decide +kernel
theorem d_M_keep_23 : decode b_M_keep 23 = .ok (.sipush 300, 3) := by decide +kernel
theorem d_M_keep_26 : decode b_M_keep 26 = .ok (.goto 9, 3) := by decide +kernel
theorem d_M_keep_29 : decode b_M_keep 29 = .ok (.aload_n 0, 1) := by decide +kernel
theorem d_M_keep_30 : decode b_M_keep 30 = .ok (.getfield 42, 3) := by decide +kernel
theorem d_M_keep_33 : decode b_M_keep 33 = .ok (.iload_n 2, 1) := by decide +kernel
theorem d_M_keep_34 : decode b_M_keep 34 = .ok (.saload, 1) := by decide +kernel
theorem d_M_keep_35 : decode b_M_keep 35 = .ok (.invokevirtual 104, 3) := by decide +kernel
theorem d_M_keep_38 : decode b_M_keep 38 = .ok (.return_, 1) := by decide +kernel
theorem d_M_keptMoves_0 : decode b_M_keptMoves 0 = .ok (.iconst 0, 1) := by decide +kernel
theorem d_M_keptMoves_1 : decode b_M_keptMoves 1 = .ok (.istore_n 2, 1) := by decide +kernel
theorem d_M_keptMoves_2 : decode b_M_keptMoves 2 = .ok (.iconst 0, 1) := by decide +kernel
theorem d_M_keptMoves_3 : decode b_M_keptMoves 3 = .ok (.istore_n 3, 1) := by decide +kernel
theorem d_M_keptMoves_4 : decode b_M_keptMoves 4 = .ok (.iload_n 3, 1) := by decide +kernel
theorem d_M_keptMoves_5 : decode b_M_keptMoves 5 = .ok (.bipush 64, 2) := by decide +kernel
theorem d_M_keptMoves_7 : decode b_M_keptMoves 7 = .ok (.if_icmp .ge 41, 3) := by decide +kernel
theorem d_M_keptMoves_10 : decode b_M_keptMoves 10 = .ok (.iload_n 1, 1) := by decide +kernel
theorem d_M_keptMoves_11 : decode b_M_keptMoves 11 = .ok (.ifCond .lt 37, 3) := by decide +kernel
theorem d_M_keptMoves_14 : decode b_M_keptMoves 14 = .ok (.iload_n 2, 1) := by decide +kernel
theorem d_M_keptMoves_15 : decode b_M_keptMoves 15 = .ok (.aload_n 0, 1) := by decide +kernel
theorem d_M_keptMoves_16 : decode b_M_keptMoves 16 = .ok (.getfield 13, 3) := by decide +kernel
theorem d_M_keptMoves_19 : decode b_M_keptMoves 19 = .ok (.iload_n 3, 1) := by decide +kernel
theorem d_M_keptMoves_20 : decode b_M_keptMoves 20 = .ok (.saload, 1) := by decide +kernel
theorem d_M_keptMoves_21 : decode b_M_keptMoves 21 = .ok (.iconst (-1), 1) := by decide +kernel
theorem d_M_keptMoves_22 : decode b_M_keptMoves 22 = .ok (.if_icmp .eq 17, 3) := by decide +kernel
theorem d_M_keptMoves_25 : decode b_M_keptMoves 25 = .ok (.aload_n 0, 1) := by decide +kernel
theorem d_M_keptMoves_26 : decode b_M_keptMoves 26 = .ok (.iload_n 1, 1) := by decide +kernel
theorem d_M_keptMoves_27 : decode b_M_keptMoves 27 = .ok (.iload_n 3, 1) := by decide +kernel
theorem d_M_keptMoves_28 : decode b_M_keptMoves 28 = .ok (.invokevirtual 90, 3) := by decide +kernel
theorem d_M_keptMoves_31 : decode b_M_keptMoves 31 = .ok (.iconst (-1), 1) := by decide +kernel
theorem d_M_keptMoves_32 : decode b_M_keptMoves 32 = .ok (.if_icmp .ne 7, 3) := by decide +kernel
theorem d_M_keptMoves_35 : decode b_M_keptMoves 35 = .ok (.iconst 1, 1) := by decide +kernel
theorem d_M_keptMoves_36 : decode b_M_keptMoves 36 = .ok (.goto 4, 3) := by decide +kernel
theorem d_M_keptMoves_39 : decode b_M_keptMoves 39 = .ok (.iconst 0, 1) := by decide +kernel
theorem d_M_keptMoves_40 : decode b_M_keptMoves 40 = .ok (.iadd, 1) := by decide +kernel
theorem d_M_keptMoves_41 : decode b_M_keptMoves 41 = .ok (.istore_n 2, 1) := by decide +kernel
theorem d_M_keptMoves_42 : decode b_M_keptMoves 42 = .ok (.iinc 3 1, 3) := by decide +kernel
theorem d_M_keptMoves_45 : decode b_M_keptMoves 45 = .ok (.goto (-41), 3) := by decide +kernel
theorem d_M_keptMoves_48 : decode b_M_keptMoves 48 = .ok (.iload_n 2, 1) := by decide +kernel
theorem d_M_keptMoves_49 : decode b_M_keptMoves 49 = .ok (.ireturn, 1) := by decide +kernel
theorem d_M_make_0 : decode b_M_make 0 = .ok (.iconst 0, 1) := by decide +kernel
theorem d_M_make_1 : decode b_M_make 1 = .ok (.istore_n 3, 1) := by decide +kernel
theorem d_M_make_2 : decode b_M_make 2 = .ok (.aload_n 0, 1) := by decide +kernel
theorem d_M_make_3 : decode b_M_make 3 = .ok (.getfield 20, 3) := by decide +kernel
theorem d_M_make_6 : decode b_M_make 6 = .ok (.iload_n 3, 1) := by decide +kernel
theorem d_M_make_7 : decode b_M_make 7 = .ok (.iaload, 1) := by decide +kernel
theorem d_M_make_8 : decode b_M_make 8 = .ok (.ifCond .lt 9, 3) := by decide +kernel
theorem d_M_make_11 : decode b_M_make 11 = .ok (.iinc 3 1, 3) := by decide +kernel
theorem d_M_make_14 : decode b_M_make 14 = .ok (.goto (-12), 3) := by decide +kernel
theorem d_M_make_17 : decode b_M_make 17 = .ok (.aload_n 0, 1) := by decide +kernel
theorem d_M_make_18 : decode b_M_make 18 = .ok (.getfield 20, 3) := by decide +kernel
theorem d_M_make_21 : decode b_M_make 21 = .ok (.iload_n 3, 1) := by decide +kernel
theorem d_M_make_22 : decode b_M_make 22 = .ok (.iload_n 1, 1) := by decide +kernel
theorem d_M_make_23 : decode b_M_make 23 = .ok (.iastore, 1) := by decide +kernel
theorem d_M_make_24 : decode b_M_make 24 = .ok (.aload_n 0, 1) := by decide +kernel
theorem d_M_make_25 : decode b_M_make 25 = .ok (.getfield 24, 3) := by decide +kernel
theorem d_M_make_28 : decode b_M_make 28 = .ok (.iload_n 3, 1) := by decide +kernel
theorem d_M_make_29 : decode b_M_make 29 = .ok (.iload_n 2, 1) := by decide +kernel
theorem d_M_make_30 : decode b_M_make 30 = .ok (.iastore, 1) := by decide +kernel
theorem d_M_make_31 : decode b_M_make 31 = .ok (.aload_n 0, 1) := by decide +kernel
theorem d_M_make_32 : decode b_M_make 32 = .ok (.getfield 27, 3) := by decide +kernel
theorem d_M_make_35 : decode b_M_make 35 = .ok (.iload_n 3, 1) := by decide +kernel
theorem d_M_make_36 : decode b_M_make 36 = .ok (.iconst 0, 1) := by decide +kernel
theorem d_M_make_37 : decode b_M_make 37 = .ok (.iastore, 1) := by decide +kernel
theorem d_M_make_38 : decode b_M_make 38 = .ok (.aload_n 0, 1) := by decide +kernel
theorem d_M_make_39 : decode b_M_make 39 = .ok (.getfield 30, 3) := by decide +kernel
theorem d_M_make_42 : decode b_M_make 42 = .ok (.iload_n 3, 1) := by decide +kernel
theorem d_M_make_43 : decode b_M_make 43 = .ok (.iconst 0, 1) := by decide +kernel
theorem d_M_make_44 : decode b_M_make 44 = .ok (.iastore, 1) := by decide +kernel
theorem d_M_make_45 : decode b_M_make 45 = .ok (.aload_n 0, 1) := by decide +kernel
theorem d_M_make_46 : decode b_M_make 46 = .ok (.getfield 33, 3) := by decide +kernel
theorem d_M_make_49 : decode b_M_make 49 = .ok (.iload_n 3, 1) := by decide +kernel
theorem d_M_make_50 : decode b_M_make 50 = .ok (.iconst 0, 1) := by decide +kernel
theorem d_M_make_51 : decode b_M_make 51 = .ok (.iastore, 1) := by decide +kernel
theorem d_M_make_52 : decode b_M_make 52 = .ok (.aload_n 0, 1) := by decide +kernel
theorem d_M_make_53 : decode b_M_make 53 = .ok (.getfield 36, 3) := by decide +kernel
theorem d_M_make_56 : decode b_M_make 56 = .ok (.iload_n 3, 1) := by decide +kernel
theorem d_M_make_57 : decode b_M_make 57 = .ok (.iconst (-1), 1) := by decide +kernel
theorem d_M_make_58 : decode b_M_make 58 = .ok (.iastore, 1) := by decide +kernel
theorem d_M_make_59 : decode b_M_make 59 = .ok (.iconst 0, 1) := by decide +kernel
theorem d_M_make_60 : decode b_M_make 60 = .ok (.istore 4, 2) := by decide +kernel
theorem d_M_make_62 : decode b_M_make 62 = .ok (.iload 4, 2) := by decide +kernel
theorem d_M_make_64 : decode b_M_make 64 = .ok (.bipush 64, 2) := by decide +kernel
theorem d_M_make_66 : decode b_M_make 66 = .ok (.if_icmp .ge 17, 3) := by decide +kernel
theorem d_M_make_69 : decode b_M_make 69 = .ok (.aload_n 0, 1) := by decide +kernel
theorem d_M_make_70 : decode b_M_make 70 = .ok (.iload_n 3, 1) := by decide +kernel
theorem d_M_make_71 : decode b_M_make 71 = .ok (.iload 4, 2) := by decide +kernel
theorem d_M_make_73 : decode b_M_make 73 = .ok (.iconst (-1), 1) := by decide +kernel
theorem d_M_make_74 : decode b_M_make 74 = .ok (.invokevirtual 104, 3) := by decide +kernel
theorem d_M_make_77 : decode b_M_make 77 = .ok (.iinc 4 1, 3) := by decide +kernel
theorem d_M_make_80 : decode b_M_make 80 = .ok (.goto (-18), 3) := by decide +kernel
theorem d_M_make_83 : decode b_M_make 83 = .ok (.iload_n 3, 1) := by decide +kernel
theorem d_M_make_84 : decode b_M_make 84 = .ok (.ireturn, 1) := by decide +kernel
theorem d_M_record_0 : decode b_M_record 0 = .ok (.aload_n 0, 1) := by decide +kernel
theorem d_M_record_1 : decode b_M_record 1 = .ok (.iload_n 1, 1) := by decide +kernel
theorem d_M_record_2 : decode b_M_record 2 = .ok (.ifCond .lt 23, 3) := by decide +kernel
theorem d_M_record_5 : decode b_M_record 5 = .ok (.iload_n 1, 1) := by decide +kernel
theorem d_M_record_6 : decode b_M_record 6 = .ok (.iconst 4, 1) := by decide +kernel
theorem d_M_record_7 : decode b_M_record 7 = .ok (.if_icmp .ge 18, 3) := by decide +kernel
theorem d_M_record_10 : decode b_M_record 10 = .ok (.iload_n 2, 1) := by decide +kernel
theorem d_M_record_11 : decode b_M_record 11 = .ok (.ifCond .le 14, 3) := by decide +kernel
theorem d_M_record_14 : decode b_M_record 14 = .ok (.iload_n 2, 1) := by decide +kernel
theorem d_M_record_15 : decode b_M_record 15 = .ok (.sipush 10000, 3) := by decide +kernel
theorem d_M_record_18 : decode b_M_record 18 = .ok (.if_icmp .ge 7, 3) := by decide +kernel
theorem d_M_record_21 : decode b_M_record 21 = .ok (.iconst 0, 1) := by decide +kernel
theorem d_M_record_22 : decode b_M_record 22 = .ok (.goto 4, 3) := by decide +kernel
theorem d_M_record_25 : decode b_M_record 25 = .ok (.iconst 1, 1) := by decide +kernel
theorem d_M_record_26 : decode b_M_record 26 = .ok (.putfield 75, 3) := by decide +kernel
theorem d_M_record_29 : decode b_M_record 29 = .ok (.aload_n 0, 1) := by decide +kernel
theorem d_M_record_30 : decode b_M_record 30 = .ok (.getfield 75, 3) := by decide +kernel
theorem d_M_record_33 : decode b_M_record 33 = .ok (.ifCond .le 5, 3) := by decide +kernel
theorem d_M_record_36 : decode b_M_record 36 = .ok (.iconst 0, 1) := by decide +kernel
theorem d_M_record_37 : decode b_M_record 37 = .ok (.ireturn, 1) := by decide +kernel
theorem d_M_record_38 : decode b_M_record 38 = .ok (.aload_n 0, 1) := by decide +kernel
theorem d_M_record_39 : decode b_M_record 39 = .ok (.iload_n 1, 1) := by decide +kernel
theorem d_M_record_40 : decode b_M_record 40 = .ok (.iload_n 2, 1) := by decide +kernel
theorem d_M_record_41 : decode b_M_record 41 = .ok (.invokevirtual 108, 3) := by decide +kernel
theorem d_M_record_44 : decode b_M_record 44 = .ok (.istore 4, 2) := by decide +kernel
theorem d_M_record_46 : decode b_M_record 46 = .ok (.iload_n 3, 1) := by decide +kernel
theorem d_M_record_47 : decode b_M_record 47 = .ok (.ifCond .eq 12, 3) := by decide +kernel
theorem d_M_record_50 : decode b_M_record 50 = .ok (.aload_n 0, 1) := by decide +kernel
theorem d_M_record_51 : decode b_M_record 51 = .ok (.iload_n 1, 1) := by decide +kernel
theorem d_M_record_52 : decode b_M_record 52 = .ok (.iload_n 2, 1) := by decide +kernel
theorem d_M_record_53 : decode b_M_record 53 = .ok (.invokevirtual 111, 3) := by decide +kernel
theorem d_M_record_56 : decode b_M_record 56 = .ok (.goto 4, 3) := by decide +kernel
theorem d_M_record_59 : decode b_M_record 59 = .ok (.iconst (-1), 1) := by decide +kernel
theorem d_M_record_60 : decode b_M_record 60 = .ok (.istore 5, 2) := by decide +kernel
theorem d_M_record_62 : decode b_M_record 62 = .ok (.iconst 0, 1) := by decide +kernel
theorem d_M_record_63 : decode b_M_record 63 = .ok (.istore 6, 2) := by decide +kernel
theorem d_M_record_65 : decode b_M_record 65 = .ok (.iconst 0, 1) := by decide +kernel
theorem d_M_record_66 : decode b_M_record 66 = .ok (.istore 7, 2) := by decide +kernel
theorem d_M_record_68 : decode b_M_record 68 = .ok (.iload 7, 2) := by decide +kernel
theorem d_M_record_70 : decode b_M_record 70 = .ok (.bipush 64, 2) := by decide +kernel
theorem d_M_record_72 : decode b_M_record 72 = .ok (.if_icmp .ge 47, 3) := by decide +kernel
theorem d_M_record_75 : decode b_M_record 75 = .ok (.iload 6, 2) := by decide +kernel
theorem d_M_record_77 : decode b_M_record 77 = .ok (.aload_n 0, 1) := by decide +kernel
theorem d_M_record_78 : decode b_M_record 78 = .ok (.getfield 13, 3) := by decide +kernel
theorem d_M_record_81 : decode b_M_record 81 = .ok (.iload 7, 2) := by decide +kernel
theorem d_M_record_83 : decode b_M_record 83 = .ok (.saload, 1) := by decide +kernel
theorem d_M_record_84 : decode b_M_record 84 = .ok (.iconst (-1), 1) := by decide +kernel
theorem d_M_record_85 : decode b_M_record 85 = .ok (.if_icmp .eq 24, 3) := by decide +kernel
theorem d_M_record_88 : decode b_M_record 88 = .ok (.iload 4, 2) := by decide +kernel
theorem d_M_record_90 : decode b_M_record 90 = .ok (.ifCond .lt 15, 3) := by decide +kernel
theorem d_M_record_93 : decode b_M_record 93 = .ok (.aload_n 0, 1) := by decide +kernel
theorem d_M_record_94 : decode b_M_record 94 = .ok (.iload 4, 2) := by decide +kernel
theorem d_M_record_96 : decode b_M_record 96 = .ok (.iload 7, 2) := by decide +kernel
theorem d_M_record_98 : decode b_M_record 98 = .ok (.invokevirtual 90, 3) := by decide +kernel
theorem d_M_record_101 : decode b_M_record 101 = .ok (.iconst (-1), 1) := by decide +kernel
theorem d_M_record_102 : decode b_M_record 102 = .ok (.if_icmp .ne 7, 3) := by decide +kernel
theorem d_M_record_105 : decode b_M_record 105 = .ok (.iconst 1, 1) := by decide +kernel
theorem d_M_record_106 : decode b_M_record 106 = .ok (.goto 4, 3) := by decide +kernel
theorem d_M_record_109 : decode b_M_record 109 = .ok (.iconst 0, 1) := by decide +kernel
theorem d_M_record_110 : decode b_M_record 110 = .ok (.iadd, 1) := by decide +kernel
theorem d_M_record_111 : decode b_M_record 111 = .ok (.istore 6, 2) := by decide +kernel
theorem d_M_record_113 : decode b_M_record 113 = .ok (.iinc 7 1, 3) := by decide +kernel
theorem d_M_record_116 : decode b_M_record 116 = .ok (.goto (-48), 3) := by decide +kernel
theorem d_M_record_119 : decode b_M_record 119 = .ok (.aload_n 0, 1) := by decide +kernel
theorem d_M_record_120 : decode b_M_record 120 = .ok (.iload 4, 2) := by decide +kernel
theorem d_M_record_122 : decode b_M_record 122 = .ok (.ifCond .ge 12, 3) := by decide +kernel
theorem d_M_record_125 : decode b_M_record 125 = .ok (.aload_n 0, 1) := by decide +kernel
theorem d_M_record_126 : decode b_M_record 126 = .ok (.invokevirtual 114, 3) := by decide +kernel
theorem d_M_record_129 : decode b_M_record 129 = .ok (.bipush 40, 2) := by decide +kernel
theorem d_M_record_131 : decode b_M_record 131 = .ok (.if_icmp .eq 23, 3) := by decide +kernel
theorem d_M_record_134 : decode b_M_record 134 = .ok (.aload_n 0, 1) := by decide +kernel
theorem d_M_record_135 : decode b_M_record 135 = .ok (.invokevirtual 118, 3) := by decide +kernel
theorem d_M_record_138 : decode b_M_record 138 = .ok (.iload 6, 2) := by decide +kernel
theorem d_M_record_140 : decode b_M_record 140 = .ok (.iadd, 1) := by decide +kernel
theorem d_M_record_141 : decode b_M_record 141 = .ok (.aload_n 0, 1) := by decide +kernel
theorem d_M_record_142 : decode b_M_record 142 = .ok (.iload 5, 2) := by decide +kernel
theorem d_M_record_144 : decode b_M_record 144 = .ok (.invokevirtual 121, 3) := by decide +kernel
theorem d_M_record_147 : decode b_M_record 147 = .ok (.iadd, 1) := by decide +kernel
theorem d_M_record_148 : decode b_M_record 148 = .ok (.sipush 600, 3) := by decide +kernel
theorem d_M_record_151 : decode b_M_record 151 = .ok (.if_icmp .le 7, 3) := by decide +kernel
theorem d_M_record_154 : decode b_M_record 154 = .ok (.iconst 2, 1) := by decide +kernel
theorem d_M_record_155 : decode b_M_record 155 = .ok (.goto 4, 3) := by decide +kernel
theorem d_M_record_158 : decode b_M_record 158 = .ok (.iconst 0, 1) := by decide +kernel
theorem d_M_record_159 : decode b_M_record 159 = .ok (.putfield 75, 3) := by decide +kernel
theorem d_M_record_162 : decode b_M_record 162 = .ok (.aload_n 0, 1) := by decide +kernel
theorem d_M_record_163 : decode b_M_record 163 = .ok (.getfield 75, 3) := by decide +kernel
theorem d_M_record_166 : decode b_M_record 166 = .ok (.ifCond .le 5, 3) := by decide +kernel
theorem d_M_record_169 : decode b_M_record 169 = .ok (.iconst 0, 1) := by decide +kernel
theorem d_M_record_170 : decode b_M_record 170 = .ok (.ireturn, 1) := by decide +kernel
theorem d_M_record_171 : decode b_M_record 171 = .ok (.aload_n 0, 1) := by decide +kernel
theorem d_M_record_172 : decode b_M_record 172 = .ok (.iload 5, 2) := by decide +kernel
theorem d_M_record_174 : decode b_M_record 174 = .ok (.invokevirtual 124, 3) := by decide +kernel
theorem d_M_record_177 : decode b_M_record 177 = .ok (.iload 4, 2) := by decide +kernel
theorem d_M_record_179 : decode b_M_record 179 = .ok (.ifCond .ge 12, 3) := by decide +kernel
theorem d_M_record_182 : decode b_M_record 182 = .ok (.aload_n 0, 1) := by decide +kernel
theorem d_M_record_183 : decode b_M_record 183 = .ok (.iload_n 1, 1) := by decide +kernel
theorem d_M_record_184 : decode b_M_record 184 = .ok (.iload_n 2, 1) := by decide +kernel
theorem d_M_record_185 : decode b_M_record 185 = .ok (.invokevirtual 128, 3) := by decide +kernel
theorem d_M_record_188 : decode b_M_record 188 = .ok (.goto 5, 3) := by decide +kernel
theorem d_M_record_191 : decode b_M_record 191 = .ok (.iload 4, 2) := by decide +kernel
theorem d_M_record_193 : decode b_M_record 193 = .ok (.istore 4, 2) := by decide +kernel
theorem d_M_record_195 : decode b_M_record 195 = .ok (.iconst 0, 1) := by decide +kernel
theorem d_M_record_196 : decode b_M_record 196 = .ok (.istore 7, 2) := by decide +kernel
theorem d_M_record_198 : decode b_M_record 198 = .ok (.iload 7, 2) := by decide +kernel
theorem d_M_record_200 : decode b_M_record 200 = .ok (.bipush 64, 2) := by decide +kernel
theorem d_M_record_202 : decode b_M_record 202 = .ok (.if_icmp .ge 48, 3) := by decide +kernel
theorem d_M_record_205 : decode b_M_record 205 = .ok (.aload_n 0, 1) := by decide +kernel
theorem d_M_record_206 : decode b_M_record 206 = .ok (.getfield 13, 3) := by decide +kernel
theorem d_M_record_209 : decode b_M_record 209 = .ok (.iload 7, 2) := by decide +kernel
theorem d_M_record_211 : decode b_M_record 211 = .ok (.saload, 1) := by decide +kernel
theorem d_M_record_212 : decode b_M_record 212 = .ok (.iconst (-1), 1) := by decide +kernel
theorem d_M_record_213 : decode b_M_record 213 = .ok (.if_icmp .eq 31, 3) := by decide +kernel
theorem d_M_record_216 : decode b_M_record 216 = .ok (.aload_n 0, 1) := by decide +kernel
theorem d_M_record_217 : decode b_M_record 217 = .ok (.iload 4, 2) := by decide +kernel
theorem d_M_record_219 : decode b_M_record 219 = .ok (.iload 7, 2) := by decide +kernel
theorem d_M_record_221 : decode b_M_record 221 = .ok (.aload_n 0, 1) := by decide +kernel
theorem d_M_record_222 : decode b_M_record 222 = .ok (.getfield 13, 3) := by decide +kernel
theorem d_M_record_225 : decode b_M_record 225 = .ok (.iload 7, 2) := by decide +kernel
theorem d_M_record_227 : decode b_M_record 227 = .ok (.saload, 1) := by decide +kernel
theorem d_M_record_228 : decode b_M_record 228 = .ok (.invokevirtual 104, 3) := by decide +kernel
theorem d_M_record_231 : decode b_M_record 231 = .ok (.iload 5, 2) := by decide +kernel
theorem d_M_record_233 : decode b_M_record 233 = .ok (.ifCond .lt 11, 3) := by decide +kernel
theorem d_M_record_236 : decode b_M_record 236 = .ok (.aload_n 0, 1) := by decide +kernel
theorem d_M_record_237 : decode b_M_record 237 = .ok (.iload 5, 2) := by decide +kernel
theorem d_M_record_239 : decode b_M_record 239 = .ok (.iload 7, 2) := by decide +kernel
theorem d_M_record_241 : decode b_M_record 241 = .ok (.invokevirtual 131, 3) := by decide +kernel
theorem d_M_record_244 : decode b_M_record 244 = .ok (.iinc 7 1, 3) := by decide +kernel
theorem d_M_record_247 : decode b_M_record 247 = .ok (.goto (-49), 3) := by decide +kernel
theorem d_M_record_250 : decode b_M_record 250 = .ok (.aload_n 0, 1) := by decide +kernel
theorem d_M_record_251 : decode b_M_record 251 = .ok (.iload 4, 2) := by decide +kernel
theorem d_M_record_253 : decode b_M_record 253 = .ok (.invokevirtual 97, 3) := by decide +kernel
theorem d_M_record_256 : decode b_M_record 256 = .ok (.ireturn, 1) := by decide +kernel
theorem d_M_has_0 : decode b_M_has 0 = .ok (.aload_n 0, 1) := by decide +kernel
theorem d_M_has_1 : decode b_M_has 1 = .ok (.aload_n 0, 1) := by decide +kernel
theorem d_M_has_2 : decode b_M_has 2 = .ok (.iload_n 1, 1) := by decide +kernel
theorem d_M_has_3 : decode b_M_has 3 = .ok (.iload_n 2, 1) := by decide +kernel
theorem d_M_has_4 : decode b_M_has 4 = .ok (.invokevirtual 108, 3) := by decide +kernel
theorem d_M_has_7 : decode b_M_has 7 = .ok (.ifCond .ge 7, 3) := by decide +kernel
theorem d_M_has_10 : decode b_M_has 10 = .ok (.iconst 1, 1) := by decide +kernel
theorem d_M_has_11 : decode b_M_has 11 = .ok (.goto 4, 3) := by decide +kernel
theorem d_M_has_14 : decode b_M_has 14 = .ok (.iconst 0, 1) := by decide +kernel
theorem d_M_has_15 : decode b_M_has 15 = .ok (.putfield 75, 3) := by decide +kernel
theorem d_M_has_18 : decode b_M_has 18 = .ok (.aload_n 0, 1) := by decide +kernel
theorem d_M_has_19 : decode b_M_has 19 = .ok (.getfield 75, 3) := by decide +kernel
theorem d_M_has_22 : decode b_M_has 22 = .ok (.ifCond .ne 7, 3) := by decide +kernel
theorem d_M_has_25 : decode b_M_has 25 = .ok (.iconst 1, 1) := by decide +kernel
theorem d_M_has_26 : decode b_M_has 26 = .ok (.goto 4, 3) := by decide +kernel
theorem d_M_has_29 : decode b_M_has 29 = .ok (.iconst 0, 1) := by decide +kernel
theorem d_M_has_30 : decode b_M_has 30 = .ok (.ireturn, 1) := by decide +kernel
theorem d_M_update_0 : decode b_M_update 0 = .ok (.aload_n 0, 1) := by decide +kernel
theorem d_M_update_1 : decode b_M_update 1 = .ok (.iload_n 1, 1) := by decide +kernel
theorem d_M_update_2 : decode b_M_update 2 = .ok (.iload_n 2, 1) := by decide +kernel
theorem d_M_update_3 : decode b_M_update 3 = .ok (.invokevirtual 135, 3) := by decide +kernel
theorem d_M_update_6 : decode b_M_update 6 = .ok (.ifCond .ne 5, 3) := by decide +kernel
theorem d_M_update_9 : decode b_M_update 9 = .ok (.iconst 0, 1) := by decide +kernel
theorem d_M_update_10 : decode b_M_update 10 = .ok (.ireturn, 1) := by decide +kernel
theorem d_M_update_11 : decode b_M_update 11 = .ok (.aload_n 0, 1) := by decide +kernel
theorem d_M_update_12 : decode b_M_update 12 = .ok (.iload_n 1, 1) := by decide +kernel
theorem d_M_update_13 : decode b_M_update 13 = .ok (.iload_n 2, 1) := by decide +kernel
theorem d_M_update_14 : decode b_M_update 14 = .ok (.invokevirtual 108, 3) := by decide +kernel
theorem d_M_update_17 : decode b_M_update 17 = .ok (.istore_n 3, 1) := by decide +kernel
theorem d_M_update_18 : decode b_M_update 18 = .ok (.iconst 0, 1) := by decide +kernel
theorem d_M_update_19 : decode b_M_update 19 = .ok (.istore 4, 2) := by decide +kernel
theorem d_M_update_21 : decode b_M_update 21 = .ok (.iconst 0, 1) := by decide +kernel
theorem d_M_update_22 : decode b_M_update 22 = .ok (.istore 5, 2) := by decide +kernel
theorem d_M_update_24 : decode b_M_update 24 = .ok (.iload 5, 2) := by decide +kernel
theorem d_M_update_26 : decode b_M_update 26 = .ok (.bipush 64, 2) := by decide +kernel
theorem d_M_update_28 : decode b_M_update 28 = .ok (.if_icmp .ge 41, 3) := by decide +kernel
theorem d_M_update_31 : decode b_M_update 31 = .ok (.iload 4, 2) := by decide +kernel
theorem d_M_update_33 : decode b_M_update 33 = .ok (.aload_n 0, 1) := by decide +kernel
theorem d_M_update_34 : decode b_M_update 34 = .ok (.getfield 13, 3) := by decide +kernel
theorem d_M_update_37 : decode b_M_update 37 = .ok (.iload 5, 2) := by decide +kernel
theorem d_M_update_39 : decode b_M_update 39 = .ok (.saload, 1) := by decide +kernel
theorem d_M_update_40 : decode b_M_update 40 = .ok (.iconst (-1), 1) := by decide +kernel
theorem d_M_update_41 : decode b_M_update 41 = .ok (.if_icmp .eq 18, 3) := by decide +kernel
theorem d_M_update_44 : decode b_M_update 44 = .ok (.aload_n 0, 1) := by decide +kernel
theorem d_M_update_45 : decode b_M_update 45 = .ok (.iload_n 1, 1) := by decide +kernel
theorem d_M_update_46 : decode b_M_update 46 = .ok (.iload_n 2, 1) := by decide +kernel
theorem d_M_update_47 : decode b_M_update 47 = .ok (.iload 5, 2) := by decide +kernel
theorem d_M_update_49 : decode b_M_update 49 = .ok (.invokevirtual 93, 3) := by decide +kernel
theorem d_M_update_52 : decode b_M_update 52 = .ok (.ifCond .ge 7, 3) := by decide +kernel
theorem d_M_update_55 : decode b_M_update 55 = .ok (.iconst 1, 1) := by decide +kernel
theorem d_M_update_56 : decode b_M_update 56 = .ok (.goto 4, 3) := by decide +kernel
theorem d_M_update_59 : decode b_M_update 59 = .ok (.iconst 0, 1) := by decide +kernel
theorem d_M_update_60 : decode b_M_update 60 = .ok (.iadd, 1) := by decide +kernel
theorem d_M_update_61 : decode b_M_update 61 = .ok (.istore 4, 2) := by decide +kernel
theorem d_M_update_63 : decode b_M_update 63 = .ok (.iinc 5 1, 3) := by decide +kernel
theorem d_M_update_66 : decode b_M_update 66 = .ok (.goto (-42), 3) := by decide +kernel
theorem d_M_update_69 : decode b_M_update 69 = .ok (.aload_n 0, 1) := by decide +kernel
theorem d_M_update_70 : decode b_M_update 70 = .ok (.aload_n 0, 1) := by decide +kernel
theorem d_M_update_71 : decode b_M_update 71 = .ok (.invokevirtual 118, 3) := by decide +kernel
theorem d_M_update_74 : decode b_M_update 74 = .ok (.iload 4, 2) := by decide +kernel
theorem d_M_update_76 : decode b_M_update 76 = .ok (.iadd, 1) := by decide +kernel
theorem d_M_update_77 : decode b_M_update 77 = .ok (.sipush 600, 3) := by decide +kernel
theorem d_M_update_80 : decode b_M_update 80 = .ok (.if_icmp .le 7, 3) := by decide +kernel
theorem d_M_update_83 : decode b_M_update 83 = .ok (.iconst 2, 1) := by decide +kernel
theorem d_M_update_84 : decode b_M_update 84 = .ok (.goto 4, 3) := by decide +kernel
theorem d_M_update_87 : decode b_M_update 87 = .ok (.iconst 0, 1) := by decide +kernel
theorem d_M_update_88 : decode b_M_update 88 = .ok (.putfield 75, 3) := by decide +kernel
theorem d_M_update_91 : decode b_M_update 91 = .ok (.aload_n 0, 1) := by decide +kernel
theorem d_M_update_92 : decode b_M_update 92 = .ok (.getfield 75, 3) := by decide +kernel
theorem d_M_update_95 : decode b_M_update 95 = .ok (.ifCond .le 5, 3) := by decide +kernel
theorem d_M_update_98 : decode b_M_update 98 = .ok (.iconst 0, 1) := by decide +kernel
theorem d_M_update_99 : decode b_M_update 99 = .ok (.ireturn, 1) := by decide +kernel
theorem d_M_update_100 : decode b_M_update 100 = .ok (.lconst 0, 1) := by decide +kernel
theorem d_M_update_101 : decode b_M_update 101 = .ok (.lstore 5, 2) := by decide +kernel
theorem d_M_update_103 : decode b_M_update 103 = .ok (.iconst 0, 1) := by decide +kernel
theorem d_M_update_104 : decode b_M_update 104 = .ok (.istore 7, 2) := by decide +kernel
theorem d_M_update_106 : decode b_M_update 106 = .ok (.iload 7, 2) := by decide +kernel
theorem d_M_update_108 : decode b_M_update 108 = .ok (.bipush 64, 2) := by decide +kernel
theorem d_M_update_110 : decode b_M_update 110 = .ok (.if_icmp .ge 67, 3) := by decide +kernel
theorem d_M_update_113 : decode b_M_update 113 = .ok (.aload_n 0, 1) := by decide +kernel
theorem d_M_update_114 : decode b_M_update 114 = .ok (.getfield 13, 3) := by decide +kernel
theorem d_M_update_117 : decode b_M_update 117 = .ok (.iload 7, 2) := by decide +kernel
theorem d_M_update_119 : decode b_M_update 119 = .ok (.saload, 1) := by decide +kernel
theorem d_M_update_120 : decode b_M_update 120 = .ok (.iconst (-1), 1) := by decide +kernel
theorem d_M_update_121 : decode b_M_update 121 = .ok (.if_icmp .eq 50, 3) := by decide +kernel
theorem d_M_update_124 : decode b_M_update 124 = .ok (.aload_n 0, 1) := by decide +kernel
theorem d_M_update_125 : decode b_M_update 125 = .ok (.iload_n 1, 1) := by decide +kernel
theorem d_M_update_126 : decode b_M_update 126 = .ok (.iload_n 2, 1) := by decide +kernel
theorem d_M_update_127 : decode b_M_update 127 = .ok (.iload 7, 2) := by decide +kernel
theorem d_M_update_129 : decode b_M_update 129 = .ok (.invokevirtual 93, 3) := by decide +kernel
theorem d_M_update_132 : decode b_M_update 132 = .ok (.istore 8, 2) := by decide +kernel
theorem d_M_update_134 : decode b_M_update 134 = .ok (.iload 8, 2) := by decide +kernel
theorem d_M_update_136 : decode b_M_update 136 = .ok (.ifCond .ge 7, 3) := by decide +kernel
theorem d_M_update_139 : decode b_M_update 139 = .ok (.iload_n 3, 1) := by decide +kernel
theorem d_M_update_140 : decode b_M_update 140 = .ok (.goto 5, 3) := by decide +kernel
theorem d_M_update_143 : decode b_M_update 143 = .ok (.iload 8, 2) := by decide +kernel
theorem d_M_update_145 : decode b_M_update 145 = .ok (.istore 8, 2) := by decide +kernel
theorem d_M_update_147 : decode b_M_update 147 = .ok (.aload_n 0, 1) := by decide +kernel
theorem d_M_update_148 : decode b_M_update 148 = .ok (.iload 8, 2) := by decide +kernel
theorem d_M_update_150 : decode b_M_update 150 = .ok (.iload 7, 2) := by decide +kernel
theorem d_M_update_152 : decode b_M_update 152 = .ok (.aload_n 0, 1) := by decide +kernel
theorem d_M_update_153 : decode b_M_update 153 = .ok (.getfield 13, 3) := by decide +kernel
theorem d_M_update_156 : decode b_M_update 156 = .ok (.iload 7, 2) := by decide +kernel
theorem d_M_update_158 : decode b_M_update 158 = .ok (.saload, 1) := by decide +kernel
theorem d_M_update_159 : decode b_M_update 159 = .ok (.invokevirtual 104, 3) := by decide +kernel
theorem d_M_update_162 : decode b_M_update 162 = .ok (.lload 5, 2) := by decide +kernel
theorem d_M_update_164 : decode b_M_update 164 = .ok (.lconst 1, 1) := by decide +kernel
theorem d_M_update_165 : decode b_M_update 165 = .ok (.iload 8, 2) := by decide +kernel
theorem d_M_update_167 : decode b_M_update 167 = .ok (.lshl, 1) := by decide +kernel
theorem d_M_update_168 : decode b_M_update 168 = .ok (.lor, 1) := by decide +kernel
theorem d_M_update_169 : decode b_M_update 169 = .ok (.lstore 5, 2) := by decide +kernel
theorem d_M_update_171 : decode b_M_update 171 = .ok (.iinc 7 1, 3) := by decide +kernel
theorem d_M_update_174 : decode b_M_update 174 = .ok (.goto (-68), 3) := by decide +kernel
theorem d_M_update_177 : decode b_M_update 177 = .ok (.iconst 0, 1) := by decide +kernel
theorem d_M_update_178 : decode b_M_update 178 = .ok (.istore 7, 2) := by decide +kernel
theorem d_M_update_180 : decode b_M_update 180 = .ok (.iconst 0, 1) := by decide +kernel
theorem d_M_update_181 : decode b_M_update 181 = .ok (.istore 8, 2) := by decide +kernel
theorem d_M_update_183 : decode b_M_update 183 = .ok (.iload 8, 2) := by decide +kernel
theorem d_M_update_185 : decode b_M_update 185 = .ok (.bipush 40, 2) := by decide +kernel
theorem d_M_update_187 : decode b_M_update 187 = .ok (.if_icmp .ge 31, 3) := by decide +kernel
theorem d_M_update_190 : decode b_M_update 190 = .ok (.iload 7, 2) := by decide +kernel
theorem d_M_update_192 : decode b_M_update 192 = .ok (.lload 5, 2) := by decide +kernel
theorem d_M_update_194 : decode b_M_update 194 = .ok (.iload 8, 2) := by decide +kernel
theorem d_M_update_196 : decode b_M_update 196 = .ok (.lshr, 1) := by decide +kernel
theorem d_M_update_197 : decode b_M_update 197 = .ok (.lconst 1, 1) := by decide +kernel
theorem d_M_update_198 : decode b_M_update 198 = .ok (.land, 1) := by decide +kernel
theorem d_M_update_199 : decode b_M_update 199 = .ok (.lconst 1, 1) := by decide +kernel
theorem d_M_update_200 : decode b_M_update 200 = .ok (.lcmp, 1) := by decide +kernel
theorem d_M_update_201 : decode b_M_update 201 = .ok (.ifCond .ne 7, 3) := by decide +kernel
theorem d_M_update_204 : decode b_M_update 204 = .ok (.iconst 1, 1) := by decide +kernel
theorem d_M_update_205 : decode b_M_update 205 = .ok (.goto 4, 3) := by decide +kernel
theorem d_M_update_208 : decode b_M_update 208 = .ok (.iconst 0, 1) := by decide +kernel
theorem d_M_update_209 : decode b_M_update 209 = .ok (.iadd, 1) := by decide +kernel
theorem d_M_update_210 : decode b_M_update 210 = .ok (.istore 7, 2) := by decide +kernel
theorem d_M_update_212 : decode b_M_update 212 = .ok (.iinc 8 1, 3) := by decide +kernel
theorem d_M_update_215 : decode b_M_update 215 = .ok (.goto (-32), 3) := by decide +kernel
theorem d_M_update_218 : decode b_M_update 218 = .ok (.iload 7, 2) := by decide +kernel
theorem d_M_update_220 : decode b_M_update 220 = .ok (.ireturn, 1) := by decide +kernel
theorem d_M_delete_0 : decode b_M_delete 0 = .ok (.aload_n 0, 1) := by decide +kernel
theorem d_M_delete_1 : decode b_M_delete 1 = .ok (.iload_n 1, 1) := by decide +kernel
theorem d_M_delete_2 : decode b_M_delete 2 = .ok (.iload_n 2, 1) := by decide +kernel
theorem d_M_delete_3 : decode b_M_delete 3 = .ok (.invokevirtual 135, 3) := by decide +kernel
theorem d_M_delete_6 : decode b_M_delete 6 = .ok (.ifCond .ne 5, 3) := by decide +kernel
theorem d_M_delete_9 : decode b_M_delete 9 = .ok (.iconst 0, 1) := by decide +kernel
theorem d_M_delete_10 : decode b_M_delete 10 = .ok (.ireturn, 1) := by decide +kernel
theorem d_M_delete_11 : decode b_M_delete 11 = .ok (.aload_n 0, 1) := by decide +kernel
theorem d_M_delete_12 : decode b_M_delete 12 = .ok (.iload_n 1, 1) := by decide +kernel
theorem d_M_delete_13 : decode b_M_delete 13 = .ok (.iload_n 2, 1) := by decide +kernel
theorem d_M_delete_14 : decode b_M_delete 14 = .ok (.invokevirtual 108, 3) := by decide +kernel
theorem d_M_delete_17 : decode b_M_delete 17 = .ok (.istore 4, 2) := by decide +kernel
theorem d_M_delete_19 : decode b_M_delete 19 = .ok (.iload_n 3, 1) := by decide +kernel
theorem d_M_delete_20 : decode b_M_delete 20 = .ok (.ifCond .eq 12, 3) := by decide +kernel
theorem d_M_delete_23 : decode b_M_delete 23 = .ok (.aload_n 0, 1) := by decide +kernel
theorem d_M_delete_24 : decode b_M_delete 24 = .ok (.iload_n 1, 1) := by decide +kernel
theorem d_M_delete_25 : decode b_M_delete 25 = .ok (.iload_n 2, 1) := by decide +kernel
theorem d_M_delete_26 : decode b_M_delete 26 = .ok (.invokevirtual 111, 3) := by decide +kernel
theorem d_M_delete_29 : decode b_M_delete 29 = .ok (.goto 4, 3) := by decide +kernel
theorem d_M_delete_32 : decode b_M_delete 32 = .ok (.iconst (-1), 1) := by decide +kernel
theorem d_M_delete_33 : decode b_M_delete 33 = .ok (.istore 5, 2) := by decide +kernel
theorem d_M_delete_35 : decode b_M_delete 35 = .ok (.aload_n 0, 1) := by decide +kernel
theorem d_M_delete_36 : decode b_M_delete 36 = .ok (.iload 4, 2) := by decide +kernel
theorem d_M_delete_38 : decode b_M_delete 38 = .ok (.invokevirtual 97, 3) := by decide +kernel
theorem d_M_delete_41 : decode b_M_delete 41 = .ok (.istore 6, 2) := by decide +kernel
theorem d_M_delete_43 : decode b_M_delete 43 = .ok (.aload_n 0, 1) := by decide +kernel
theorem d_M_delete_44 : decode b_M_delete 44 = .ok (.iload 5, 2) := by decide +kernel
theorem d_M_delete_46 : decode b_M_delete 46 = .ok (.invokevirtual 124, 3) := by decide +kernel
theorem d_M_delete_49 : decode b_M_delete 49 = .ok (.iconst 0, 1) := by decide +kernel
theorem d_M_delete_50 : decode b_M_delete 50 = .ok (.istore 7, 2) := by decide +kernel
theorem d_M_delete_52 : decode b_M_delete 52 = .ok (.iload 7, 2) := by decide +kernel
theorem d_M_delete_54 : decode b_M_delete 54 = .ok (.bipush 64, 2) := by decide +kernel
theorem d_M_delete_56 : decode b_M_delete 56 = .ok (.if_icmp .ge 34, 3) := by decide +kernel
theorem d_M_delete_59 : decode b_M_delete 59 = .ok (.iload 5, 2) := by decide +kernel
theorem d_M_delete_61 : decode b_M_delete 61 = .ok (.ifCond .lt 23, 3) := by decide +kernel
theorem d_M_delete_64 : decode b_M_delete 64 = .ok (.aload_n 0, 1) := by decide +kernel
theorem d_M_delete_65 : decode b_M_delete 65 = .ok (.iload 4, 2) := by decide +kernel
theorem d_M_delete_67 : decode b_M_delete 67 = .ok (.iload 7, 2) := by decide +kernel
theorem d_M_delete_69 : decode b_M_delete 69 = .ok (.invokevirtual 90, 3) := by decide +kernel
theorem d_M_delete_72 : decode b_M_delete 72 = .ok (.iconst (-1), 1) := by decide +kernel
theorem d_M_delete_73 : decode b_M_delete 73 = .ok (.if_icmp .eq 11, 3) := by decide +kernel
theorem d_M_delete_76 : decode b_M_delete 76 = .ok (.aload_n 0, 1) := by decide +kernel
theorem d_M_delete_77 : decode b_M_delete 77 = .ok (.iload 5, 2) := by decide +kernel
theorem d_M_delete_79 : decode b_M_delete 79 = .ok (.iload 7, 2) := by decide +kernel
theorem d_M_delete_81 : decode b_M_delete 81 = .ok (.invokevirtual 131, 3) := by decide +kernel
theorem d_M_delete_84 : decode b_M_delete 84 = .ok (.iinc 7 1, 3) := by decide +kernel
theorem d_M_delete_87 : decode b_M_delete 87 = .ok (.goto (-35), 3) := by decide +kernel
theorem d_M_delete_90 : decode b_M_delete 90 = .ok (.aload_n 0, 1) := by decide +kernel
theorem d_M_delete_91 : decode b_M_delete 91 = .ok (.getfield 20, 3) := by decide +kernel
theorem d_M_delete_94 : decode b_M_delete 94 = .ok (.iload 4, 2) := by decide +kernel
theorem d_M_delete_96 : decode b_M_delete 96 = .ok (.iconst (-1), 1) := by decide +kernel
theorem d_M_delete_97 : decode b_M_delete 97 = .ok (.iastore, 1) := by decide +kernel
theorem d_M_delete_98 : decode b_M_delete 98 = .ok (.iload 6, 2) := by decide +kernel
theorem d_M_delete_100 : decode b_M_delete 100 = .ok (.ireturn, 1) := by decide +kernel
theorem d_M_block_0 : decode b_M_block 0 = .ok (.aload_n 0, 1) := by decide +kernel
theorem d_M_block_1 : decode b_M_block 1 = .ok (.iload_n 1, 1) := by decide +kernel
theorem d_M_block_2 : decode b_M_block 2 = .ok (.iload_n 2, 1) := by decide +kernel
theorem d_M_block_3 : decode b_M_block 3 = .ok (.invokevirtual 135, 3) := by decide +kernel
theorem d_M_block_6 : decode b_M_block 6 = .ok (.ifCond .ne 5, 3) := by decide +kernel
theorem d_M_block_9 : decode b_M_block 9 = .ok (.iconst 0, 1) := by decide +kernel
theorem d_M_block_10 : decode b_M_block 10 = .ok (.ireturn, 1) := by decide +kernel
theorem d_M_block_11 : decode b_M_block 11 = .ok (.aload_n 0, 1) := by decide +kernel
theorem d_M_block_12 : decode b_M_block 12 = .ok (.iload_n 1, 1) := by decide +kernel
theorem d_M_block_13 : decode b_M_block 13 = .ok (.iload_n 2, 1) := by decide +kernel
theorem d_M_block_14 : decode b_M_block 14 = .ok (.invokevirtual 108, 3) := by decide +kernel
theorem d_M_block_17 : decode b_M_block 17 = .ok (.istore 4, 2) := by decide +kernel
theorem d_M_block_19 : decode b_M_block 19 = .ok (.iconst 0, 1) := by decide +kernel
theorem d_M_block_20 : decode b_M_block 20 = .ok (.istore 5, 2) := by decide +kernel
theorem d_M_block_22 : decode b_M_block 22 = .ok (.iconst 0, 1) := by decide +kernel
theorem d_M_block_23 : decode b_M_block 23 = .ok (.istore 6, 2) := by decide +kernel
theorem d_M_block_25 : decode b_M_block 25 = .ok (.iload 6, 2) := by decide +kernel
theorem d_M_block_27 : decode b_M_block 27 = .ok (.bipush 64, 2) := by decide +kernel
theorem d_M_block_29 : decode b_M_block 29 = .ok (.if_icmp .ge 42, 3) := by decide +kernel
theorem d_M_block_32 : decode b_M_block 32 = .ok (.iload 5, 2) := by decide +kernel
theorem d_M_block_34 : decode b_M_block 34 = .ok (.aload_n 0, 1) := by decide +kernel
theorem d_M_block_35 : decode b_M_block 35 = .ok (.iload_n 1, 1) := by decide +kernel
theorem d_M_block_36 : decode b_M_block 36 = .ok (.iload_n 2, 1) := by decide +kernel
theorem d_M_block_37 : decode b_M_block 37 = .ok (.iload 6, 2) := by decide +kernel
theorem d_M_block_39 : decode b_M_block 39 = .ok (.invokevirtual 93, 3) := by decide +kernel
theorem d_M_block_42 : decode b_M_block 42 = .ok (.ifCond .lt 19, 3) := by decide +kernel
theorem d_M_block_45 : decode b_M_block 45 = .ok (.aload_n 0, 1) := by decide +kernel
theorem d_M_block_46 : decode b_M_block 46 = .ok (.iload 4, 2) := by decide +kernel
theorem d_M_block_48 : decode b_M_block 48 = .ok (.iload 6, 2) := by decide +kernel
theorem d_M_block_50 : decode b_M_block 50 = .ok (.invokevirtual 90, 3) := by decide +kernel
theorem d_M_block_53 : decode b_M_block 53 = .ok (.iconst (-1), 1) := by decide +kernel
theorem d_M_block_54 : decode b_M_block 54 = .ok (.if_icmp .ne 7, 3) := by decide +kernel
theorem d_M_block_57 : decode b_M_block 57 = .ok (.iconst 1, 1) := by decide +kernel
theorem d_M_block_58 : decode b_M_block 58 = .ok (.goto 4, 3) := by decide +kernel
theorem d_M_block_61 : decode b_M_block 61 = .ok (.iconst 0, 1) := by decide +kernel
theorem d_M_block_62 : decode b_M_block 62 = .ok (.iadd, 1) := by decide +kernel
theorem d_M_block_63 : decode b_M_block 63 = .ok (.istore 5, 2) := by decide +kernel
theorem d_M_block_65 : decode b_M_block 65 = .ok (.iinc 6 1, 3) := by decide +kernel
theorem d_M_block_68 : decode b_M_block 68 = .ok (.goto (-43), 3) := by decide +kernel
theorem d_M_block_71 : decode b_M_block 71 = .ok (.aload_n 0, 1) := by decide +kernel
theorem d_M_block_72 : decode b_M_block 72 = .ok (.iload_n 3, 1) := by decide +kernel
theorem d_M_block_73 : decode b_M_block 73 = .ok (.ifCond .eq 20, 3) := by decide +kernel
theorem d_M_block_76 : decode b_M_block 76 = .ok (.aload_n 0, 1) := by decide +kernel
theorem d_M_block_77 : decode b_M_block 77 = .ok (.invokevirtual 118, 3) := by decide +kernel
theorem d_M_block_80 : decode b_M_block 80 = .ok (.iload 5, 2) := by decide +kernel
theorem d_M_block_82 : decode b_M_block 82 = .ok (.iadd, 1) := by decide +kernel
theorem d_M_block_83 : decode b_M_block 83 = .ok (.sipush 600, 3) := by decide +kernel
theorem d_M_block_86 : decode b_M_block 86 = .ok (.if_icmp .le 7, 3) := by decide +kernel
theorem d_M_block_89 : decode b_M_block 89 = .ok (.iconst 2, 1) := by decide +kernel
theorem d_M_block_90 : decode b_M_block 90 = .ok (.goto 4, 3) := by decide +kernel
theorem d_M_block_93 : decode b_M_block 93 = .ok (.iconst 0, 1) := by decide +kernel
theorem d_M_block_94 : decode b_M_block 94 = .ok (.putfield 75, 3) := by decide +kernel
theorem d_M_block_97 : decode b_M_block 97 = .ok (.aload_n 0, 1) := by decide +kernel
theorem d_M_block_98 : decode b_M_block 98 = .ok (.getfield 75, 3) := by decide +kernel
theorem d_M_block_101 : decode b_M_block 101 = .ok (.ifCond .le 5, 3) := by decide +kernel
theorem d_M_block_104 : decode b_M_block 104 = .ok (.iconst 0, 1) := by decide +kernel
theorem d_M_block_105 : decode b_M_block 105 = .ok (.ireturn, 1) := by decide +kernel
theorem d_M_block_106 : decode b_M_block 106 = .ok (.aload_n 0, 1) := by decide +kernel
theorem d_M_block_107 : decode b_M_block 107 = .ok (.iload 4, 2) := by decide +kernel
theorem d_M_block_109 : decode b_M_block 109 = .ok (.invokevirtual 124, 3) := by decide +kernel
theorem d_M_block_112 : decode b_M_block 112 = .ok (.iconst 0, 1) := by decide +kernel
theorem d_M_block_113 : decode b_M_block 113 = .ok (.istore 6, 2) := by decide +kernel
theorem d_M_block_115 : decode b_M_block 115 = .ok (.iload 6, 2) := by decide +kernel
theorem d_M_block_117 : decode b_M_block 117 = .ok (.bipush 64, 2) := by decide +kernel
theorem d_M_block_119 : decode b_M_block 119 = .ok (.if_icmp .ge 89, 3) := by decide +kernel
theorem d_M_block_122 : decode b_M_block 122 = .ok (.aload_n 0, 1) := by decide +kernel
theorem d_M_block_123 : decode b_M_block 123 = .ok (.iload_n 1, 1) := by decide +kernel
theorem d_M_block_124 : decode b_M_block 124 = .ok (.iload_n 2, 1) := by decide +kernel
theorem d_M_block_125 : decode b_M_block 125 = .ok (.iconst 1, 1) := by decide +kernel
theorem d_M_block_126 : decode b_M_block 126 = .ok (.isub, 1) := by decide +kernel
theorem d_M_block_127 : decode b_M_block 127 = .ok (.iload 6, 2) := by decide +kernel
theorem d_M_block_129 : decode b_M_block 129 = .ok (.invokevirtual 101, 3) := by decide +kernel
theorem d_M_block_132 : decode b_M_block 132 = .ok (.istore 7, 2) := by decide +kernel
theorem d_M_block_134 : decode b_M_block 134 = .ok (.iload_n 3, 1) := by decide +kernel
theorem d_M_block_135 : decode b_M_block 135 = .ok (.ifCond .eq 21, 3) := by decide +kernel
theorem d_M_block_138 : decode b_M_block 138 = .ok (.aload_n 0, 1) := by decide +kernel
theorem d_M_block_139 : decode b_M_block 139 = .ok (.iload 4, 2) := by decide +kernel
theorem d_M_block_141 : decode b_M_block 141 = .ok (.iload 6, 2) := by decide +kernel
theorem d_M_block_143 : decode b_M_block 143 = .ok (.aload_n 0, 1) := by decide +kernel
theorem d_M_block_144 : decode b_M_block 144 = .ok (.getfield 42, 3) := by decide +kernel
theorem d_M_block_147 : decode b_M_block 147 = .ok (.iload 6, 2) := by decide +kernel
theorem d_M_block_149 : decode b_M_block 149 = .ok (.saload, 1) := by decide +kernel
theorem d_M_block_150 : decode b_M_block 150 = .ok (.invokevirtual 104, 3) := by decide +kernel
theorem d_M_block_153 : decode b_M_block 153 = .ok (.goto 49, 3) := by decide +kernel
theorem d_M_block_156 : decode b_M_block 156 = .ok (.aload_n 0, 1) := by decide +kernel
theorem d_M_block_157 : decode b_M_block 157 = .ok (.iload 4, 2) := by decide +kernel
theorem d_M_block_159 : decode b_M_block 159 = .ok (.iload 6, 2) := by decide +kernel
theorem d_M_block_161 : decode b_M_block 161 = .ok (.invokevirtual 90, 3) := by decide +kernel
theorem d_M_block_164 : decode b_M_block 164 = .ok (.iconst (-1), 1) := by decide +kernel
theorem d_M_block_165 : decode b_M_block 165 = .ok (.if_icmp .eq 37, 3) := by decide +kernel
theorem d_M_block_168 : decode b_M_block 168 = .ok (.aload_n 0, 1) := by decide +kernel
theorem d_M_block_169 : decode b_M_block 169 = .ok (.iload 4, 2) := by decide +kernel
theorem d_M_block_171 : decode b_M_block 171 = .ok (.iload 6, 2) := by decide +kernel
theorem d_M_block_173 : decode b_M_block 173 = .ok (.invokevirtual 90, 3) := by decide +kernel
theorem d_M_block_176 : decode b_M_block 176 = .ok (.iload 7, 2) := by decide +kernel
theorem d_M_block_178 : decode b_M_block 178 = .ok (.iconst (-1), 1) := by decide +kernel
theorem d_M_block_179 : decode b_M_block 179 = .ok (.if_icmp .ne 9, 3) := by decide +kernel
theorem d_M_block_182 : decode b_M_block 182 = .ok (.sipush 300, 3) := by decide +kernel
theorem d_M_block_185 : decode b_M_block 185 = .ok (.goto 5, 3) := by decide +kernel
theorem d_M_block_188 : decode b_M_block 188 = .ok (.iload 7, 2) := by decide +kernel
theorem d_M_block_190 : decode b_M_block 190 = .ok (.if_icmp .ne 12, 3) := by decide +kernel
theorem d_M_block_193 : decode b_M_block 193 = .ok (.aload_n 0, 1) := by decide +kernel
theorem d_M_block_194 : decode b_M_block 194 = .ok (.iload 4, 2) := by decide +kernel
theorem d_M_block_196 : decode b_M_block 196 = .ok (.iload 6, 2) := by decide +kernel
theorem d_M_block_198 : decode b_M_block 198 = .ok (.iconst (-1), 1) := by decide +kernel
theorem d_M_block_199 : decode b_M_block 199 = .ok (.invokevirtual 104, 3) := by decide +kernel
theorem d_M_block_202 : decode b_M_block 202 = .ok (.iinc 6 1, 3) := by decide +kernel
theorem d_M_block_205 : decode b_M_block 205 = .ok (.goto (-90), 3) := by decide +kernel
theorem d_M_block_208 : decode b_M_block 208 = .ok (.aload_n 0, 1) := by decide +kernel
theorem d_M_block_209 : decode b_M_block 209 = .ok (.iload 4, 2) := by decide +kernel
theorem d_M_block_211 : decode b_M_block 211 = .ok (.invokevirtual 97, 3) := by decide +kernel
theorem d_M_block_214 : decode b_M_block 214 = .ok (.ireturn, 1) := by decide +kernel
theorem d_M_times_0 : decode b_M_times 0 = .ok (.aload_n 0, 1) := by decide +kernel
theorem d_M_times_1 : decode b_M_times 1 = .ok (.iconst 0, 1) := by decide +kernel
theorem d_M_times_2 : decode b_M_times 2 = .ok (.putfield 75, 3) := by decide +kernel
theorem d_M_times_5 : decode b_M_times 5 = .ok (.aload_n 0, 1) := by decide +kernel
theorem d_M_times_6 : decode b_M_times 6 = .ok (.iload_n 1, 1) := by decide +kernel
theorem d_M_times_7 : decode b_M_times 7 = .ok (.iload_n 2, 1) := by decide +kernel
theorem d_M_times_8 : decode b_M_times 8 = .ok (.invokevirtual 108, 3) := by decide +kernel
theorem d_M_times_11 : decode b_M_times 11 = .ok (.istore 5, 2) := by decide +kernel
theorem d_M_times_13 : decode b_M_times 13 = .ok (.iload 5, 2) := by decide +kernel
theorem d_M_times_15 : decode b_M_times 15 = .ok (.ifCond .lt 18, 3) := by decide +kernel
theorem d_M_times_18 : decode b_M_times 18 = .ok (.iload_n 3, 1) := by decide +kernel
theorem d_M_times_19 : decode b_M_times 19 = .ok (.invokestatic 139, 3) := by decide +kernel
theorem d_M_times_22 : decode b_M_times 22 = .ok (.ifCond .eq 11, 3) := by decide +kernel
theorem d_M_times_25 : decode b_M_times 25 = .ok (.iload 4, 2) := by decide +kernel
theorem d_M_times_27 : decode b_M_times 27 = .ok (.invokestatic 139, 3) := by decide +kernel
theorem d_M_times_30 : decode b_M_times 30 = .ok (.ifCond .ne 5, 3) := by decide +kernel
theorem d_M_times_33 : decode b_M_times 33 = .ok (.iconst 0, 1) := by decide +kernel
theorem d_M_times_34 : decode b_M_times 34 = .ok (.ireturn, 1) := by decide +kernel
theorem d_M_times_35 : decode b_M_times 35 = .ok (.aload_n 0, 1) := by decide +kernel
theorem d_M_times_36 : decode b_M_times 36 = .ok (.getfield 27, 3) := by decide +kernel
theorem d_M_times_39 : decode b_M_times 39 = .ok (.iload 5, 2) := by decide +kernel
theorem d_M_times_41 : decode b_M_times 41 = .ok (.iload_n 3, 1) := by decide +kernel
theorem d_M_times_42 : decode b_M_times 42 = .ok (.iastore, 1) := by decide +kernel
theorem d_M_times_43 : decode b_M_times 43 = .ok (.aload_n 0, 1) := by decide +kernel
theorem d_M_times_44 : decode b_M_times 44 = .ok (.getfield 30, 3) := by decide +kernel
theorem d_M_times_47 : decode b_M_times 47 = .ok (.iload 5, 2) := by decide +kernel
theorem d_M_times_49 : decode b_M_times 49 = .ok (.iload 4, 2) := by decide +kernel
theorem d_M_times_51 : decode b_M_times 51 = .ok (.iastore, 1) := by decide +kernel
theorem d_M_times_52 : decode b_M_times 52 = .ok (.iconst 1, 1) := by decide +kernel
theorem d_M_times_53 : decode b_M_times 53 = .ok (.ireturn, 1) := by decide +kernel
theorem d_M_delays_0 : decode b_M_delays 0 = .ok (.aload_n 0, 1) := by decide +kernel
theorem d_M_delays_1 : decode b_M_delays 1 = .ok (.iconst 0, 1) := by decide +kernel
theorem d_M_delays_2 : decode b_M_delays 2 = .ok (.putfield 75, 3) := by decide +kernel
theorem d_M_delays_5 : decode b_M_delays 5 = .ok (.aload_n 0, 1) := by decide +kernel
theorem d_M_delays_6 : decode b_M_delays 6 = .ok (.iload_n 1, 1) := by decide +kernel
theorem d_M_delays_7 : decode b_M_delays 7 = .ok (.iload_n 2, 1) := by decide +kernel
theorem d_M_delays_8 : decode b_M_delays 8 = .ok (.invokevirtual 108, 3) := by decide +kernel
theorem d_M_delays_11 : decode b_M_delays 11 = .ok (.istore 5, 2) := by decide +kernel
theorem d_M_delays_13 : decode b_M_delays 13 = .ok (.iload 5, 2) := by decide +kernel
theorem d_M_delays_15 : decode b_M_delays 15 = .ok (.ifCond .lt 24, 3) := by decide +kernel
theorem d_M_delays_18 : decode b_M_delays 18 = .ok (.iload_n 3, 1) := by decide +kernel
theorem d_M_delays_19 : decode b_M_delays 19 = .ok (.invokestatic 139, 3) := by decide +kernel
theorem d_M_delays_22 : decode b_M_delays 22 = .ok (.ifCond .eq 17, 3) := by decide +kernel
theorem d_M_delays_25 : decode b_M_delays 25 = .ok (.iload 4, 2) := by decide +kernel
theorem d_M_delays_27 : decode b_M_delays 27 = .ok (.iconst (-1), 1) := by decide +kernel
theorem d_M_delays_28 : decode b_M_delays 28 = .ok (.if_icmp .eq 13, 3) := by decide +kernel
theorem d_M_delays_31 : decode b_M_delays 31 = .ok (.iload 4, 2) := by decide +kernel
theorem d_M_delays_33 : decode b_M_delays 33 = .ok (.invokestatic 139, 3) := by decide +kernel
theorem d_M_delays_36 : decode b_M_delays 36 = .ok (.ifCond .ne 5, 3) := by decide +kernel
theorem d_M_delays_39 : decode b_M_delays 39 = .ok (.iconst 0, 1) := by decide +kernel
theorem d_M_delays_40 : decode b_M_delays 40 = .ok (.ireturn, 1) := by decide +kernel
theorem d_M_delays_41 : decode b_M_delays 41 = .ok (.aload_n 0, 1) := by decide +kernel
theorem d_M_delays_42 : decode b_M_delays 42 = .ok (.getfield 33, 3) := by decide +kernel
theorem d_M_delays_45 : decode b_M_delays 45 = .ok (.iload 5, 2) := by decide +kernel
theorem d_M_delays_47 : decode b_M_delays 47 = .ok (.iload_n 3, 1) := by decide +kernel
theorem d_M_delays_48 : decode b_M_delays 48 = .ok (.iastore, 1) := by decide +kernel
theorem d_M_delays_49 : decode b_M_delays 49 = .ok (.aload_n 0, 1) := by decide +kernel
theorem d_M_delays_50 : decode b_M_delays 50 = .ok (.getfield 36, 3) := by decide +kernel
theorem d_M_delays_53 : decode b_M_delays 53 = .ok (.iload 5, 2) := by decide +kernel
theorem d_M_delays_55 : decode b_M_delays 55 = .ok (.iload 4, 2) := by decide +kernel
theorem d_M_delays_57 : decode b_M_delays 57 = .ok (.iastore, 1) := by decide +kernel
theorem d_M_delays_58 : decode b_M_delays 58 = .ok (.iconst 1, 1) := by decide +kernel
theorem d_M_delays_59 : decode b_M_delays 59 = .ok (.ireturn, 1) := by decide +kernel
theorem d_M_lookOf_0 : decode b_M_lookOf 0 = .ok (.aload_n 0, 1) := by decide +kernel
theorem d_M_lookOf_1 : decode b_M_lookOf 1 = .ok (.iload_n 1, 1) := by decide +kernel
theorem d_M_lookOf_2 : decode b_M_lookOf 2 = .ok (.iload_n 2, 1) := by decide +kernel
theorem d_M_lookOf_3 : decode b_M_lookOf 3 = .ok (.iload_n 3, 1) := by decide +kernel
theorem d_M_lookOf_4 : decode b_M_lookOf 4 = .ok (.invokevirtual 101, 3) := by decide +kernel
theorem d_M_lookOf_7 : decode b_M_lookOf 7 = .ok (.istore 4, 2) := by decide +kernel
theorem d_M_lookOf_9 : decode b_M_lookOf 9 = .ok (.iload 4, 2) := by decide +kernel
theorem d_M_lookOf_11 : decode b_M_lookOf 11 = .ok (.ifCond .ge 7, 3) := by decide +kernel
theorem d_M_lookOf_14 : decode b_M_lookOf 14 = .ok (.iconst (-1), 1) := by decide +kernel
theorem d_M_lookOf_15 : decode b_M_lookOf 15 = .ok (.goto 10, 3) := by decide +kernel
theorem d_M_lookOf_18 : decode b_M_lookOf 18 = .ok (.aload_n 0, 1) := by decide +kernel
theorem d_M_lookOf_19 : decode b_M_lookOf 19 = .ok (.iload 4, 2) := by decide +kernel
theorem d_M_lookOf_21 : decode b_M_lookOf 21 = .ok (.iload_n 3, 1) := by decide +kernel
theorem d_M_lookOf_22 : decode b_M_lookOf 22 = .ok (.invokevirtual 142, 3) := by decide +kernel
theorem d_M_lookOf_25 : decode b_M_lookOf 25 = .ok (.ireturn, 1) := by decide +kernel
theorem d_M_look_0 : decode b_M_look 0 = .ok (.aload_n 0, 1) := by decide +kernel
theorem d_M_look_1 : decode b_M_look 1 = .ok (.iload_n 1, 1) := by decide +kernel
theorem d_M_look_2 : decode b_M_look 2 = .ok (.iload_n 2, 1) := by decide +kernel
theorem d_M_look_3 : decode b_M_look 3 = .ok (.invokevirtual 135, 3) := by decide +kernel
theorem d_M_look_6 : decode b_M_look 6 = .ok (.ifCond .ne 5, 3) := by decide +kernel
theorem d_M_look_9 : decode b_M_look 9 = .ok (.iconst 0, 1) := by decide +kernel
theorem d_M_look_10 : decode b_M_look 10 = .ok (.ireturn, 1) := by decide +kernel
theorem d_M_look_11 : decode b_M_look 11 = .ok (.aload_n 0, 1) := by decide +kernel
theorem d_M_look_12 : decode b_M_look 12 = .ok (.iload_n 3, 1) := by decide +kernel
theorem d_M_look_13 : decode b_M_look 13 = .ok (.invokestatic 79, 3) := by decide +kernel
theorem d_M_look_16 : decode b_M_look 16 = .ok (.ifCond .eq 7, 3) := by decide +kernel
theorem d_M_look_19 : decode b_M_look 19 = .ok (.iconst 0, 1) := by decide +kernel
theorem d_M_look_20 : decode b_M_look 20 = .ok (.goto 4, 3) := by decide +kernel
theorem d_M_look_23 : decode b_M_look 23 = .ok (.iconst 2, 1) := by decide +kernel
theorem d_M_look_24 : decode b_M_look 24 = .ok (.putfield 75, 3) := by decide +kernel
theorem d_M_look_27 : decode b_M_look 27 = .ok (.aload_n 0, 1) := by decide +kernel
theorem d_M_look_28 : decode b_M_look 28 = .ok (.getfield 75, 3) := by decide +kernel
theorem d_M_look_31 : decode b_M_look 31 = .ok (.ifCond .le 7, 3) := by decide +kernel
theorem d_M_look_34 : decode b_M_look 34 = .ok (.iconst 0, 1) := by decide +kernel
theorem d_M_look_35 : decode b_M_look 35 = .ok (.goto 10, 3) := by decide +kernel
theorem d_M_look_38 : decode b_M_look 38 = .ok (.aload_n 0, 1) := by decide +kernel
theorem d_M_look_39 : decode b_M_look 39 = .ok (.iload_n 1, 1) := by decide +kernel
theorem d_M_look_40 : decode b_M_look 40 = .ok (.iload_n 2, 1) := by decide +kernel
theorem d_M_look_41 : decode b_M_look 41 = .ok (.iload_n 3, 1) := by decide +kernel
theorem d_M_look_42 : decode b_M_look 42 = .ok (.invokevirtual 145, 3) := by decide +kernel
theorem d_M_look_45 : decode b_M_look 45 = .ok (.ireturn, 1) := by decide +kernel
theorem d_M_source_0 : decode b_M_source 0 = .ok (.aload_n 0, 1) := by decide +kernel
theorem d_M_source_1 : decode b_M_source 1 = .ok (.iload_n 1, 1) := by decide +kernel
theorem d_M_source_2 : decode b_M_source 2 = .ok (.iload_n 2, 1) := by decide +kernel
theorem d_M_source_3 : decode b_M_source 3 = .ok (.invokevirtual 135, 3) := by decide +kernel
theorem d_M_source_6 : decode b_M_source 6 = .ok (.ifCond .ne 5, 3) := by decide +kernel
theorem d_M_source_9 : decode b_M_source 9 = .ok (.iconst 0, 1) := by decide +kernel
theorem d_M_source_10 : decode b_M_source 10 = .ok (.ireturn, 1) := by decide +kernel
theorem d_M_source_11 : decode b_M_source 11 = .ok (.aload_n 0, 1) := by decide +kernel
theorem d_M_source_12 : decode b_M_source 12 = .ok (.iload_n 3, 1) := by decide +kernel
theorem d_M_source_13 : decode b_M_source 13 = .ok (.invokestatic 79, 3) := by decide +kernel
theorem d_M_source_16 : decode b_M_source 16 = .ok (.ifCond .eq 7, 3) := by decide +kernel
theorem d_M_source_19 : decode b_M_source 19 = .ok (.iconst 0, 1) := by decide +kernel
theorem d_M_source_20 : decode b_M_source 20 = .ok (.goto 4, 3) := by decide +kernel
theorem d_M_source_23 : decode b_M_source 23 = .ok (.iconst 2, 1) := by decide +kernel
theorem d_M_source_24 : decode b_M_source 24 = .ok (.putfield 75, 3) := by decide +kernel
theorem d_M_source_27 : decode b_M_source 27 = .ok (.aload_n 0, 1) := by decide +kernel
theorem d_M_source_28 : decode b_M_source 28 = .ok (.getfield 75, 3) := by decide +kernel
theorem d_M_source_31 : decode b_M_source 31 = .ok (.ifCond .le 5, 3) := by decide +kernel
theorem d_M_source_34 : decode b_M_source 34 = .ok (.iconst 0, 1) := by decide +kernel
theorem d_M_source_35 : decode b_M_source 35 = .ok (.ireturn, 1) := by decide +kernel
theorem d_M_source_36 : decode b_M_source 36 = .ok (.aload_n 0, 1) := by decide +kernel
theorem d_M_source_37 : decode b_M_source 37 = .ok (.iload_n 1, 1) := by decide +kernel
theorem d_M_source_38 : decode b_M_source 38 = .ok (.iload_n 2, 1) := by decide +kernel
theorem d_M_source_39 : decode b_M_source 39 = .ok (.iload_n 3, 1) := by decide +kernel
theorem d_M_source_40 : decode b_M_source 40 = .ok (.invokevirtual 93, 3) := by decide +kernel
theorem d_M_source_43 : decode b_M_source 43 = .ok (.istore 4, 2) := by decide +kernel
theorem d_M_source_45 : decode b_M_source 45 = .ok (.iload 4, 2) := by decide +kernel
theorem d_M_source_47 : decode b_M_source 47 = .ok (.ifCond .ge 7, 3) := by decide +kernel
theorem d_M_source_50 : decode b_M_source 50 = .ok (.iconst (-1), 1) := by decide +kernel
theorem d_M_source_51 : decode b_M_source 51 = .ok (.goto 10, 3) := by decide +kernel
theorem d_M_source_54 : decode b_M_source 54 = .ok (.aload_n 0, 1) := by decide +kernel
theorem d_M_source_55 : decode b_M_source 55 = .ok (.getfield 24, 3) := by decide +kernel
theorem d_M_source_58 : decode b_M_source 58 = .ok (.iload 4, 2) := by decide +kernel
theorem d_M_source_60 : decode b_M_source 60 = .ok (.iaload, 1) := by decide +kernel
theorem d_M_source_61 : decode b_M_source 61 = .ok (.ireturn, 1) := by decide +kernel
theorem d_M_cue_0 : decode b_M_cue 0 = .ok (.iconst 0, 1) := by decide +kernel
theorem d_M_cue_1 : decode b_M_cue 1 = .ok (.istore 4, 2) := by decide +kernel
theorem d_M_cue_3 : decode b_M_cue 3 = .ok (.iconst 0, 1) := by decide +kernel
theorem d_M_cue_4 : decode b_M_cue 4 = .ok (.istore 5, 2) := by decide +kernel
theorem d_M_cue_6 : decode b_M_cue 6 = .ok (.iload 5, 2) := by decide +kernel
theorem d_M_cue_8 : decode b_M_cue 8 = .ok (.bipush 40, 2) := by decide +kernel
theorem d_M_cue_10 : decode b_M_cue 10 = .ok (.if_icmp .ge 34, 3) := by decide +kernel
theorem d_M_cue_13 : decode b_M_cue 13 = .ok (.iload 4, 2) := by decide +kernel
theorem d_M_cue_15 : decode b_M_cue 15 = .ok (.iload_n 1, 1) := by decide +kernel
theorem d_M_cue_16 : decode b_M_cue 16 = .ok (.ifCond .lt 18, 3) := by decide +kernel
theorem d_M_cue_19 : decode b_M_cue 19 = .ok (.aload_n 0, 1) := by decide +kernel
theorem d_M_cue_20 : decode b_M_cue 20 = .ok (.getfield 20, 3) := by decide +kernel
theorem d_M_cue_23 : decode b_M_cue 23 = .ok (.iload 5, 2) := by decide +kernel
theorem d_M_cue_25 : decode b_M_cue 25 = .ok (.iaload, 1) := by decide +kernel
theorem d_M_cue_26 : decode b_M_cue 26 = .ok (.iload_n 1, 1) := by decide +kernel
theorem d_M_cue_27 : decode b_M_cue 27 = .ok (.if_icmp .ne 7, 3) := by decide +kernel
theorem d_M_cue_30 : decode b_M_cue 30 = .ok (.iconst 1, 1) := by decide +kernel
theorem d_M_cue_31 : decode b_M_cue 31 = .ok (.goto 4, 3) := by decide +kernel
theorem d_M_cue_34 : decode b_M_cue 34 = .ok (.iconst 0, 1) := by decide +kernel
theorem d_M_cue_35 : decode b_M_cue 35 = .ok (.iadd, 1) := by decide +kernel
theorem d_M_cue_36 : decode b_M_cue 36 = .ok (.istore 4, 2) := by decide +kernel
theorem d_M_cue_38 : decode b_M_cue 38 = .ok (.iinc 5 1, 3) := by decide +kernel
theorem d_M_cue_41 : decode b_M_cue 41 = .ok (.goto (-35), 3) := by decide +kernel
theorem d_M_cue_44 : decode b_M_cue 44 = .ok (.iload_n 1, 1) := by decide +kernel
theorem d_M_cue_45 : decode b_M_cue 45 = .ok (.ifCond .lt 41, 3) := by decide +kernel
theorem d_M_cue_48 : decode b_M_cue 48 = .ok (.iload_n 1, 1) := by decide +kernel
theorem d_M_cue_49 : decode b_M_cue 49 = .ok (.iconst 4, 1) := by decide +kernel
theorem d_M_cue_50 : decode b_M_cue 50 = .ok (.if_icmp .ge 36, 3) := by decide +kernel
theorem d_M_cue_53 : decode b_M_cue 53 = .ok (.iload_n 2, 1) := by decide +kernel
theorem d_M_cue_54 : decode b_M_cue 54 = .ok (.iconst (-1), 1) := by decide +kernel
theorem d_M_cue_55 : decode b_M_cue 55 = .ok (.if_icmp .lt 31, 3) := by decide +kernel
theorem d_M_cue_58 : decode b_M_cue 58 = .ok (.iload_n 2, 1) := by decide +kernel
theorem d_M_cue_59 : decode b_M_cue 59 = .ok (.iload 4, 2) := by decide +kernel
theorem d_M_cue_61 : decode b_M_cue 61 = .ok (.if_icmp .ge 25, 3) := by decide +kernel
theorem d_M_cue_64 : decode b_M_cue 64 = .ok (.iload_n 3, 1) := by decide +kernel
theorem d_M_cue_65 : decode b_M_cue 65 = .ok (.ifCond .lt 21, 3) := by decide +kernel
theorem d_M_cue_68 : decode b_M_cue 68 = .ok (.iload_n 3, 1) := by decide +kernel
theorem d_M_cue_69 : decode b_M_cue 69 = .ok (.bipush 6, 2) := by decide +kernel
theorem d_M_cue_71 : decode b_M_cue 71 = .ok (.if_icmp .ge 15, 3) := by decide +kernel
theorem d_M_cue_74 : decode b_M_cue 74 = .ok (.iload_n 2, 1) := by decide +kernel
theorem d_M_cue_75 : decode b_M_cue 75 = .ok (.ifCond .ge 7, 3) := by decide +kernel
theorem d_M_cue_78 : decode b_M_cue 78 = .ok (.iload_n 3, 1) := by decide +kernel
theorem d_M_cue_79 : decode b_M_cue 79 = .ok (.ifCond .ne 7, 3) := by decide +kernel
theorem d_M_cue_82 : decode b_M_cue 82 = .ok (.iconst 1, 1) := by decide +kernel
theorem d_M_cue_83 : decode b_M_cue 83 = .ok (.goto 4, 3) := by decide +kernel
theorem d_M_cue_86 : decode b_M_cue 86 = .ok (.iconst 0, 1) := by decide +kernel
theorem d_M_cue_87 : decode b_M_cue 87 = .ok (.istore 5, 2) := by decide +kernel
theorem d_M_cue_89 : decode b_M_cue 89 = .ok (.aload_n 0, 1) := by decide +kernel
theorem d_M_cue_90 : decode b_M_cue 90 = .ok (.iload 5, 2) := by decide +kernel
theorem d_M_cue_92 : decode b_M_cue 92 = .ok (.ifCond .eq 7, 3) := by decide +kernel
theorem d_M_cue_95 : decode b_M_cue 95 = .ok (.iconst 0, 1) := by decide +kernel
theorem d_M_cue_96 : decode b_M_cue 96 = .ok (.goto 4, 3) := by decide +kernel
theorem d_M_cue_99 : decode b_M_cue 99 = .ok (.iconst 1, 1) := by decide +kernel
theorem d_M_cue_100 : decode b_M_cue 100 = .ok (.putfield 75, 3) := by decide +kernel
theorem d_M_cue_103 : decode b_M_cue 103 = .ok (.iload 5, 2) := by decide +kernel
theorem d_M_cue_105 : decode b_M_cue 105 = .ok (.ifCond .ne 5, 3) := by decide +kernel
theorem d_M_cue_108 : decode b_M_cue 108 = .ok (.iconst 0, 1) := by decide +kernel
theorem d_M_cue_109 : decode b_M_cue 109 = .ok (.ireturn, 1) := by decide +kernel
theorem d_M_cue_110 : decode b_M_cue 110 = .ok (.iload_n 2, 1) := by decide +kernel
theorem d_M_cue_111 : decode b_M_cue 111 = .ok (.iconst (-1), 1) := by decide +kernel
theorem d_M_cue_112 : decode b_M_cue 112 = .ok (.if_icmp .ne 6, 3) := by decide +kernel
theorem d_M_cue_115 : decode b_M_cue 115 = .ok (.iload 4, 2) := by decide +kernel
theorem d_M_cue_117 : decode b_M_cue 117 = .ok (.ireturn, 1) := by decide +kernel
theorem d_M_cue_118 : decode b_M_cue 118 = .ok (.aload_n 0, 1) := by decide +kernel
theorem d_M_cue_119 : decode b_M_cue 119 = .ok (.iload_n 1, 1) := by decide +kernel
theorem d_M_cue_120 : decode b_M_cue 120 = .ok (.iconst 0, 1) := by decide +kernel
theorem d_M_cue_121 : decode b_M_cue 121 = .ok (.invokevirtual 111, 3) := by decide +kernel
theorem d_M_cue_124 : decode b_M_cue 124 = .ok (.istore 6, 2) := by decide +kernel
theorem d_M_cue_126 : decode b_M_cue 126 = .ok (.iconst 0, 1) := by decide +kernel
theorem d_M_cue_127 : decode b_M_cue 127 = .ok (.istore 7, 2) := by decide +kernel
theorem d_M_cue_129 : decode b_M_cue 129 = .ok (.iload 7, 2) := by decide +kernel
theorem d_M_cue_131 : decode b_M_cue 131 = .ok (.iload_n 2, 1) := by decide +kernel
theorem d_M_cue_132 : decode b_M_cue 132 = .ok (.if_icmp .ge 23, 3) := by decide +kernel
theorem d_M_cue_135 : decode b_M_cue 135 = .ok (.aload_n 0, 1) := by decide +kernel
theorem d_M_cue_136 : decode b_M_cue 136 = .ok (.iload_n 1, 1) := by decide +kernel
theorem d_M_cue_137 : decode b_M_cue 137 = .ok (.aload_n 0, 1) := by decide +kernel
theorem d_M_cue_138 : decode b_M_cue 138 = .ok (.getfield 24, 3) := by decide +kernel
theorem d_M_cue_141 : decode b_M_cue 141 = .ok (.iload 6, 2) := by decide +kernel
theorem d_M_cue_143 : decode b_M_cue 143 = .ok (.iaload, 1) := by decide +kernel
theorem d_M_cue_144 : decode b_M_cue 144 = .ok (.invokevirtual 111, 3) := by decide +kernel
theorem d_M_cue_147 : decode b_M_cue 147 = .ok (.istore 6, 2) := by decide +kernel
theorem d_M_cue_149 : decode b_M_cue 149 = .ok (.iinc 7 1, 3) := by decide +kernel
theorem d_M_cue_152 : decode b_M_cue 152 = .ok (.goto (-23), 3) := by decide +kernel
theorem d_M_cue_155 : decode b_M_cue 155 = .ok (.iload_n 3, 1) := by decide +kernel
theorem d_M_cue_156 : decode b_M_cue 156 = .ok (.ifCond .ne 13, 3) := by decide +kernel
theorem d_M_cue_159 : decode b_M_cue 159 = .ok (.aload_n 0, 1) := by decide +kernel
theorem d_M_cue_160 : decode b_M_cue 160 = .ok (.getfield 24, 3) := by decide +kernel
theorem d_M_cue_163 : decode b_M_cue 163 = .ok (.iload 6, 2) := by decide +kernel
theorem d_M_cue_165 : decode b_M_cue 165 = .ok (.iaload, 1) := by decide +kernel
theorem d_M_cue_166 : decode b_M_cue 166 = .ok (.goto 69, 3) := by decide +kernel
theorem d_M_cue_169 : decode b_M_cue 169 = .ok (.iload_n 3, 1) := by decide +kernel
theorem d_M_cue_170 : decode b_M_cue 170 = .ok (.iconst 1, 1) := by decide +kernel
theorem d_M_cue_171 : decode b_M_cue 171 = .ok (.if_icmp .ne 12, 3) := by decide +kernel
theorem d_M_cue_174 : decode b_M_cue 174 = .ok (.aload_n 0, 1) := by decide +kernel
theorem d_M_cue_175 : decode b_M_cue 175 = .ok (.iload 6, 2) := by decide +kernel
theorem d_M_cue_177 : decode b_M_cue 177 = .ok (.invokevirtual 97, 3) := by decide +kernel
theorem d_M_cue_180 : decode b_M_cue 180 = .ok (.goto 55, 3) := by decide +kernel
theorem d_M_cue_183 : decode b_M_cue 183 = .ok (.iload_n 3, 1) := by decide +kernel
theorem d_M_cue_184 : decode b_M_cue 184 = .ok (.iconst 2, 1) := by decide +kernel
theorem d_M_cue_185 : decode b_M_cue 185 = .ok (.if_icmp .ne 13, 3) := by decide +kernel
theorem d_M_cue_188 : decode b_M_cue 188 = .ok (.aload_n 0, 1) := by decide +kernel
theorem d_M_cue_189 : decode b_M_cue 189 = .ok (.getfield 27, 3) := by decide +kernel
theorem d_M_cue_192 : decode b_M_cue 192 = .ok (.iload 6, 2) := by decide +kernel
theorem d_M_cue_194 : decode b_M_cue 194 = .ok (.iaload, 1) := by decide +kernel
theorem d_M_cue_195 : decode b_M_cue 195 = .ok (.goto 40, 3) := by decide +kernel
theorem d_M_cue_198 : decode b_M_cue 198 = .ok (.iload_n 3, 1) := by decide +kernel
theorem d_M_cue_199 : decode b_M_cue 199 = .ok (.iconst 3, 1) := by decide +kernel
theorem d_M_cue_200 : decode b_M_cue 200 = .ok (.if_icmp .ne 13, 3) := by decide +kernel
theorem d_M_cue_203 : decode b_M_cue 203 = .ok (.aload_n 0, 1) := by decide +kernel
theorem d_M_cue_204 : decode b_M_cue 204 = .ok (.getfield 30, 3) := by decide +kernel
theorem d_M_cue_207 : decode b_M_cue 207 = .ok (.iload 6, 2) := by decide +kernel
theorem d_M_cue_209 : decode b_M_cue 209 = .ok (.iaload, 1) := by decide +kernel
theorem d_M_cue_210 : decode b_M_cue 210 = .ok (.goto 25, 3) := by decide +kernel
theorem d_M_cue_213 : decode b_M_cue 213 = .ok (.iload_n 3, 1) := by decide +kernel
theorem d_M_cue_214 : decode b_M_cue 214 = .ok (.iconst 4, 1) := by decide +kernel
theorem d_M_cue_215 : decode b_M_cue 215 = .ok (.if_icmp .ne 13, 3) := by decide +kernel
theorem d_M_cue_218 : decode b_M_cue 218 = .ok (.aload_n 0, 1) := by decide +kernel
theorem d_M_cue_219 : decode b_M_cue 219 = .ok (.getfield 33, 3) := by decide +kernel
theorem d_M_cue_222 : decode b_M_cue 222 = .ok (.iload 6, 2) := by decide +kernel
theorem d_M_cue_224 : decode b_M_cue 224 = .ok (.iaload, 1) := by decide +kernel
theorem d_M_cue_225 : decode b_M_cue 225 = .ok (.goto 10, 3) := by decide +kernel
theorem d_M_cue_228 : decode b_M_cue 228 = .ok (.aload_n 0, 1) := by decide +kernel
theorem d_M_cue_229 : decode b_M_cue 229 = .ok (.getfield 36, 3) := by decide +kernel
theorem d_M_cue_232 : decode b_M_cue 232 = .ok (.iload 6, 2) := by decide +kernel
theorem d_M_cue_234 : decode b_M_cue 234 = .ok (.iaload, 1) := by decide +kernel
theorem d_M_cue_235 : decode b_M_cue 235 = .ok (.ireturn, 1) := by decide +kernel
theorem d_M_assign_0 : decode b_M_assign 0 = .ok (.aload_n 0, 1) := by decide +kernel
theorem d_M_assign_1 : decode b_M_assign 1 = .ok (.iconst 0, 1) := by decide +kernel
theorem d_M_assign_2 : decode b_M_assign 2 = .ok (.putfield 75, 3) := by decide +kernel
theorem d_M_assign_5 : decode b_M_assign 5 = .ok (.iload_n 1, 1) := by decide +kernel
theorem d_M_assign_6 : decode b_M_assign 6 = .ok (.invokestatic 148, 3) := by decide +kernel
theorem d_M_assign_9 : decode b_M_assign 9 = .ok (.ifCond .eq 22, 3) := by decide +kernel
theorem d_M_assign_12 : decode b_M_assign 12 = .ok (.iload_n 2, 1) := by decide +kernel
theorem d_M_assign_13 : decode b_M_assign 13 = .ok (.ifCond .lt 18, 3) := by decide +kernel
theorem d_M_assign_16 : decode b_M_assign 16 = .ok (.iload_n 2, 1) := by decide +kernel
theorem d_M_assign_17 : decode b_M_assign 17 = .ok (.iconst 3, 1) := by decide +kernel
theorem d_M_assign_18 : decode b_M_assign 18 = .ok (.if_icmp .gt 13, 3) := by decide +kernel
theorem d_M_assign_21 : decode b_M_assign 21 = .ok (.aload_n 0, 1) := by decide +kernel
theorem d_M_assign_22 : decode b_M_assign 22 = .ok (.getfield 54, 3) := by decide +kernel
theorem d_M_assign_25 : decode b_M_assign 25 = .ok (.iload_n 1, 1) := by decide +kernel
theorem d_M_assign_26 : decode b_M_assign 26 = .ok (.iaload, 1) := by decide +kernel
theorem d_M_assign_27 : decode b_M_assign 27 = .ok (.iconst (-1), 1) := by decide +kernel
theorem d_M_assign_28 : decode b_M_assign 28 = .ok (.if_icmp .eq 5, 3) := by decide +kernel
theorem d_M_assign_31 : decode b_M_assign 31 = .ok (.iconst 0, 1) := by decide +kernel
theorem d_M_assign_32 : decode b_M_assign 32 = .ok (.ireturn, 1) := by decide +kernel
theorem d_M_assign_33 : decode b_M_assign 33 = .ok (.aload_n 0, 1) := by decide +kernel
theorem d_M_assign_34 : decode b_M_assign 34 = .ok (.getfield 45, 3) := by decide +kernel
theorem d_M_assign_37 : decode b_M_assign 37 = .ok (.iload_n 1, 1) := by decide +kernel
theorem d_M_assign_38 : decode b_M_assign 38 = .ok (.iload_n 2, 1) := by decide +kernel
theorem d_M_assign_39 : decode b_M_assign 39 = .ok (.iastore, 1) := by decide +kernel
theorem d_M_assign_40 : decode b_M_assign 40 = .ok (.iconst 1, 1) := by decide +kernel
theorem d_M_assign_41 : decode b_M_assign 41 = .ok (.ireturn, 1) := by decide +kernel
theorem d_M_levelAt_0 : decode b_M_levelAt 0 = .ok (.bipush 64, 2) := by decide +kernel
theorem d_M_levelAt_2 : decode b_M_levelAt 2 = .ok (.iload_n 1, 1) := by decide +kernel
theorem d_M_levelAt_3 : decode b_M_levelAt 3 = .ok (.imul, 1) := by decide +kernel
theorem d_M_levelAt_4 : decode b_M_levelAt 4 = .ok (.iload_n 2, 1) := by decide +kernel
theorem d_M_levelAt_5 : decode b_M_levelAt 5 = .ok (.iadd, 1) := by decide +kernel
theorem d_M_levelAt_6 : decode b_M_levelAt 6 = .ok (.istore 4, 2) := by decide +kernel
theorem d_M_levelAt_8 : decode b_M_levelAt 8 = .ok (.iload_n 3, 1) := by decide +kernel
theorem d_M_levelAt_9 : decode b_M_levelAt 9 = .ok (.aload_n 0, 1) := by decide +kernel
theorem d_M_levelAt_10 : decode b_M_levelAt 10 = .ok (.getfield 66, 3) := by decide +kernel
theorem d_M_levelAt_13 : decode b_M_levelAt 13 = .ok (.iload 4, 2) := by decide +kernel
theorem d_M_levelAt_15 : decode b_M_levelAt 15 = .ok (.iaload, 1) := by decide +kernel
theorem d_M_levelAt_16 : decode b_M_levelAt 16 = .ok (.if_icmp .ge 11, 3) := by decide +kernel
theorem d_M_levelAt_19 : decode b_M_levelAt 19 = .ok (.aload_n 0, 1) := by decide +kernel
theorem d_M_levelAt_20 : decode b_M_levelAt 20 = .ok (.getfield 60, 3) := by decide +kernel
theorem d_M_levelAt_23 : decode b_M_levelAt 23 = .ok (.iload 4, 2) := by decide +kernel
theorem d_M_levelAt_25 : decode b_M_levelAt 25 = .ok (.saload, 1) := by decide +kernel
theorem d_M_levelAt_26 : decode b_M_levelAt 26 = .ok (.ireturn, 1) := by decide +kernel
theorem d_M_levelAt_27 : decode b_M_levelAt 27 = .ok (.iload_n 3, 1) := by decide +kernel
theorem d_M_levelAt_28 : decode b_M_levelAt 28 = .ok (.aload_n 0, 1) := by decide +kernel
theorem d_M_levelAt_29 : decode b_M_levelAt 29 = .ok (.getfield 66, 3) := by decide +kernel
theorem d_M_levelAt_32 : decode b_M_levelAt 32 = .ok (.iload 4, 2) := by decide +kernel
theorem d_M_levelAt_34 : decode b_M_levelAt 34 = .ok (.iaload, 1) := by decide +kernel
theorem d_M_levelAt_35 : decode b_M_levelAt 35 = .ok (.isub, 1) := by decide +kernel
theorem d_M_levelAt_36 : decode b_M_levelAt 36 = .ok (.aload_n 0, 1) := by decide +kernel
theorem d_M_levelAt_37 : decode b_M_levelAt 37 = .ok (.getfield 69, 3) := by decide +kernel
theorem d_M_levelAt_40 : decode b_M_levelAt 40 = .ok (.iload 4, 2) := by decide +kernel
theorem d_M_levelAt_42 : decode b_M_levelAt 42 = .ok (.iaload, 1) := by decide +kernel
theorem d_M_levelAt_43 : decode b_M_levelAt 43 = .ok (.if_icmp .lt 11, 3) := by decide +kernel
theorem d_M_levelAt_46 : decode b_M_levelAt 46 = .ok (.aload_n 0, 1) := by decide +kernel
theorem d_M_levelAt_47 : decode b_M_levelAt 47 = .ok (.getfield 63, 3) := by decide +kernel
theorem d_M_levelAt_50 : decode b_M_levelAt 50 = .ok (.iload 4, 2) := by decide +kernel
theorem d_M_levelAt_52 : decode b_M_levelAt 52 = .ok (.saload, 1) := by decide +kernel
theorem d_M_levelAt_53 : decode b_M_levelAt 53 = .ok (.ireturn, 1) := by decide +kernel
theorem d_M_levelAt_54 : decode b_M_levelAt 54 = .ok (.aload_n 0, 1) := by decide +kernel
theorem d_M_levelAt_55 : decode b_M_levelAt 55 = .ok (.getfield 60, 3) := by decide +kernel
theorem d_M_levelAt_58 : decode b_M_levelAt 58 = .ok (.iload 4, 2) := by decide +kernel
theorem d_M_levelAt_60 : decode b_M_levelAt 60 = .ok (.saload, 1) := by decide +kernel
theorem d_M_levelAt_61 : decode b_M_levelAt 61 = .ok (.aload_n 0, 1) := by decide +kernel
theorem d_M_levelAt_62 : decode b_M_levelAt 62 = .ok (.getfield 63, 3) := by decide +kernel
theorem d_M_levelAt_65 : decode b_M_levelAt 65 = .ok (.iload 4, 2) := by decide +kernel
theorem d_M_levelAt_67 : decode b_M_levelAt 67 = .ok (.saload, 1) := by decide +kernel
theorem d_M_levelAt_68 : decode b_M_levelAt 68 = .ok (.aload_n 0, 1) := by decide +kernel
theorem d_M_levelAt_69 : decode b_M_levelAt 69 = .ok (.getfield 60, 3) := by decide +kernel
theorem d_M_levelAt_72 : decode b_M_levelAt 72 = .ok (.iload 4, 2) := by decide +kernel
theorem d_M_levelAt_74 : decode b_M_levelAt 74 = .ok (.saload, 1) := by decide +kernel
theorem d_M_levelAt_75 : decode b_M_levelAt 75 = .ok (.isub, 1) := by decide +kernel
theorem d_M_levelAt_76 : decode b_M_levelAt 76 = .ok (.iload_n 3, 1) := by decide +kernel
theorem d_M_levelAt_77 : decode b_M_levelAt 77 = .ok (.aload_n 0, 1) := by decide +kernel
theorem d_M_levelAt_78 : decode b_M_levelAt 78 = .ok (.getfield 66, 3) := by decide +kernel
theorem d_M_levelAt_81 : decode b_M_levelAt 81 = .ok (.iload 4, 2) := by decide +kernel
theorem d_M_levelAt_83 : decode b_M_levelAt 83 = .ok (.iaload, 1) := by decide +kernel
theorem d_M_levelAt_84 : decode b_M_levelAt 84 = .ok (.isub, 1) := by decide +kernel
theorem d_M_levelAt_85 : decode b_M_levelAt 85 = .ok (.imul, 1) := by decide +kernel
theorem d_M_levelAt_86 : decode b_M_levelAt 86 = .ok (.aload_n 0, 1) := by decide +kernel
theorem d_M_levelAt_87 : decode b_M_levelAt 87 = .ok (.getfield 69, 3) := by decide +kernel
theorem d_M_levelAt_90 : decode b_M_levelAt 90 = .ok (.iload 4, 2) := by decide +kernel
theorem d_M_levelAt_92 : decode b_M_levelAt 92 = .ok (.iaload, 1) := by decide +kernel
theorem d_M_levelAt_93 : decode b_M_levelAt 93 = .ok (.idiv, 1) := by decide +kernel
theorem d_M_levelAt_94 : decode b_M_levelAt 94 = .ok (.iadd, 1) := by decide +kernel
theorem d_M_levelAt_95 : decode b_M_levelAt 95 = .ok (.ireturn, 1) := by decide +kernel
theorem d_M_start_0 : decode b_M_start 0 = .ok (.iconst 0, 1) := by decide +kernel
theorem d_M_start_1 : decode b_M_start 1 = .ok (.istore 4, 2) := by decide +kernel
theorem d_M_start_3 : decode b_M_start 3 = .ok (.iload 4, 2) := by decide +kernel
theorem d_M_start_5 : decode b_M_start 5 = .ok (.bipush 64, 2) := by decide +kernel
theorem d_M_start_7 : decode b_M_start 7 = .ok (.if_icmp .ge 125, 3) := by decide +kernel
theorem d_M_start_10 : decode b_M_start 10 = .ok (.aload_n 0, 1) := by decide +kernel
theorem d_M_start_11 : decode b_M_start 11 = .ok (.aload_n 0, 1) := by decide +kernel
theorem d_M_start_12 : decode b_M_start 12 = .ok (.getfield 20, 3) := by decide +kernel
theorem d_M_start_15 : decode b_M_start 15 = .ok (.iload_n 2, 1) := by decide +kernel
theorem d_M_start_16 : decode b_M_start 16 = .ok (.iaload, 1) := by decide +kernel
theorem d_M_start_17 : decode b_M_start 17 = .ok (.aload_n 0, 1) := by decide +kernel
theorem d_M_start_18 : decode b_M_start 18 = .ok (.getfield 24, 3) := by decide +kernel
theorem d_M_start_21 : decode b_M_start 21 = .ok (.iload_n 2, 1) := by decide +kernel
theorem d_M_start_22 : decode b_M_start 22 = .ok (.iaload, 1) := by decide +kernel
theorem d_M_start_23 : decode b_M_start 23 = .ok (.iload 4, 2) := by decide +kernel
theorem d_M_start_25 : decode b_M_start 25 = .ok (.invokevirtual 145, 3) := by decide +kernel
theorem d_M_start_28 : decode b_M_start 28 = .ok (.istore 5, 2) := by decide +kernel
theorem d_M_start_30 : decode b_M_start 30 = .ok (.iload 5, 2) := by decide +kernel
theorem d_M_start_32 : decode b_M_start 32 = .ok (.ifCond .lt 94, 3) := by decide +kernel
theorem d_M_start_35 : decode b_M_start 35 = .ok (.bipush 64, 2) := by decide +kernel
theorem d_M_start_37 : decode b_M_start 37 = .ok (.iload_n 1, 1) := by decide +kernel
theorem d_M_start_38 : decode b_M_start 38 = .ok (.imul, 1) := by decide +kernel
theorem d_M_start_39 : decode b_M_start 39 = .ok (.iload 4, 2) := by decide +kernel
theorem d_M_start_41 : decode b_M_start 41 = .ok (.iadd, 1) := by decide +kernel
theorem d_M_start_42 : decode b_M_start 42 = .ok (.istore 6, 2) := by decide +kernel
theorem d_M_start_44 : decode b_M_start 44 = .ok (.aload_n 0, 1) := by decide +kernel
theorem d_M_start_45 : decode b_M_start 45 = .ok (.iload_n 1, 1) := by decide +kernel
theorem d_M_start_46 : decode b_M_start 46 = .ok (.iload 4, 2) := by decide +kernel
theorem d_M_start_48 : decode b_M_start 48 = .ok (.iload_n 3, 1) := by decide +kernel
theorem d_M_start_49 : decode b_M_start 49 = .ok (.invokevirtual 151, 3) := by decide +kernel
theorem d_M_start_52 : decode b_M_start 52 = .ok (.istore 7, 2) := by decide +kernel
theorem d_M_start_54 : decode b_M_start 54 = .ok (.aload_n 0, 1) := by decide +kernel
theorem d_M_start_55 : decode b_M_start 55 = .ok (.getfield 60, 3) := by decide +kernel
theorem d_M_start_58 : decode b_M_start 58 = .ok (.iload 6, 2) := by decide +kernel
theorem d_M_start_60 : decode b_M_start 60 = .ok (.iload 7, 2) := by decide +kernel
theorem d_M_start_62 : decode b_M_start 62 = .ok (.i2s, 1) := by decide +kernel
theorem d_M_start_63 : decode b_M_start 63 = .ok (.sastore, 1) := by decide +kernel
theorem d_M_start_64 : decode b_M_start 64 = .ok (.aload_n 0, 1) := by decide +kernel
theorem d_M_start_65 : decode b_M_start 65 = .ok (.getfield 63, 3) := by decide +kernel
theorem d_M_start_68 : decode b_M_start 68 = .ok (.iload 6, 2) := by decide +kernel
theorem d_M_start_70 : decode b_M_start 70 = .ok (.iload 5, 2) := by decide +kernel
theorem d_M_start_72 : decode b_M_start 72 = .ok (.i2s, 1) := by decide +kernel
theorem d_M_start_73 : decode b_M_start 73 = .ok (.sastore, 1) := by decide +kernel
theorem d_M_start_74 : decode b_M_start 74 = .ok (.aload_n 0, 1) := by decide +kernel
theorem d_M_start_75 : decode b_M_start 75 = .ok (.getfield 66, 3) := by decide +kernel
theorem d_M_start_78 : decode b_M_start 78 = .ok (.iload 6, 2) := by decide +kernel
theorem d_M_start_80 : decode b_M_start 80 = .ok (.iload_n 3, 1) := by decide +kernel
theorem d_M_start_81 : decode b_M_start 81 = .ok (.aload_n 0, 1) := by decide +kernel
theorem d_M_start_82 : decode b_M_start 82 = .ok (.getfield 33, 3) := by decide +kernel
theorem d_M_start_85 : decode b_M_start 85 = .ok (.iload_n 2, 1) := by decide +kernel
theorem d_M_start_86 : decode b_M_start 86 = .ok (.iaload, 1) := by decide +kernel
theorem d_M_start_87 : decode b_M_start 87 = .ok (.iadd, 1) := by decide +kernel
theorem d_M_start_88 : decode b_M_start 88 = .ok (.iastore, 1) := by decide +kernel
theorem d_M_start_89 : decode b_M_start 89 = .ok (.aload_n 0, 1) := by decide +kernel
theorem d_M_start_90 : decode b_M_start 90 = .ok (.getfield 69, 3) := by decide +kernel
theorem d_M_start_93 : decode b_M_start 93 = .ok (.iload 6, 2) := by decide +kernel
theorem d_M_start_95 : decode b_M_start 95 = .ok (.iload 5, 2) := by decide +kernel
theorem d_M_start_97 : decode b_M_start 97 = .ok (.iload 7, 2) := by decide +kernel
theorem d_M_start_99 : decode b_M_start 99 = .ok (.if_icmp .lt 12, 3) := by decide +kernel
theorem d_M_start_102 : decode b_M_start 102 = .ok (.aload_n 0, 1) := by decide +kernel
theorem d_M_start_103 : decode b_M_start 103 = .ok (.getfield 27, 3) := by decide +kernel
theorem d_M_start_106 : decode b_M_start 106 = .ok (.iload_n 2, 1) := by decide +kernel
theorem d_M_start_107 : decode b_M_start 107 = .ok (.iaload, 1) := by decide +kernel
theorem d_M_start_108 : decode b_M_start 108 = .ok (.goto 9, 3) := by decide +kernel
theorem d_M_start_111 : decode b_M_start 111 = .ok (.aload_n 0, 1) := by decide +kernel
theorem d_M_start_112 : decode b_M_start 112 = .ok (.getfield 30, 3) := by decide +kernel
theorem d_M_start_115 : decode b_M_start 115 = .ok (.iload_n 2, 1) := by decide +kernel
theorem d_M_start_116 : decode b_M_start 116 = .ok (.iaload, 1) := by decide +kernel
theorem d_M_start_117 : decode b_M_start 117 = .ok (.iastore, 1) := by decide +kernel
theorem d_M_start_118 : decode b_M_start 118 = .ok (.aload_n 0, 1) := by decide +kernel
theorem d_M_start_119 : decode b_M_start 119 = .ok (.getfield 72, 3) := by decide +kernel
theorem d_M_start_122 : decode b_M_start 122 = .ok (.iload 6, 2) := by decide +kernel
theorem d_M_start_124 : decode b_M_start 124 = .ok (.iload_n 3, 1) := by decide +kernel
theorem d_M_start_125 : decode b_M_start 125 = .ok (.iastore, 1) := by decide +kernel
theorem d_M_start_126 : decode b_M_start 126 = .ok (.iinc 4 1, 3) := by decide +kernel
theorem d_M_start_129 : decode b_M_start 129 = .ok (.goto (-126), 3) := by decide +kernel
theorem d_M_start_132 : decode b_M_start 132 = .ok (.aload_n 0, 1) := by decide +kernel
theorem d_M_start_133 : decode b_M_start 133 = .ok (.getfield 51, 3) := by decide +kernel
theorem d_M_start_136 : decode b_M_start 136 = .ok (.iload_n 1, 1) := by decide +kernel
theorem d_M_start_137 : decode b_M_start 137 = .ok (.aload_n 0, 1) := by decide +kernel
theorem d_M_start_138 : decode b_M_start 138 = .ok (.getfield 24, 3) := by decide +kernel
theorem d_M_start_141 : decode b_M_start 141 = .ok (.iload_n 2, 1) := by decide +kernel
theorem d_M_start_142 : decode b_M_start 142 = .ok (.iaload, 1) := by decide +kernel
theorem d_M_start_143 : decode b_M_start 143 = .ok (.iastore, 1) := by decide +kernel
theorem d_M_start_144 : decode b_M_start 144 = .ok (.aload_n 0, 1) := by decide +kernel
theorem d_M_start_145 : decode b_M_start 145 = .ok (.getfield 54, 3) := by decide +kernel
theorem d_M_start_148 : decode b_M_start 148 = .ok (.iload_n 1, 1) := by decide +kernel
theorem d_M_start_149 : decode b_M_start 149 = .ok (.iload_n 3, 1) := by decide +kernel
theorem d_M_start_150 : decode b_M_start 150 = .ok (.iastore, 1) := by decide +kernel
theorem d_M_start_151 : decode b_M_start 151 = .ok (.aload_n 0, 1) := by decide +kernel
theorem d_M_start_152 : decode b_M_start 152 = .ok (.getfield 57, 3) := by decide +kernel
theorem d_M_start_155 : decode b_M_start 155 = .ok (.iload_n 1, 1) := by decide +kernel
theorem d_M_start_156 : decode b_M_start 156 = .ok (.aload_n 0, 1) := by decide +kernel
theorem d_M_start_157 : decode b_M_start 157 = .ok (.getfield 36, 3) := by decide +kernel
theorem d_M_start_160 : decode b_M_start 160 = .ok (.iload_n 2, 1) := by decide +kernel
theorem d_M_start_161 : decode b_M_start 161 = .ok (.iaload, 1) := by decide +kernel
theorem d_M_start_162 : decode b_M_start 162 = .ok (.iconst (-1), 1) := by decide +kernel
theorem d_M_start_163 : decode b_M_start 163 = .ok (.if_icmp .ne 7, 3) := by decide +kernel
theorem d_M_start_166 : decode b_M_start 166 = .ok (.iconst (-1), 1) := by decide +kernel
theorem d_M_start_167 : decode b_M_start 167 = .ok (.goto 11, 3) := by decide +kernel
theorem d_M_start_170 : decode b_M_start 170 = .ok (.iload_n 3, 1) := by decide +kernel
theorem d_M_start_171 : decode b_M_start 171 = .ok (.aload_n 0, 1) := by decide +kernel
theorem d_M_start_172 : decode b_M_start 172 = .ok (.getfield 36, 3) := by decide +kernel
theorem d_M_start_175 : decode b_M_start 175 = .ok (.iload_n 2, 1) := by decide +kernel
theorem d_M_start_176 : decode b_M_start 176 = .ok (.iaload, 1) := by decide +kernel
theorem d_M_start_177 : decode b_M_start 177 = .ok (.iadd, 1) := by decide +kernel
theorem d_M_start_178 : decode b_M_start 178 = .ok (.iastore, 1) := by decide +kernel
theorem d_M_start_179 : decode b_M_start 179 = .ok (.aload_n 0, 1) := by decide +kernel
theorem d_M_start_180 : decode b_M_start 180 = .ok (.dup, 1) := by decide +kernel
theorem d_M_start_181 : decode b_M_start 181 = .ok (.getfield 154, 3) := by decide +kernel
theorem d_M_start_184 : decode b_M_start 184 = .ok (.iconst 1, 1) := by decide +kernel
theorem d_M_start_185 : decode b_M_start 185 = .ok (.iadd, 1) := by decide +kernel
theorem d_M_start_186 : decode b_M_start 186 = .ok (.putfield 154, 3) := by decide +kernel
theorem d_M_start_189 : decode b_M_start 189 = .ok (.return_, 1) := by decide +kernel
theorem d_M_tell_0 : decode b_M_tell 0 = .ok (.iconst 1, 1) := by decide +kernel
theorem d_M_tell_1 : decode b_M_tell 1 = .ok (.istore_n 2, 1) := by decide +kernel
theorem d_M_tell_2 : decode b_M_tell 2 = .ok (.iload_n 2, 1) := by decide +kernel
theorem d_M_tell_3 : decode b_M_tell 3 = .ok (.ifCond .eq 128, 3) := by decide +kernel
theorem d_M_tell_6 : decode b_M_tell 6 = .ok (.iconst (-1), 1) := by decide +kernel
theorem d_M_tell_7 : decode b_M_tell 7 = .ok (.istore_n 3, 1) := by decide +kernel
theorem d_M_tell_8 : decode b_M_tell 8 = .ok (.iconst 5, 1) := by decide +kernel
theorem d_M_tell_9 : decode b_M_tell 9 = .ok (.istore 4, 2) := by decide +kernel
theorem d_M_tell_11 : decode b_M_tell 11 = .ok (.iload 4, 2) := by decide +kernel
theorem d_M_tell_13 : decode b_M_tell 13 = .ok (.ifCond .lt 54, 3) := by decide +kernel
theorem d_M_tell_16 : decode b_M_tell 16 = .ok (.aload_n 0, 1) := by decide +kernel
theorem d_M_tell_17 : decode b_M_tell 17 = .ok (.getfield 57, 3) := by decide +kernel
theorem d_M_tell_20 : decode b_M_tell 20 = .ok (.iload 4, 2) := by decide +kernel
theorem d_M_tell_22 : decode b_M_tell 22 = .ok (.iaload, 1) := by decide +kernel
theorem d_M_tell_23 : decode b_M_tell 23 = .ok (.iconst (-1), 1) := by decide +kernel
theorem d_M_tell_24 : decode b_M_tell 24 = .ok (.if_icmp .eq 37, 3) := by decide +kernel
theorem d_M_tell_27 : decode b_M_tell 27 = .ok (.aload_n 0, 1) := by decide +kernel
theorem d_M_tell_28 : decode b_M_tell 28 = .ok (.getfield 57, 3) := by decide +kernel
theorem d_M_tell_31 : decode b_M_tell 31 = .ok (.iload 4, 2) := by decide +kernel
theorem d_M_tell_33 : decode b_M_tell 33 = .ok (.iaload, 1) := by decide +kernel
theorem d_M_tell_34 : decode b_M_tell 34 = .ok (.iload_n 1, 1) := by decide +kernel
theorem d_M_tell_35 : decode b_M_tell 35 = .ok (.if_icmp .gt 26, 3) := by decide +kernel
theorem d_M_tell_38 : decode b_M_tell 38 = .ok (.iload_n 3, 1) := by decide +kernel
theorem d_M_tell_39 : decode b_M_tell 39 = .ok (.ifCond .lt 19, 3) := by decide +kernel
theorem d_M_tell_42 : decode b_M_tell 42 = .ok (.aload_n 0, 1) := by decide +kernel
theorem d_M_tell_43 : decode b_M_tell 43 = .ok (.getfield 57, 3) := by decide +kernel
theorem d_M_tell_46 : decode b_M_tell 46 = .ok (.iload 4, 2) := by decide +kernel
theorem d_M_tell_48 : decode b_M_tell 48 = .ok (.iaload, 1) := by decide +kernel
theorem d_M_tell_49 : decode b_M_tell 49 = .ok (.aload_n 0, 1) := by decide +kernel
theorem d_M_tell_50 : decode b_M_tell 50 = .ok (.getfield 57, 3) := by decide +kernel
theorem d_M_tell_53 : decode b_M_tell 53 = .ok (.iload_n 3, 1) := by decide +kernel
theorem d_M_tell_54 : decode b_M_tell 54 = .ok (.iaload, 1) := by decide +kernel
theorem d_M_tell_55 : decode b_M_tell 55 = .ok (.if_icmp .gt 6, 3) := by decide +kernel
theorem d_M_tell_58 : decode b_M_tell 58 = .ok (.iload 4, 2) := by decide +kernel
theorem d_M_tell_60 : decode b_M_tell 60 = .ok (.istore_n 3, 1) := by decide +kernel
theorem d_M_tell_61 : decode b_M_tell 61 = .ok (.iinc 4 (-1), 3) := by decide +kernel
theorem d_M_tell_64 : decode b_M_tell 64 = .ok (.goto (-53), 3) := by decide +kernel
theorem d_M_tell_67 : decode b_M_tell 67 = .ok (.iload_n 3, 1) := by decide +kernel
theorem d_M_tell_68 : decode b_M_tell 68 = .ok (.ifCond .lt 7, 3) := by decide +kernel
theorem d_M_tell_71 : decode b_M_tell 71 = .ok (.iconst 1, 1) := by decide +kernel
theorem d_M_tell_72 : decode b_M_tell 72 = .ok (.goto 4, 3) := by decide +kernel
theorem d_M_tell_75 : decode b_M_tell 75 = .ok (.iconst 0, 1) := by decide +kernel
theorem d_M_tell_76 : decode b_M_tell 76 = .ok (.istore_n 2, 1) := by decide +kernel
theorem d_M_tell_77 : decode b_M_tell 77 = .ok (.iload_n 2, 1) := by decide +kernel
theorem d_M_tell_78 : decode b_M_tell 78 = .ok (.ifCond .eq 50, 3) := by decide +kernel
theorem d_M_tell_81 : decode b_M_tell 81 = .ok (.aload_n 0, 1) := by decide +kernel
theorem d_M_tell_82 : decode b_M_tell 82 = .ok (.getfield 57, 3) := by decide +kernel
theorem d_M_tell_85 : decode b_M_tell 85 = .ok (.iload_n 3, 1) := by decide +kernel
theorem d_M_tell_86 : decode b_M_tell 86 = .ok (.iaload, 1) := by decide +kernel
theorem d_M_tell_87 : decode b_M_tell 87 = .ok (.istore 4, 2) := by decide +kernel
theorem d_M_tell_89 : decode b_M_tell 89 = .ok (.aload_n 0, 1) := by decide +kernel
theorem d_M_tell_90 : decode b_M_tell 90 = .ok (.aload_n 0, 1) := by decide +kernel
theorem d_M_tell_91 : decode b_M_tell 91 = .ok (.getfield 45, 3) := by decide +kernel
theorem d_M_tell_94 : decode b_M_tell 94 = .ok (.iload_n 3, 1) := by decide +kernel
theorem d_M_tell_95 : decode b_M_tell 95 = .ok (.iaload, 1) := by decide +kernel
theorem d_M_tell_96 : decode b_M_tell 96 = .ok (.aload_n 0, 1) := by decide +kernel
theorem d_M_tell_97 : decode b_M_tell 97 = .ok (.getfield 51, 3) := by decide +kernel
theorem d_M_tell_100 : decode b_M_tell 100 = .ok (.iload_n 3, 1) := by decide +kernel
theorem d_M_tell_101 : decode b_M_tell 101 = .ok (.iaload, 1) := by decide +kernel
theorem d_M_tell_102 : decode b_M_tell 102 = .ok (.invokevirtual 111, 3) := by decide +kernel
theorem d_M_tell_105 : decode b_M_tell 105 = .ok (.istore 5, 2) := by decide +kernel
theorem d_M_tell_107 : decode b_M_tell 107 = .ok (.aload_n 0, 1) := by decide +kernel
theorem d_M_tell_108 : decode b_M_tell 108 = .ok (.getfield 57, 3) := by decide +kernel
theorem d_M_tell_111 : decode b_M_tell 111 = .ok (.iload_n 3, 1) := by decide +kernel
theorem d_M_tell_112 : decode b_M_tell 112 = .ok (.iconst (-1), 1) := by decide +kernel
theorem d_M_tell_113 : decode b_M_tell 113 = .ok (.iastore, 1) := by decide +kernel
theorem d_M_tell_114 : decode b_M_tell 114 = .ok (.iload 5, 2) := by decide +kernel
theorem d_M_tell_116 : decode b_M_tell 116 = .ok (.ifCond .lt 12, 3) := by decide +kernel
theorem d_M_tell_119 : decode b_M_tell 119 = .ok (.aload_n 0, 1) := by decide +kernel
theorem d_M_tell_120 : decode b_M_tell 120 = .ok (.iload_n 3, 1) := by decide +kernel
theorem d_M_tell_121 : decode b_M_tell 121 = .ok (.iload 5, 2) := by decide +kernel
theorem d_M_tell_123 : decode b_M_tell 123 = .ok (.iload 4, 2) := by decide +kernel
theorem d_M_tell_125 : decode b_M_tell 125 = .ok (.invokevirtual 157, 3) := by decide +kernel
theorem d_M_tell_128 : decode b_M_tell 128 = .ok (.goto (-126), 3) := by decide +kernel
theorem d_M_tell_131 : decode b_M_tell 131 = .ok (.aload_n 0, 1) := by decide +kernel
theorem d_M_tell_132 : decode b_M_tell 132 = .ok (.iload_n 1, 1) := by decide +kernel
theorem d_M_tell_133 : decode b_M_tell 133 = .ok (.putfield 160, 3) := by decide +kernel
theorem d_M_tell_136 : decode b_M_tell 136 = .ok (.return_, 1) := by decide +kernel
theorem d_M_isTick_0 : decode b_M_isTick 0 = .ok (.iload_n 1, 1) := by decide +kernel
theorem d_M_isTick_1 : decode b_M_isTick 1 = .ok (.aload_n 0, 1) := by decide +kernel
theorem d_M_isTick_2 : decode b_M_isTick 2 = .ok (.getfield 160, 3) := by decide +kernel
theorem d_M_isTick_5 : decode b_M_isTick 5 = .ok (.if_icmp .lt 13, 3) := by decide +kernel
theorem d_M_isTick_8 : decode b_M_isTick 8 = .ok (.iload_n 1, 1) := by decide +kernel
theorem d_M_isTick_9 : decode b_M_isTick 9 = .ok (.ldc 163, 2) := by decide +kernel
theorem d_M_isTick_11 : decode b_M_isTick 11 = .ok (.if_icmp .gt 7, 3) := by decide +kernel
theorem d_M_isTick_14 : decode b_M_isTick 14 = .ok (.iconst 1, 1) := by decide +kernel
theorem d_M_isTick_15 : decode b_M_isTick 15 = .ok (.goto 4, 3) := by decide +kernel
theorem d_M_isTick_18 : decode b_M_isTick 18 = .ok (.iconst 0, 1) := by decide +kernel
theorem d_M_isTick_19 : decode b_M_isTick 19 = .ok (.ireturn, 1) := by decide +kernel
theorem d_M_go_0 : decode b_M_go 0 = .ok (.aload_n 0, 1) := by decide +kernel
theorem d_M_go_1 : decode b_M_go 1 = .ok (.iload_n 1, 1) := by decide +kernel
theorem d_M_go_2 : decode b_M_go 2 = .ok (.invokestatic 148, 3) := by decide +kernel
theorem d_M_go_5 : decode b_M_go 5 = .ok (.ifCond .eq 15, 3) := by decide +kernel
theorem d_M_go_8 : decode b_M_go 8 = .ok (.aload_n 0, 1) := by decide +kernel
theorem d_M_go_9 : decode b_M_go 9 = .ok (.iload_n 3, 1) := by decide +kernel
theorem d_M_go_10 : decode b_M_go 10 = .ok (.invokevirtual 164, 3) := by decide +kernel
theorem d_M_go_13 : decode b_M_go 13 = .ok (.ifCond .eq 7, 3) := by decide +kernel
theorem d_M_go_16 : decode b_M_go 16 = .ok (.iconst 0, 1) := by decide +kernel
theorem d_M_go_17 : decode b_M_go 17 = .ok (.goto 4, 3) := by decide +kernel
theorem d_M_go_20 : decode b_M_go 20 = .ok (.iconst 1, 1) := by decide +kernel
theorem d_M_go_21 : decode b_M_go 21 = .ok (.putfield 75, 3) := by decide +kernel
theorem d_M_go_24 : decode b_M_go 24 = .ok (.aload_n 0, 1) := by decide +kernel
theorem d_M_go_25 : decode b_M_go 25 = .ok (.getfield 75, 3) := by decide +kernel
theorem d_M_go_28 : decode b_M_go 28 = .ok (.ifCond .le 5, 3) := by decide +kernel
theorem d_M_go_31 : decode b_M_go 31 = .ok (.iconst 0, 1) := by decide +kernel
theorem d_M_go_32 : decode b_M_go 32 = .ok (.ireturn, 1) := by decide +kernel
theorem d_M_go_33 : decode b_M_go 33 = .ok (.aload_n 0, 1) := by decide +kernel
theorem d_M_go_34 : decode b_M_go 34 = .ok (.iload_n 3, 1) := by decide +kernel
theorem d_M_go_35 : decode b_M_go 35 = .ok (.invokevirtual 167, 3) := by decide +kernel
theorem d_M_go_38 : decode b_M_go 38 = .ok (.aload_n 0, 1) := by decide +kernel
theorem d_M_go_39 : decode b_M_go 39 = .ok (.getfield 45, 3) := by decide +kernel
theorem d_M_go_42 : decode b_M_go 42 = .ok (.iload_n 1, 1) := by decide +kernel
theorem d_M_go_43 : decode b_M_go 43 = .ok (.iaload, 1) := by decide +kernel
theorem d_M_go_44 : decode b_M_go 44 = .ok (.iconst (-1), 1) := by decide +kernel
theorem d_M_go_45 : decode b_M_go 45 = .ok (.if_icmp .ne 7, 3) := by decide +kernel
theorem d_M_go_48 : decode b_M_go 48 = .ok (.iconst (-1), 1) := by decide +kernel
theorem d_M_go_49 : decode b_M_go 49 = .ok (.goto 42, 3) := by decide +kernel
theorem d_M_go_52 : decode b_M_go 52 = .ok (.iload_n 2, 1) := by decide +kernel
theorem d_M_go_53 : decode b_M_go 53 = .ok (.ifCond .eq 22, 3) := by decide +kernel
theorem d_M_go_56 : decode b_M_go 56 = .ok (.aload_n 0, 1) := by decide +kernel
theorem d_M_go_57 : decode b_M_go 57 = .ok (.aload_n 0, 1) := by decide +kernel
theorem d_M_go_58 : decode b_M_go 58 = .ok (.getfield 45, 3) := by decide +kernel
theorem d_M_go_61 : decode b_M_go 61 = .ok (.iload_n 1, 1) := by decide +kernel
theorem d_M_go_62 : decode b_M_go 62 = .ok (.iaload, 1) := by decide +kernel
theorem d_M_go_63 : decode b_M_go 63 = .ok (.aload_n 0, 1) := by decide +kernel
theorem d_M_go_64 : decode b_M_go 64 = .ok (.getfield 51, 3) := by decide +kernel
theorem d_M_go_67 : decode b_M_go 67 = .ok (.iload_n 1, 1) := by decide +kernel
theorem d_M_go_68 : decode b_M_go 68 = .ok (.iaload, 1) := by decide +kernel
theorem d_M_go_69 : decode b_M_go 69 = .ok (.invokevirtual 86, 3) := by decide +kernel
theorem d_M_go_72 : decode b_M_go 72 = .ok (.goto 19, 3) := by decide +kernel
theorem d_M_go_75 : decode b_M_go 75 = .ok (.aload_n 0, 1) := by decide +kernel
theorem d_M_go_76 : decode b_M_go 76 = .ok (.aload_n 0, 1) := by decide +kernel
theorem d_M_go_77 : decode b_M_go 77 = .ok (.getfield 45, 3) := by decide +kernel
theorem d_M_go_80 : decode b_M_go 80 = .ok (.iload_n 1, 1) := by decide +kernel
theorem d_M_go_81 : decode b_M_go 81 = .ok (.iaload, 1) := by decide +kernel
theorem d_M_go_82 : decode b_M_go 82 = .ok (.aload_n 0, 1) := by decide +kernel
theorem d_M_go_83 : decode b_M_go 83 = .ok (.getfield 51, 3) := by decide +kernel
theorem d_M_go_86 : decode b_M_go 86 = .ok (.iload_n 1, 1) := by decide +kernel
theorem d_M_go_87 : decode b_M_go 87 = .ok (.iaload, 1) := by decide +kernel
theorem d_M_go_88 : decode b_M_go 88 = .ok (.invokevirtual 111, 3) := by decide +kernel
theorem d_M_go_91 : decode b_M_go 91 = .ok (.istore 4, 2) := by decide +kernel
theorem d_M_go_93 : decode b_M_go 93 = .ok (.aload_n 0, 1) := by decide +kernel
theorem d_M_go_94 : decode b_M_go 94 = .ok (.iload 4, 2) := by decide +kernel
theorem d_M_go_96 : decode b_M_go 96 = .ok (.ifCond .ge 7, 3) := by decide +kernel
theorem d_M_go_99 : decode b_M_go 99 = .ok (.iconst 2, 1) := by decide +kernel
theorem d_M_go_100 : decode b_M_go 100 = .ok (.goto 4, 3) := by decide +kernel
theorem d_M_go_103 : decode b_M_go 103 = .ok (.iconst 0, 1) := by decide +kernel
theorem d_M_go_104 : decode b_M_go 104 = .ok (.putfield 75, 3) := by decide +kernel
theorem d_M_go_107 : decode b_M_go 107 = .ok (.aload_n 0, 1) := by decide +kernel
theorem d_M_go_108 : decode b_M_go 108 = .ok (.getfield 75, 3) := by decide +kernel
theorem d_M_go_111 : decode b_M_go 111 = .ok (.ifCond .le 5, 3) := by decide +kernel
theorem d_M_go_114 : decode b_M_go 114 = .ok (.iconst 0, 1) := by decide +kernel
theorem d_M_go_115 : decode b_M_go 115 = .ok (.ireturn, 1) := by decide +kernel
theorem d_M_go_116 : decode b_M_go 116 = .ok (.aload_n 0, 1) := by decide +kernel
theorem d_M_go_117 : decode b_M_go 117 = .ok (.iload_n 1, 1) := by decide +kernel
theorem d_M_go_118 : decode b_M_go 118 = .ok (.iload 4, 2) := by decide +kernel
theorem d_M_go_120 : decode b_M_go 120 = .ok (.iload_n 3, 1) := by decide +kernel
theorem d_M_go_121 : decode b_M_go 121 = .ok (.invokevirtual 157, 3) := by decide +kernel
theorem d_M_go_124 : decode b_M_go 124 = .ok (.aload_n 0, 1) := by decide +kernel
theorem d_M_go_125 : decode b_M_go 125 = .ok (.getfield 24, 3) := by decide +kernel
theorem d_M_go_128 : decode b_M_go 128 = .ok (.iload 4, 2) := by decide +kernel
theorem d_M_go_130 : decode b_M_go 130 = .ok (.iaload, 1) := by decide +kernel
theorem d_M_go_131 : decode b_M_go 131 = .ok (.ireturn, 1) := by decide +kernel
theorem d_M_master_0 : decode b_M_master 0 = .ok (.aload_n 0, 1) := by decide +kernel
theorem d_M_master_1 : decode b_M_master 1 = .ok (.iconst 0, 1) := by decide +kernel
theorem d_M_master_2 : decode b_M_master 2 = .ok (.putfield 75, 3) := by decide +kernel
theorem d_M_master_5 : decode b_M_master 5 = .ok (.iload_n 1, 1) := by decide +kernel
theorem d_M_master_6 : decode b_M_master 6 = .ok (.invokestatic 148, 3) := by decide +kernel
theorem d_M_master_9 : decode b_M_master 9 = .ok (.ifCond .eq 10, 3) := by decide +kernel
theorem d_M_master_12 : decode b_M_master 12 = .ok (.iload_n 2, 1) := by decide +kernel
theorem d_M_master_13 : decode b_M_master 13 = .ok (.invokestatic 83, 3) := by decide +kernel
theorem d_M_master_16 : decode b_M_master 16 = .ok (.ifCond .ne 5, 3) := by decide +kernel
theorem d_M_master_19 : decode b_M_master 19 = .ok (.iconst 0, 1) := by decide +kernel
theorem d_M_master_20 : decode b_M_master 20 = .ok (.ireturn, 1) := by decide +kernel
theorem d_M_master_21 : decode b_M_master 21 = .ok (.aload_n 0, 1) := by decide +kernel
theorem d_M_master_22 : decode b_M_master 22 = .ok (.getfield 48, 3) := by decide +kernel
theorem d_M_master_25 : decode b_M_master 25 = .ok (.iload_n 1, 1) := by decide +kernel
theorem d_M_master_26 : decode b_M_master 26 = .ok (.iload_n 2, 1) := by decide +kernel
theorem d_M_master_27 : decode b_M_master 27 = .ok (.iastore, 1) := by decide +kernel
theorem d_M_master_28 : decode b_M_master 28 = .ok (.iconst 1, 1) := by decide +kernel
theorem d_M_master_29 : decode b_M_master 29 = .ok (.ireturn, 1) := by decide +kernel
theorem d_M_merged_0 : decode b_M_merged 0 = .ok (.iconst 0, 1) := by decide +kernel
theorem d_M_merged_1 : decode b_M_merged 1 = .ok (.istore_n 2, 1) := by decide +kernel
theorem d_M_merged_2 : decode b_M_merged 2 = .ok (.iconst (-1), 1) := by decide +kernel
theorem d_M_merged_3 : decode b_M_merged 3 = .ok (.istore_n 3, 1) := by decide +kernel
theorem d_M_merged_4 : decode b_M_merged 4 = .ok (.iconst 0, 1) := by decide +kernel
theorem d_M_merged_5 : decode b_M_merged 5 = .ok (.istore 4, 2) := by decide +kernel
theorem d_M_merged_7 : decode b_M_merged 7 = .ok (.iload 4, 2) := by decide +kernel
theorem d_M_merged_9 : decode b_M_merged 9 = .ok (.bipush 6, 2) := by decide +kernel
theorem d_M_merged_11 : decode b_M_merged 11 = .ok (.if_icmp .ge 94, 3) := by decide +kernel
theorem d_M_merged_14 : decode b_M_merged 14 = .ok (.aload_n 0, 1) := by decide +kernel
theorem d_M_merged_15 : decode b_M_merged 15 = .ok (.iload 4, 2) := by decide +kernel
theorem d_M_merged_17 : decode b_M_merged 17 = .ok (.iload_n 1, 1) := by decide +kernel
theorem d_M_merged_18 : decode b_M_merged 18 = .ok (.aload_n 0, 1) := by decide +kernel
theorem d_M_merged_19 : decode b_M_merged 19 = .ok (.getfield 160, 3) := by decide +kernel
theorem d_M_merged_22 : decode b_M_merged 22 = .ok (.invokevirtual 151, 3) := by decide +kernel
theorem d_M_merged_25 : decode b_M_merged 25 = .ok (.aload_n 0, 1) := by decide +kernel
theorem d_M_merged_26 : decode b_M_merged 26 = .ok (.getfield 48, 3) := by decide +kernel
theorem d_M_merged_29 : decode b_M_merged 29 = .ok (.iload 4, 2) := by decide +kernel
theorem d_M_merged_31 : decode b_M_merged 31 = .ok (.iaload, 1) := by decide +kernel
theorem d_M_merged_32 : decode b_M_merged 32 = .ok (.imul, 1) := by decide +kernel
theorem d_M_merged_33 : decode b_M_merged 33 = .ok (.sipush 255, 3) := by decide +kernel
theorem d_M_merged_36 : decode b_M_merged 36 = .ok (.idiv, 1) := by decide +kernel
theorem d_M_merged_37 : decode b_M_merged 37 = .ok (.istore 5, 2) := by decide +kernel
theorem d_M_merged_39 : decode b_M_merged 39 = .ok (.iload 5, 2) := by decide +kernel
theorem d_M_merged_41 : decode b_M_merged 41 = .ok (.iload_n 2, 1) := by decide +kernel
theorem d_M_merged_42 : decode b_M_merged 42 = .ok (.if_icmp .le 8, 3) := by decide +kernel
theorem d_M_merged_45 : decode b_M_merged 45 = .ok (.iload 5, 2) := by decide +kernel
theorem d_M_merged_47 : decode b_M_merged 47 = .ok (.goto 4, 3) := by decide +kernel
theorem d_M_merged_50 : decode b_M_merged 50 = .ok (.iload_n 2, 1) := by decide +kernel
theorem d_M_merged_51 : decode b_M_merged 51 = .ok (.istore_n 2, 1) := by decide +kernel
theorem d_M_merged_52 : decode b_M_merged 52 = .ok (.aload_n 0, 1) := by decide +kernel
theorem d_M_merged_53 : decode b_M_merged 53 = .ok (.getfield 72, 3) := by decide +kernel
theorem d_M_merged_56 : decode b_M_merged 56 = .ok (.bipush 64, 2) := by decide +kernel
theorem d_M_merged_58 : decode b_M_merged 58 = .ok (.iload 4, 2) := by decide +kernel
theorem d_M_merged_60 : decode b_M_merged 60 = .ok (.imul, 1) := by decide +kernel
theorem d_M_merged_61 : decode b_M_merged 61 = .ok (.iload_n 1, 1) := by decide +kernel
theorem d_M_merged_62 : decode b_M_merged 62 = .ok (.iadd, 1) := by decide +kernel
theorem d_M_merged_63 : decode b_M_merged 63 = .ok (.iaload, 1) := by decide +kernel
theorem d_M_merged_64 : decode b_M_merged 64 = .ok (.istore 6, 2) := by decide +kernel
theorem d_M_merged_66 : decode b_M_merged 66 = .ok (.iload 6, 2) := by decide +kernel
theorem d_M_merged_68 : decode b_M_merged 68 = .ok (.iconst (-1), 1) := by decide +kernel
theorem d_M_merged_69 : decode b_M_merged 69 = .ok (.if_icmp .eq 28, 3) := by decide +kernel
theorem d_M_merged_72 : decode b_M_merged 72 = .ok (.iload_n 3, 1) := by decide +kernel
theorem d_M_merged_73 : decode b_M_merged 73 = .ok (.ifCond .lt 19, 3) := by decide +kernel
theorem d_M_merged_76 : decode b_M_merged 76 = .ok (.iload 6, 2) := by decide +kernel
theorem d_M_merged_78 : decode b_M_merged 78 = .ok (.aload_n 0, 1) := by decide +kernel
theorem d_M_merged_79 : decode b_M_merged 79 = .ok (.getfield 72, 3) := by decide +kernel
theorem d_M_merged_82 : decode b_M_merged 82 = .ok (.bipush 64, 2) := by decide +kernel
theorem d_M_merged_84 : decode b_M_merged 84 = .ok (.iload_n 3, 1) := by decide +kernel
theorem d_M_merged_85 : decode b_M_merged 85 = .ok (.imul, 1) := by decide +kernel
theorem d_M_merged_86 : decode b_M_merged 86 = .ok (.iload_n 1, 1) := by decide +kernel
theorem d_M_merged_87 : decode b_M_merged 87 = .ok (.iadd, 1) := by decide +kernel
theorem d_M_merged_88 : decode b_M_merged 88 = .ok (.iaload, 1) := by decide +kernel
theorem d_M_merged_89 : decode b_M_merged 89 = .ok (.if_icmp .lt 8, 3) := by decide +kernel
theorem d_M_merged_92 : decode b_M_merged 92 = .ok (.iload 4, 2) := by decide +kernel
theorem d_M_merged_94 : decode b_M_merged 94 = .ok (.goto 4, 3) := by decide +kernel
theorem d_M_merged_97 : decode b_M_merged 97 = .ok (.iload_n 3, 1) := by decide +kernel
theorem d_M_merged_98 : decode b_M_merged 98 = .ok (.istore_n 3, 1) := by decide +kernel
theorem d_M_merged_99 : decode b_M_merged 99 = .ok (.iinc 4 1, 3) := by decide +kernel
theorem d_M_merged_102 : decode b_M_merged 102 = .ok (.goto (-95), 3) := by decide +kernel
theorem d_M_merged_105 : decode b_M_merged 105 = .ok (.aload_n 0, 1) := by decide +kernel
theorem d_M_merged_106 : decode b_M_merged 106 = .ok (.getfield 7, 3) := by decide +kernel
theorem d_M_merged_109 : decode b_M_merged 109 = .ok (.iload_n 1, 1) := by decide +kernel
theorem d_M_merged_110 : decode b_M_merged 110 = .ok (.baload, 1) := by decide +kernel
theorem d_M_merged_111 : decode b_M_merged 111 = .ok (.ifCond .ne 7, 3) := by decide +kernel
theorem d_M_merged_114 : decode b_M_merged 114 = .ok (.iload_n 2, 1) := by decide +kernel
theorem d_M_merged_115 : decode b_M_merged 115 = .ok (.goto 21, 3) := by decide +kernel
theorem d_M_merged_118 : decode b_M_merged 118 = .ok (.iload_n 3, 1) := by decide +kernel
theorem d_M_merged_119 : decode b_M_merged 119 = .ok (.ifCond .ge 7, 3) := by decide +kernel
theorem d_M_merged_122 : decode b_M_merged 122 = .ok (.iconst 0, 1) := by decide +kernel
theorem d_M_merged_123 : decode b_M_merged 123 = .ok (.goto 13, 3) := by decide +kernel
theorem d_M_merged_126 : decode b_M_merged 126 = .ok (.aload_n 0, 1) := by decide +kernel
theorem d_M_merged_127 : decode b_M_merged 127 = .ok (.iload_n 3, 1) := by decide +kernel
theorem d_M_merged_128 : decode b_M_merged 128 = .ok (.iload_n 1, 1) := by decide +kernel
theorem d_M_merged_129 : decode b_M_merged 129 = .ok (.aload_n 0, 1) := by decide +kernel
theorem d_M_merged_130 : decode b_M_merged 130 = .ok (.getfield 160, 3) := by decide +kernel
theorem d_M_merged_133 : decode b_M_merged 133 = .ok (.invokevirtual 151, 3) := by decide +kernel
theorem d_M_merged_136 : decode b_M_merged 136 = .ok (.ireturn, 1) := by decide +kernel
theorem d_M_out_0 : decode b_M_out 0 = .ok (.aload_n 0, 1) := by decide +kernel
theorem d_M_out_1 : decode b_M_out 1 = .ok (.iload_n 1, 1) := by decide +kernel
theorem d_M_out_2 : decode b_M_out 2 = .ok (.invokestatic 79, 3) := by decide +kernel
theorem d_M_out_5 : decode b_M_out 5 = .ok (.ifCond .eq 15, 3) := by decide +kernel
theorem d_M_out_8 : decode b_M_out 8 = .ok (.aload_n 0, 1) := by decide +kernel
theorem d_M_out_9 : decode b_M_out 9 = .ok (.iload_n 2, 1) := by decide +kernel
theorem d_M_out_10 : decode b_M_out 10 = .ok (.invokevirtual 164, 3) := by decide +kernel
theorem d_M_out_13 : decode b_M_out 13 = .ok (.ifCond .eq 7, 3) := by decide +kernel
theorem d_M_out_16 : decode b_M_out 16 = .ok (.iconst 0, 1) := by decide +kernel
theorem d_M_out_17 : decode b_M_out 17 = .ok (.goto 4, 3) := by decide +kernel
theorem d_M_out_20 : decode b_M_out 20 = .ok (.iconst 1, 1) := by decide +kernel
theorem d_M_out_21 : decode b_M_out 21 = .ok (.putfield 75, 3) := by decide +kernel
theorem d_M_out_24 : decode b_M_out 24 = .ok (.aload_n 0, 1) := by decide +kernel
theorem d_M_out_25 : decode b_M_out 25 = .ok (.getfield 75, 3) := by decide +kernel
theorem d_M_out_28 : decode b_M_out 28 = .ok (.ifCond .le 5, 3) := by decide +kernel
theorem d_M_out_31 : decode b_M_out 31 = .ok (.iconst 0, 1) := by decide +kernel
theorem d_M_out_32 : decode b_M_out 32 = .ok (.ireturn, 1) := by decide +kernel
theorem d_M_out_33 : decode b_M_out 33 = .ok (.aload_n 0, 1) := by decide +kernel
theorem d_M_out_34 : decode b_M_out 34 = .ok (.iload_n 2, 1) := by decide +kernel
theorem d_M_out_35 : decode b_M_out 35 = .ok (.invokevirtual 167, 3) := by decide +kernel
theorem d_M_out_38 : decode b_M_out 38 = .ok (.aload_n 0, 1) := by decide +kernel
theorem d_M_out_39 : decode b_M_out 39 = .ok (.getfield 13, 3) := by decide +kernel
theorem d_M_out_42 : decode b_M_out 42 = .ok (.iload_n 1, 1) := by decide +kernel
theorem d_M_out_43 : decode b_M_out 43 = .ok (.saload, 1) := by decide +kernel
theorem d_M_out_44 : decode b_M_out 44 = .ok (.iconst (-1), 1) := by decide +kernel
theorem d_M_out_45 : decode b_M_out 45 = .ok (.if_icmp .ne 7, 3) := by decide +kernel
theorem d_M_out_48 : decode b_M_out 48 = .ok (.iconst (-1), 1) := by decide +kernel
theorem d_M_out_49 : decode b_M_out 49 = .ok (.goto 14, 3) := by decide +kernel
theorem d_M_out_52 : decode b_M_out 52 = .ok (.aload_n 0, 1) := by decide +kernel
theorem d_M_out_53 : decode b_M_out 53 = .ok (.aload_n 0, 1) := by decide +kernel
theorem d_M_out_54 : decode b_M_out 54 = .ok (.getfield 13, 3) := by decide +kernel
theorem d_M_out_57 : decode b_M_out 57 = .ok (.iload_n 1, 1) := by decide +kernel
theorem d_M_out_58 : decode b_M_out 58 = .ok (.saload, 1) := by decide +kernel
theorem d_M_out_59 : decode b_M_out 59 = .ok (.iload_n 1, 1) := by decide +kernel
theorem d_M_out_60 : decode b_M_out 60 = .ok (.invokevirtual 142, 3) := by decide +kernel
theorem d_M_out_63 : decode b_M_out 63 = .ok (.istore_n 3, 1) := by decide +kernel
theorem d_M_out_64 : decode b_M_out 64 = .ok (.iload_n 3, 1) := by decide +kernel
theorem d_M_out_65 : decode b_M_out 65 = .ok (.ifCond .lt 7, 3) := by decide +kernel
theorem d_M_out_68 : decode b_M_out 68 = .ok (.iload_n 3, 1) := by decide +kernel
theorem d_M_out_69 : decode b_M_out 69 = .ok (.goto 8, 3) := by decide +kernel
theorem d_M_out_72 : decode b_M_out 72 = .ok (.aload_n 0, 1) := by decide +kernel
theorem d_M_out_73 : decode b_M_out 73 = .ok (.iload_n 1, 1) := by decide +kernel
theorem d_M_out_74 : decode b_M_out 74 = .ok (.invokevirtual 170, 3) := by decide +kernel
theorem d_M_out_77 : decode b_M_out 77 = .ok (.ireturn, 1) := by decide +kernel
theorem d_M_playback_0 : decode b_M_playback 0 = .ok (.aload_n 0, 1) := by decide +kernel
theorem d_M_playback_1 : decode b_M_playback 1 = .ok (.iload_n 1, 1) := by decide +kernel
theorem d_M_playback_2 : decode b_M_playback 2 = .ok (.invokestatic 148, 3) := by decide +kernel
theorem d_M_playback_5 : decode b_M_playback 5 = .ok (.ifCond .eq 28, 3) := by decide +kernel
theorem d_M_playback_8 : decode b_M_playback 8 = .ok (.iload_n 2, 1) := by decide +kernel
theorem d_M_playback_9 : decode b_M_playback 9 = .ok (.ifCond .lt 24, 3) := by decide +kernel
theorem d_M_playback_12 : decode b_M_playback 12 = .ok (.iload_n 2, 1) := by decide +kernel
theorem d_M_playback_13 : decode b_M_playback 13 = .ok (.iconst 5, 1) := by decide +kernel
theorem d_M_playback_14 : decode b_M_playback 14 = .ok (.if_icmp .lt 15, 3) := by decide +kernel
theorem d_M_playback_17 : decode b_M_playback 17 = .ok (.iload_n 2, 1) := by decide +kernel
theorem d_M_playback_18 : decode b_M_playback 18 = .ok (.bipush 7, 2) := by decide +kernel
theorem d_M_playback_20 : decode b_M_playback 20 = .ok (.if_icmp .le 13, 3) := by decide +kernel
theorem d_M_playback_23 : decode b_M_playback 23 = .ok (.iload_n 2, 1) := by decide +kernel
theorem d_M_playback_24 : decode b_M_playback 24 = .ok (.bipush 72, 2) := by decide +kernel
theorem d_M_playback_26 : decode b_M_playback 26 = .ok (.if_icmp .ge 7, 3) := by decide +kernel
theorem d_M_playback_29 : decode b_M_playback 29 = .ok (.iconst 0, 1) := by decide +kernel
theorem d_M_playback_30 : decode b_M_playback 30 = .ok (.goto 4, 3) := by decide +kernel
theorem d_M_playback_33 : decode b_M_playback 33 = .ok (.iconst 1, 1) := by decide +kernel
theorem d_M_playback_34 : decode b_M_playback 34 = .ok (.putfield 75, 3) := by decide +kernel
theorem d_M_playback_37 : decode b_M_playback 37 = .ok (.aload_n 0, 1) := by decide +kernel
theorem d_M_playback_38 : decode b_M_playback 38 = .ok (.getfield 75, 3) := by decide +kernel
theorem d_M_playback_41 : decode b_M_playback 41 = .ok (.ifCond .le 5, 3) := by decide +kernel
theorem d_M_playback_44 : decode b_M_playback 44 = .ok (.iconst 0, 1) := by decide +kernel
theorem d_M_playback_45 : decode b_M_playback 45 = .ok (.ireturn, 1) := by decide +kernel
theorem d_M_playback_46 : decode b_M_playback 46 = .ok (.iload_n 2, 1) := by decide +kernel
theorem d_M_playback_47 : decode b_M_playback 47 = .ok (.tableswitch 68 0 4 #[33, 40, 47, 54, 61], 33) := by decide +kernel
theorem d_M_playback_80 : decode b_M_playback 80 = .ok (.aload_n 0, 1) := by decide +kernel
theorem d_M_playback_81 : decode b_M_playback 81 = .ok (.getfield 45, 3) := by decide +kernel
theorem d_M_playback_84 : decode b_M_playback 84 = .ok (.iload_n 1, 1) := by decide +kernel
theorem d_M_playback_85 : decode b_M_playback 85 = .ok (.iaload, 1) := by decide +kernel
theorem d_M_playback_86 : decode b_M_playback 86 = .ok (.ireturn, 1) := by decide +kernel
theorem d_M_playback_87 : decode b_M_playback 87 = .ok (.aload_n 0, 1) := by decide +kernel
theorem d_M_playback_88 : decode b_M_playback 88 = .ok (.getfield 51, 3) := by decide +kernel
theorem d_M_playback_91 : decode b_M_playback 91 = .ok (.iload_n 1, 1) := by decide +kernel
theorem d_M_playback_92 : decode b_M_playback 92 = .ok (.iaload, 1) := by decide +kernel
theorem d_M_playback_93 : decode b_M_playback 93 = .ok (.ireturn, 1) := by decide +kernel
theorem d_M_playback_94 : decode b_M_playback 94 = .ok (.aload_n 0, 1) := by decide +kernel
theorem d_M_playback_95 : decode b_M_playback 95 = .ok (.getfield 48, 3) := by decide +kernel
theorem d_M_playback_98 : decode b_M_playback 98 = .ok (.iload_n 1, 1) := by decide +kernel
theorem d_M_playback_99 : decode b_M_playback 99 = .ok (.iaload, 1) := by decide +kernel
theorem d_M_playback_100 : decode b_M_playback 100 = .ok (.ireturn, 1) := by decide +kernel
theorem d_M_playback_101 : decode b_M_playback 101 = .ok (.aload_n 0, 1) := by decide +kernel
theorem d_M_playback_102 : decode b_M_playback 102 = .ok (.getfield 54, 3) := by decide +kernel
theorem d_M_playback_105 : decode b_M_playback 105 = .ok (.iload_n 1, 1) := by decide +kernel
theorem d_M_playback_106 : decode b_M_playback 106 = .ok (.iaload, 1) := by decide +kernel
theorem d_M_playback_107 : decode b_M_playback 107 = .ok (.ireturn, 1) := by decide +kernel
theorem d_M_playback_108 : decode b_M_playback 108 = .ok (.aload_n 0, 1) := by decide +kernel
theorem d_M_playback_109 : decode b_M_playback 109 = .ok (.getfield 57, 3) := by decide +kernel
theorem d_M_playback_112 : decode b_M_playback 112 = .ok (.iload_n 1, 1) := by decide +kernel
theorem d_M_playback_113 : decode b_M_playback 113 = .ok (.iaload, 1) := by decide +kernel
theorem d_M_playback_114 : decode b_M_playback 114 = .ok (.ireturn, 1) := by decide +kernel
theorem d_M_playback_115 : decode b_M_playback 115 = .ok (.aload_n 0, 1) := by decide +kernel
theorem d_M_playback_116 : decode b_M_playback 116 = .ok (.iload_n 1, 1) := by decide +kernel
theorem d_M_playback_117 : decode b_M_playback 117 = .ok (.iload_n 2, 1) := by decide +kernel
theorem d_M_playback_118 : decode b_M_playback 118 = .ok (.bipush 8, 2) := by decide +kernel
theorem d_M_playback_120 : decode b_M_playback 120 = .ok (.isub, 1) := by decide +kernel
theorem d_M_playback_121 : decode b_M_playback 121 = .ok (.aload_n 0, 1) := by decide +kernel
theorem d_M_playback_122 : decode b_M_playback 122 = .ok (.getfield 160, 3) := by decide +kernel
theorem d_M_playback_125 : decode b_M_playback 125 = .ok (.invokevirtual 151, 3) := by decide +kernel
theorem d_M_playback_128 : decode b_M_playback 128 = .ok (.ireturn, 1) := by decide +kernel
theorem d_M_count_0 : decode b_M_count 0 = .ok (.aload_n 0, 1) := by decide +kernel
theorem d_M_count_1 : decode b_M_count 1 = .ok (.iconst 0, 1) := by decide +kernel
theorem d_M_count_2 : decode b_M_count 2 = .ok (.putfield 75, 3) := by decide +kernel
theorem d_M_count_5 : decode b_M_count 5 = .ok (.iconst 0, 1) := by decide +kernel
theorem d_M_count_6 : decode b_M_count 6 = .ok (.istore_n 2, 1) := by decide +kernel
theorem d_M_count_7 : decode b_M_count 7 = .ok (.iconst 0, 1) := by decide +kernel
theorem d_M_count_8 : decode b_M_count 8 = .ok (.istore_n 3, 1) := by decide +kernel
theorem d_M_count_9 : decode b_M_count 9 = .ok (.iload_n 3, 1) := by decide +kernel
theorem d_M_count_10 : decode b_M_count 10 = .ok (.bipush 64, 2) := by decide +kernel
theorem d_M_count_12 : decode b_M_count 12 = .ok (.if_icmp .ge 27, 3) := by decide +kernel
theorem d_M_count_15 : decode b_M_count 15 = .ok (.iload_n 2, 1) := by decide +kernel
theorem d_M_count_16 : decode b_M_count 16 = .ok (.aload_n 0, 1) := by decide +kernel
theorem d_M_count_17 : decode b_M_count 17 = .ok (.getfield 13, 3) := by decide +kernel
theorem d_M_count_20 : decode b_M_count 20 = .ok (.iload_n 3, 1) := by decide +kernel
theorem d_M_count_21 : decode b_M_count 21 = .ok (.saload, 1) := by decide +kernel
theorem d_M_count_22 : decode b_M_count 22 = .ok (.iconst (-1), 1) := by decide +kernel
theorem d_M_count_23 : decode b_M_count 23 = .ok (.if_icmp .eq 7, 3) := by decide +kernel
theorem d_M_count_26 : decode b_M_count 26 = .ok (.iconst 1, 1) := by decide +kernel
theorem d_M_count_27 : decode b_M_count 27 = .ok (.goto 4, 3) := by decide +kernel
theorem d_M_count_30 : decode b_M_count 30 = .ok (.iconst 0, 1) := by decide +kernel
theorem d_M_count_31 : decode b_M_count 31 = .ok (.iadd, 1) := by decide +kernel
theorem d_M_count_32 : decode b_M_count 32 = .ok (.istore_n 2, 1) := by decide +kernel
theorem d_M_count_33 : decode b_M_count 33 = .ok (.iinc 3 1, 3) := by decide +kernel
theorem d_M_count_36 : decode b_M_count 36 = .ok (.goto (-27), 3) := by decide +kernel
theorem d_M_count_39 : decode b_M_count 39 = .ok (.iload_n 1, 1) := by decide +kernel
theorem d_M_count_40 : decode b_M_count 40 = .ok (.tableswitch 58 0 4 #[36, 41, 46, 48, 53], 36) := by decide +kernel
theorem d_M_count_76 : decode b_M_count 76 = .ok (.aload_n 0, 1) := by decide +kernel
theorem d_M_count_77 : decode b_M_count 77 = .ok (.invokevirtual 114, 3) := by decide +kernel
theorem d_M_count_80 : decode b_M_count 80 = .ok (.ireturn, 1) := by decide +kernel
theorem d_M_count_81 : decode b_M_count 81 = .ok (.aload_n 0, 1) := by decide +kernel
theorem d_M_count_82 : decode b_M_count 82 = .ok (.invokevirtual 118, 3) := by decide +kernel
theorem d_M_count_85 : decode b_M_count 85 = .ok (.ireturn, 1) := by decide +kernel
theorem d_M_count_86 : decode b_M_count 86 = .ok (.iload_n 2, 1) := by decide +kernel
theorem d_M_count_87 : decode b_M_count 87 = .ok (.ireturn, 1) := by decide +kernel
theorem d_M_count_88 : decode b_M_count 88 = .ok (.aload_n 0, 1) := by decide +kernel
theorem d_M_count_89 : decode b_M_count 89 = .ok (.getfield 160, 3) := by decide +kernel
theorem d_M_count_92 : decode b_M_count 92 = .ok (.ireturn, 1) := by decide +kernel
theorem d_M_count_93 : decode b_M_count 93 = .ok (.aload_n 0, 1) := by decide +kernel
theorem d_M_count_94 : decode b_M_count 94 = .ok (.getfield 154, 3) := by decide +kernel
theorem d_M_count_97 : decode b_M_count 97 = .ok (.ireturn, 1) := by decide +kernel
theorem d_M_count_98 : decode b_M_count 98 = .ok (.iconst (-1), 1) := by decide +kernel
theorem d_M_count_99 : decode b_M_count 99 = .ok (.ireturn, 1) := by decide +kernel
