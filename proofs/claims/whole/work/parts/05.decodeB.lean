theorem dX7_init_0 : decode cX7_init 0 = .ok (.aload_n 0, 1) := by decide +kernel
theorem dX7_init_1 : decode cX7_init 1 = .ok (.invokespecial 1, 3) := by decide +kernel
theorem dX7_init_4 : decode cX7_init 4 = .ok (.aload_n 0, 1) := by decide +kernel
theorem dX7_init_5 : decode cX7_init 5 = .ok (.bipush 90, 2) := by decide +kernel
theorem dX7_init_7 : decode cX7_init 7 = .ok (.newarray .char, 2) := by decide +kernel
theorem dX7_init_9 : decode cX7_init 9 = .ok (.putfield 7, 3) := by decide +kernel
theorem dX7_init_12 : decode cX7_init 12 = .ok (.aload_n 0, 1) := by decide +kernel
theorem dX7_init_13 : decode cX7_init 13 = .ok (.bipush 90, 2) := by decide +kernel
theorem dX7_init_15 : decode cX7_init 15 = .ok (.newarray .char, 2) := by decide +kernel
theorem dX7_init_17 : decode cX7_init 17 = .ok (.putfield 13, 3) := by decide +kernel
theorem dX7_init_20 : decode cX7_init 20 = .ok (.aload_n 0, 1) := by decide +kernel
theorem dX7_init_21 : decode cX7_init 21 = .ok (.iconst (-1), 1) := by decide +kernel
theorem dX7_init_22 : decode cX7_init 22 = .ok (.putfield 16, 3) := by decide +kernel
theorem dX7_init_25 : decode cX7_init 25 = .ok (.aload_n 0, 1) := by decide +kernel
theorem dX7_init_26 : decode cX7_init 26 = .ok (.sipush 300, 3) := by decide +kernel
theorem dX7_init_29 : decode cX7_init 29 = .ok (.newarray .int, 2) := by decide +kernel
theorem dX7_init_31 : decode cX7_init 31 = .ok (.putfield 20, 3) := by decide +kernel
theorem dX7_init_34 : decode cX7_init 34 = .ok (.aload_n 0, 1) := by decide +kernel
theorem dX7_init_35 : decode cX7_init 35 = .ok (.sipush 300, 3) := by decide +kernel
theorem dX7_init_38 : decode cX7_init 38 = .ok (.newarray .int, 2) := by decide +kernel
theorem dX7_init_40 : decode cX7_init 40 = .ok (.putfield 24, 3) := by decide +kernel
theorem dX7_init_43 : decode cX7_init 43 = .ok (.aload_n 0, 1) := by decide +kernel
theorem dX7_init_44 : decode cX7_init 44 = .ok (.sipush 300, 3) := by decide +kernel
theorem dX7_init_47 : decode cX7_init 47 = .ok (.newarray .int, 2) := by decide +kernel
theorem dX7_init_49 : decode cX7_init 49 = .ok (.putfield 27, 3) := by decide +kernel
theorem dX7_init_52 : decode cX7_init 52 = .ok (.aload_n 0, 1) := by decide +kernel
theorem dX7_init_53 : decode cX7_init 53 = .ok (.sipush 300, 3) := by decide +kernel
theorem dX7_init_56 : decode cX7_init 56 = .ok (.newarray .int, 2) := by decide +kernel
theorem dX7_init_58 : decode cX7_init 58 = .ok (.putfield 30, 3) := by decide +kernel
theorem dX7_init_61 : decode cX7_init 61 = .ok (.aload_n 0, 1) := by decide +kernel
theorem dX7_init_62 : decode cX7_init 62 = .ok (.sipush 300, 3) := by decide +kernel
theorem dX7_init_65 : decode cX7_init 65 = .ok (.newarray .int, 2) := by decide +kernel
theorem dX7_init_67 : decode cX7_init 67 = .ok (.putfield 33, 3) := by decide +kernel
theorem dX7_init_70 : decode cX7_init 70 = .ok (.aload_n 0, 1) := by decide +kernel
theorem dX7_init_71 : decode cX7_init 71 = .ok (.sipush 300, 3) := by decide +kernel
theorem dX7_init_74 : decode cX7_init 74 = .ok (.newarray .boolean, 2) := by decide +kernel
theorem dX7_init_76 : decode cX7_init 76 = .ok (.putfield 36, 3) := by decide +kernel
theorem dX7_init_79 : decode cX7_init 79 = .ok (.aload_n 0, 1) := by decide +kernel
theorem dX7_init_80 : decode cX7_init 80 = .ok (.bipush 100, 2) := by decide +kernel
theorem dX7_init_82 : decode cX7_init 82 = .ok (.newarray .char, 2) := by decide +kernel
theorem dX7_init_84 : decode cX7_init 84 = .ok (.putfield 40, 3) := by decide +kernel
theorem dX7_init_87 : decode cX7_init 87 = .ok (.aload_n 0, 1) := by decide +kernel
theorem dX7_init_88 : decode cX7_init 88 = .ok (.bipush 8, 2) := by decide +kernel
theorem dX7_init_90 : decode cX7_init 90 = .ok (.newarray .int, 2) := by decide +kernel
theorem dX7_init_92 : decode cX7_init 92 = .ok (.putfield 43, 3) := by decide +kernel
theorem dX7_init_95 : decode cX7_init 95 = .ok (.aload_n 0, 1) := by decide +kernel
theorem dX7_init_96 : decode cX7_init 96 = .ok (.bipush 8, 2) := by decide +kernel
theorem dX7_init_98 : decode cX7_init 98 = .ok (.newarray .int, 2) := by decide +kernel
theorem dX7_init_100 : decode cX7_init 100 = .ok (.putfield 46, 3) := by decide +kernel
theorem dX7_init_103 : decode cX7_init 103 = .ok (.aload_n 0, 1) := by decide +kernel
theorem dX7_init_104 : decode cX7_init 104 = .ok (.bipush 8, 2) := by decide +kernel
theorem dX7_init_106 : decode cX7_init 106 = .ok (.newarray .int, 2) := by decide +kernel
theorem dX7_init_108 : decode cX7_init 108 = .ok (.putfield 49, 3) := by decide +kernel
theorem dX7_init_111 : decode cX7_init 111 = .ok (.aload_n 0, 1) := by decide +kernel
theorem dX7_init_112 : decode cX7_init 112 = .ok (.bipush 8, 2) := by decide +kernel
theorem dX7_init_114 : decode cX7_init 114 = .ok (.newarray .int, 2) := by decide +kernel
theorem dX7_init_116 : decode cX7_init 116 = .ok (.putfield 52, 3) := by decide +kernel
theorem dX7_init_119 : decode cX7_init 119 = .ok (.aload_n 0, 1) := by decide +kernel
theorem dX7_init_120 : decode cX7_init 120 = .ok (.bipush 8, 2) := by decide +kernel
theorem dX7_init_122 : decode cX7_init 122 = .ok (.newarray .int, 2) := by decide +kernel
theorem dX7_init_124 : decode cX7_init 124 = .ok (.putfield 55, 3) := by decide +kernel
theorem dX7_init_127 : decode cX7_init 127 = .ok (.aload_n 0, 1) := by decide +kernel
theorem dX7_init_128 : decode cX7_init 128 = .ok (.bipush 8, 2) := by decide +kernel
theorem dX7_init_130 : decode cX7_init 130 = .ok (.newarray .char, 2) := by decide +kernel
theorem dX7_init_132 : decode cX7_init 132 = .ok (.putfield 58, 3) := by decide +kernel
theorem dX7_init_135 : decode cX7_init 135 = .ok (.aload_n 0, 1) := by decide +kernel
theorem dX7_init_136 : decode cX7_init 136 = .ok (.bipush 8, 2) := by decide +kernel
theorem dX7_init_138 : decode cX7_init 138 = .ok (.newarray .boolean, 2) := by decide +kernel
theorem dX7_init_140 : decode cX7_init 140 = .ok (.putfield 61, 3) := by decide +kernel
theorem dX7_init_143 : decode cX7_init 143 = .ok (.aload_n 0, 1) := by decide +kernel
theorem dX7_init_144 : decode cX7_init 144 = .ok (.bipush 8, 2) := by decide +kernel
theorem dX7_init_146 : decode cX7_init 146 = .ok (.newarray .int, 2) := by decide +kernel
theorem dX7_init_148 : decode cX7_init 148 = .ok (.putfield 64, 3) := by decide +kernel
theorem dX7_init_151 : decode cX7_init 151 = .ok (.aload_n 0, 1) := by decide +kernel
theorem dX7_init_152 : decode cX7_init 152 = .ok (.bipush 60, 2) := by decide +kernel
theorem dX7_init_154 : decode cX7_init 154 = .ok (.newarray .int, 2) := by decide +kernel
theorem dX7_init_156 : decode cX7_init 156 = .ok (.putfield 67, 3) := by decide +kernel
theorem dX7_init_159 : decode cX7_init 159 = .ok (.aload_n 0, 1) := by decide +kernel
theorem dX7_init_160 : decode cX7_init 160 = .ok (.bipush 60, 2) := by decide +kernel
theorem dX7_init_162 : decode cX7_init 162 = .ok (.newarray .int, 2) := by decide +kernel
theorem dX7_init_164 : decode cX7_init 164 = .ok (.putfield 70, 3) := by decide +kernel
theorem dX7_init_167 : decode cX7_init 167 = .ok (.aload_n 0, 1) := by decide +kernel
theorem dX7_init_168 : decode cX7_init 168 = .ok (.bipush 100, 2) := by decide +kernel
theorem dX7_init_170 : decode cX7_init 170 = .ok (.newarray .int, 2) := by decide +kernel
theorem dX7_init_172 : decode cX7_init 172 = .ok (.putfield 73, 3) := by decide +kernel
theorem dX7_init_175 : decode cX7_init 175 = .ok (.aload_n 0, 1) := by decide +kernel
theorem dX7_init_176 : decode cX7_init 176 = .ok (.bipush 100, 2) := by decide +kernel
theorem dX7_init_178 : decode cX7_init 178 = .ok (.newarray .char, 2) := by decide +kernel
theorem dX7_init_180 : decode cX7_init 180 = .ok (.putfield 76, 3) := by decide +kernel
theorem dX7_init_183 : decode cX7_init 183 = .ok (.aload_n 0, 1) := by decide +kernel
theorem dX7_init_184 : decode cX7_init 184 = .ok (.sipush 372, 3) := by decide +kernel
theorem dX7_init_187 : decode cX7_init 187 = .ok (.newarray .int, 2) := by decide +kernel
theorem dX7_init_189 : decode cX7_init 189 = .ok (.putfield 79, 3) := by decide +kernel
theorem dX7_init_192 : decode cX7_init 192 = .ok (.aload_n 0, 1) := by decide +kernel
theorem dX7_init_193 : decode cX7_init 193 = .ok (.sipush 372, 3) := by decide +kernel
theorem dX7_init_196 : decode cX7_init 196 = .ok (.newarray .int, 2) := by decide +kernel
theorem dX7_init_198 : decode cX7_init 198 = .ok (.putfield 82, 3) := by decide +kernel
theorem dX7_init_201 : decode cX7_init 201 = .ok (.aload_n 0, 1) := by decide +kernel
theorem dX7_init_202 : decode cX7_init 202 = .ok (.sipush 600, 3) := by decide +kernel
theorem dX7_init_205 : decode cX7_init 205 = .ok (.newarray .int, 2) := by decide +kernel
theorem dX7_init_207 : decode cX7_init 207 = .ok (.putfield 85, 3) := by decide +kernel
theorem dX7_init_210 : decode cX7_init 210 = .ok (.aload_n 0, 1) := by decide +kernel
theorem dX7_init_211 : decode cX7_init 211 = .ok (.sipush 600, 3) := by decide +kernel
theorem dX7_init_214 : decode cX7_init 214 = .ok (.newarray .int, 2) := by decide +kernel
theorem dX7_init_216 : decode cX7_init 216 = .ok (.putfield 88, 3) := by decide +kernel
theorem dX7_init_219 : decode cX7_init 219 = .ok (.aload_n 0, 1) := by decide +kernel
theorem dX7_init_220 : decode cX7_init 220 = .ok (.sipush 600, 3) := by decide +kernel
theorem dX7_init_223 : decode cX7_init 223 = .ok (.newarray .int, 2) := by decide +kernel
theorem dX7_init_225 : decode cX7_init 225 = .ok (.putfield 91, 3) := by decide +kernel
theorem dX7_init_228 : decode cX7_init 228 = .ok (.aload_n 0, 1) := by decide +kernel
theorem dX7_init_229 : decode cX7_init 229 = .ok (.sipush 400, 3) := by decide +kernel
theorem dX7_init_232 : decode cX7_init 232 = .ok (.newarray .int, 2) := by decide +kernel
theorem dX7_init_234 : decode cX7_init 234 = .ok (.putfield 94, 3) := by decide +kernel
theorem dX7_init_237 : decode cX7_init 237 = .ok (.aload_n 0, 1) := by decide +kernel
theorem dX7_init_238 : decode cX7_init 238 = .ok (.sipush 400, 3) := by decide +kernel
theorem dX7_init_241 : decode cX7_init 241 = .ok (.newarray .int, 2) := by decide +kernel
theorem dX7_init_243 : decode cX7_init 243 = .ok (.putfield 97, 3) := by decide +kernel
theorem dX7_init_246 : decode cX7_init 246 = .ok (.aload_n 0, 1) := by decide +kernel
theorem dX7_init_247 : decode cX7_init 247 = .ok (.iconst 1, 1) := by decide +kernel
theorem dX7_init_248 : decode cX7_init 248 = .ok (.putfield 100, 3) := by decide +kernel
theorem dX7_init_251 : decode cX7_init 251 = .ok (.aload_n 0, 1) := by decide +kernel
theorem dX7_init_252 : decode cX7_init 252 = .ok (.iconst 1, 1) := by decide +kernel
theorem dX7_init_253 : decode cX7_init 253 = .ok (.putfield 103, 3) := by decide +kernel
theorem dX7_init_256 : decode cX7_init 256 = .ok (.aload_n 0, 1) := by decide +kernel
theorem dX7_init_257 : decode cX7_init 257 = .ok (.bipush 40, 2) := by decide +kernel
theorem dX7_init_259 : decode cX7_init 259 = .ok (.newarray .int, 2) := by decide +kernel
theorem dX7_init_261 : decode cX7_init 261 = .ok (.putfield 106, 3) := by decide +kernel
theorem dX7_init_264 : decode cX7_init 264 = .ok (.aload_n 0, 1) := by decide +kernel
theorem dX7_init_265 : decode cX7_init 265 = .ok (.iload_n 1, 1) := by decide +kernel
theorem dX7_init_266 : decode cX7_init 266 = .ok (.bipush 20, 2) := by decide +kernel
theorem dX7_init_268 : decode cX7_init 268 = .ok (.if_icmp .ge 8, 3) := by decide +kernel
theorem dX7_init_271 : decode cX7_init 271 = .ok (.bipush 20, 2) := by decide +kernel
theorem dX7_init_273 : decode cX7_init 273 = .ok (.goto 17, 3) := by decide +kernel
theorem dX7_init_276 : decode cX7_init 276 = .ok (.iload_n 1, 1) := by decide +kernel
theorem dX7_init_277 : decode cX7_init 277 = .ok (.sipush 200, 3) := by decide +kernel
theorem dX7_init_280 : decode cX7_init 280 = .ok (.if_icmp .le 9, 3) := by decide +kernel
theorem dX7_init_283 : decode cX7_init 283 = .ok (.sipush 200, 3) := by decide +kernel
theorem dX7_init_286 : decode cX7_init 286 = .ok (.goto 4, 3) := by decide +kernel
theorem dX7_init_289 : decode cX7_init 289 = .ok (.iload_n 1, 1) := by decide +kernel
theorem dX7_init_290 : decode cX7_init 290 = .ok (.putfield 109, 3) := by decide +kernel
theorem dX7_init_293 : decode cX7_init 293 = .ok (.return_, 1) := by decide +kernel
theorem dX7_thrown_0 : decode cX7_thrown 0 = .ok (.aload_n 0, 1) := by decide +kernel
theorem dX7_thrown_1 : decode cX7_thrown 1 = .ok (.getfield 112, 3) := by decide +kernel
theorem dX7_thrown_4 : decode cX7_thrown 4 = .ok (.ireturn, 1) := by decide +kernel
theorem dX7_fail_0 : decode cX7_fail 0 = .ok (.aload_n 0, 1) := by decide +kernel
theorem dX7_fail_1 : decode cX7_fail 1 = .ok (.iload_n 1, 1) := by decide +kernel
theorem dX7_fail_2 : decode cX7_fail 2 = .ok (.putfield 112, 3) := by decide +kernel
theorem dX7_fail_5 : decode cX7_fail 5 = .ok (.iconst 0, 1) := by decide +kernel
theorem dX7_fail_6 : decode cX7_fail 6 = .ok (.ireturn, 1) := by decide +kernel
theorem dX7_write_0 : decode cX7_write 0 = .ok (.aload_n 0, 1) := by decide +kernel
theorem dX7_write_1 : decode cX7_write 1 = .ok (.iconst 0, 1) := by decide +kernel
theorem dX7_write_2 : decode cX7_write 2 = .ok (.putfield 112, 3) := by decide +kernel
theorem dX7_write_5 : decode cX7_write 5 = .ok (.iload_n 1, 1) := by decide +kernel
theorem dX7_write_6 : decode cX7_write 6 = .ok (.bipush 32, 2) := by decide +kernel
theorem dX7_write_8 : decode cX7_write 8 = .ok (.if_icmp .lt 18, 3) := by decide +kernel
theorem dX7_write_11 : decode cX7_write 11 = .ok (.iload_n 1, 1) := by decide +kernel
theorem dX7_write_12 : decode cX7_write 12 = .ok (.bipush 126, 2) := by decide +kernel
theorem dX7_write_14 : decode cX7_write 14 = .ok (.if_icmp .gt 12, 3) := by decide +kernel
theorem dX7_write_17 : decode cX7_write 17 = .ok (.aload_n 0, 1) := by decide +kernel
theorem dX7_write_18 : decode cX7_write 18 = .ok (.getfield 115, 3) := by decide +kernel
theorem dX7_write_21 : decode cX7_write 21 = .ok (.bipush 90, 2) := by decide +kernel
theorem dX7_write_23 : decode cX7_write 23 = .ok (.if_icmp .ne 5, 3) := by decide +kernel
theorem dX7_write_26 : decode cX7_write 26 = .ok (.iconst 0, 1) := by decide +kernel
theorem dX7_write_27 : decode cX7_write 27 = .ok (.ireturn, 1) := by decide +kernel
theorem dX7_write_28 : decode cX7_write 28 = .ok (.aload_n 0, 1) := by decide +kernel
theorem dX7_write_29 : decode cX7_write 29 = .ok (.getfield 7, 3) := by decide +kernel
theorem dX7_write_32 : decode cX7_write 32 = .ok (.aload_n 0, 1) := by decide +kernel
theorem dX7_write_33 : decode cX7_write 33 = .ok (.getfield 115, 3) := by decide +kernel
theorem dX7_write_36 : decode cX7_write 36 = .ok (.iload_n 1, 1) := by decide +kernel
theorem dX7_write_37 : decode cX7_write 37 = .ok (.castore, 1) := by decide +kernel
theorem dX7_write_38 : decode cX7_write 38 = .ok (.aload_n 0, 1) := by decide +kernel
theorem dX7_write_39 : decode cX7_write 39 = .ok (.dup, 1) := by decide +kernel
theorem dX7_write_40 : decode cX7_write 40 = .ok (.getfield 115, 3) := by decide +kernel
theorem dX7_write_43 : decode cX7_write 43 = .ok (.iconst 1, 1) := by decide +kernel
theorem dX7_write_44 : decode cX7_write 44 = .ok (.iadd, 1) := by decide +kernel
theorem dX7_write_45 : decode cX7_write 45 = .ok (.putfield 115, 3) := by decide +kernel
theorem dX7_write_48 : decode cX7_write 48 = .ok (.iconst 1, 1) := by decide +kernel
theorem dX7_write_49 : decode cX7_write 49 = .ok (.ireturn, 1) := by decide +kernel
theorem dX7_look_0 : decode cX7_look 0 = .ok (.aload_n 0, 1) := by decide +kernel
theorem dX7_look_1 : decode cX7_look 1 = .ok (.getfield 118, 3) := by decide +kernel
theorem dX7_look_4 : decode cX7_look 4 = .ok (.aload_n 0, 1) := by decide +kernel
theorem dX7_look_5 : decode cX7_look 5 = .ok (.getfield 121, 3) := by decide +kernel
theorem dX7_look_8 : decode cX7_look 8 = .ok (.if_icmp .ge 15, 3) := by decide +kernel
theorem dX7_look_11 : decode cX7_look 11 = .ok (.aload_n 0, 1) := by decide +kernel
theorem dX7_look_12 : decode cX7_look 12 = .ok (.getfield 13, 3) := by decide +kernel
theorem dX7_look_15 : decode cX7_look 15 = .ok (.aload_n 0, 1) := by decide +kernel
theorem dX7_look_16 : decode cX7_look 16 = .ok (.getfield 118, 3) := by decide +kernel
theorem dX7_look_19 : decode cX7_look 19 = .ok (.caload, 1) := by decide +kernel
theorem dX7_look_20 : decode cX7_look 20 = .ok (.goto 4, 3) := by decide +kernel
theorem dX7_look_23 : decode cX7_look 23 = .ok (.iconst 0, 1) := by decide +kernel
theorem dX7_look_24 : decode cX7_look 24 = .ok (.ireturn, 1) := by decide +kernel
theorem dX7_behind_0 : decode cX7_behind 0 = .ok (.aload_n 0, 1) := by decide +kernel
theorem dX7_behind_1 : decode cX7_behind 1 = .ok (.getfield 118, 3) := by decide +kernel
theorem dX7_behind_4 : decode cX7_behind 4 = .ok (.iconst 1, 1) := by decide +kernel
theorem dX7_behind_5 : decode cX7_behind 5 = .ok (.iadd, 1) := by decide +kernel
theorem dX7_behind_6 : decode cX7_behind 6 = .ok (.aload_n 0, 1) := by decide +kernel
theorem dX7_behind_7 : decode cX7_behind 7 = .ok (.getfield 121, 3) := by decide +kernel
theorem dX7_behind_10 : decode cX7_behind 10 = .ok (.if_icmp .ge 17, 3) := by decide +kernel
theorem dX7_behind_13 : decode cX7_behind 13 = .ok (.aload_n 0, 1) := by decide +kernel
theorem dX7_behind_14 : decode cX7_behind 14 = .ok (.getfield 13, 3) := by decide +kernel
theorem dX7_behind_17 : decode cX7_behind 17 = .ok (.aload_n 0, 1) := by decide +kernel
theorem dX7_behind_18 : decode cX7_behind 18 = .ok (.getfield 118, 3) := by decide +kernel
theorem dX7_behind_21 : decode cX7_behind 21 = .ok (.iconst 1, 1) := by decide +kernel
theorem dX7_behind_22 : decode cX7_behind 22 = .ok (.iadd, 1) := by decide +kernel
theorem dX7_behind_23 : decode cX7_behind 23 = .ok (.caload, 1) := by decide +kernel
theorem dX7_behind_24 : decode cX7_behind 24 = .ok (.goto 4, 3) := by decide +kernel
theorem dX7_behind_27 : decode cX7_behind 27 = .ok (.iconst 0, 1) := by decide +kernel
theorem dX7_behind_28 : decode cX7_behind 28 = .ok (.ireturn, 1) := by decide +kernel
theorem dX7_isName_0 : decode cX7_isName 0 = .ok (.iload_n 0, 1) := by decide +kernel
theorem dX7_isName_1 : decode cX7_isName 1 = .ok (.bipush 97, 2) := by decide +kernel
theorem dX7_isName_3 : decode cX7_isName 3 = .ok (.if_icmp .lt 13, 3) := by decide +kernel
theorem dX7_isName_6 : decode cX7_isName 6 = .ok (.iload_n 0, 1) := by decide +kernel
theorem dX7_isName_7 : decode cX7_isName 7 = .ok (.bipush 122, 2) := by decide +kernel
theorem dX7_isName_9 : decode cX7_isName 9 = .ok (.if_icmp .gt 7, 3) := by decide +kernel
theorem dX7_isName_12 : decode cX7_isName 12 = .ok (.iconst 1, 1) := by decide +kernel
theorem dX7_isName_13 : decode cX7_isName 13 = .ok (.goto 4, 3) := by decide +kernel
theorem dX7_isName_16 : decode cX7_isName 16 = .ok (.iconst 0, 1) := by decide +kernel
theorem dX7_isName_17 : decode cX7_isName 17 = .ok (.ireturn, 1) := by decide +kernel
theorem dX7_isDigit_0 : decode cX7_isDigit 0 = .ok (.iload_n 0, 1) := by decide +kernel
theorem dX7_isDigit_1 : decode cX7_isDigit 1 = .ok (.bipush 48, 2) := by decide +kernel
theorem dX7_isDigit_3 : decode cX7_isDigit 3 = .ok (.if_icmp .lt 13, 3) := by decide +kernel
theorem dX7_isDigit_6 : decode cX7_isDigit 6 = .ok (.iload_n 0, 1) := by decide +kernel
theorem dX7_isDigit_7 : decode cX7_isDigit 7 = .ok (.bipush 57, 2) := by decide +kernel
theorem dX7_isDigit_9 : decode cX7_isDigit 9 = .ok (.if_icmp .gt 7, 3) := by decide +kernel
theorem dX7_isDigit_12 : decode cX7_isDigit 12 = .ok (.iconst 1, 1) := by decide +kernel
theorem dX7_isDigit_13 : decode cX7_isDigit 13 = .ok (.goto 4, 3) := by decide +kernel
theorem dX7_isDigit_16 : decode cX7_isDigit 16 = .ok (.iconst 0, 1) := by decide +kernel
theorem dX7_isDigit_17 : decode cX7_isDigit 17 = .ok (.ireturn, 1) := by decide +kernel
theorem dX7_isConstructor_0 : decode cX7_isConstructor 0 = .ok (.iload_n 0, 1) := by decide +kernel
theorem dX7_isConstructor_1 : decode cX7_isConstructor 1 = .ok (.bipush 65, 2) := by decide +kernel
theorem dX7_isConstructor_3 : decode cX7_isConstructor 3 = .ok (.if_icmp .lt 13, 3) := by decide +kernel
theorem dX7_isConstructor_6 : decode cX7_isConstructor 6 = .ok (.iload_n 0, 1) := by decide +kernel
theorem dX7_isConstructor_7 : decode cX7_isConstructor 7 = .ok (.bipush 72, 2) := by decide +kernel
theorem dX7_isConstructor_9 : decode cX7_isConstructor 9 = .ok (.if_icmp .gt 7, 3) := by decide +kernel
theorem dX7_isConstructor_12 : decode cX7_isConstructor 12 = .ok (.iconst 1, 1) := by decide +kernel
theorem dX7_isConstructor_13 : decode cX7_isConstructor 13 = .ok (.goto 4, 3) := by decide +kernel
theorem dX7_isConstructor_16 : decode cX7_isConstructor 16 = .ok (.iconst 0, 1) := by decide +kernel
theorem dX7_isConstructor_17 : decode cX7_isConstructor 17 = .ok (.ireturn, 1) := by decide +kernel
theorem dX7_beginsAtom_0 : decode cX7_beginsAtom 0 = .ok (.iload_n 0, 1) := by decide +kernel
theorem dX7_beginsAtom_1 : decode cX7_beginsAtom 1 = .ok (.invokestatic 124, 3) := by decide +kernel
theorem dX7_beginsAtom_4 : decode cX7_beginsAtom 4 = .ok (.ifCond .ne 23, 3) := by decide +kernel
theorem dX7_beginsAtom_7 : decode cX7_beginsAtom 7 = .ok (.iload_n 0, 1) := by decide +kernel
theorem dX7_beginsAtom_8 : decode cX7_beginsAtom 8 = .ok (.invokestatic 128, 3) := by decide +kernel
theorem dX7_beginsAtom_11 : decode cX7_beginsAtom 11 = .ok (.ifCond .ne 16, 3) := by decide +kernel
theorem dX7_beginsAtom_14 : decode cX7_beginsAtom 14 = .ok (.iload_n 0, 1) := by decide +kernel
theorem dX7_beginsAtom_15 : decode cX7_beginsAtom 15 = .ok (.invokestatic 131, 3) := by decide +kernel
theorem dX7_beginsAtom_18 : decode cX7_beginsAtom 18 = .ok (.ifCond .ne 9, 3) := by decide +kernel
theorem dX7_beginsAtom_21 : decode cX7_beginsAtom 21 = .ok (.iload_n 0, 1) := by decide +kernel
theorem dX7_beginsAtom_22 : decode cX7_beginsAtom 22 = .ok (.bipush 40, 2) := by decide +kernel
theorem dX7_beginsAtom_24 : decode cX7_beginsAtom 24 = .ok (.if_icmp .ne 7, 3) := by decide +kernel
theorem dX7_beginsAtom_27 : decode cX7_beginsAtom 27 = .ok (.iconst 1, 1) := by decide +kernel
theorem dX7_beginsAtom_28 : decode cX7_beginsAtom 28 = .ok (.goto 4, 3) := by decide +kernel
theorem dX7_beginsAtom_31 : decode cX7_beginsAtom 31 = .ok (.iconst 0, 1) := by decide +kernel
theorem dX7_beginsAtom_32 : decode cX7_beginsAtom 32 = .ok (.ireturn, 1) := by decide +kernel
theorem dX7_want_0 : decode cX7_want 0 = .ok (.aload_n 0, 1) := by decide +kernel
theorem dX7_want_1 : decode cX7_want 1 = .ok (.invokevirtual 134, 3) := by decide +kernel
theorem dX7_want_4 : decode cX7_want 4 = .ok (.iload_n 1, 1) := by decide +kernel
theorem dX7_want_5 : decode cX7_want 5 = .ok (.if_icmp .eq 8, 3) := by decide +kernel
theorem dX7_want_8 : decode cX7_want 8 = .ok (.aload_n 0, 1) := by decide +kernel
theorem dX7_want_9 : decode cX7_want 9 = .ok (.iconst 1, 1) := by decide +kernel
theorem dX7_want_10 : decode cX7_want 10 = .ok (.putfield 138, 3) := by decide +kernel
theorem dX7_want_13 : decode cX7_want 13 = .ok (.aload_n 0, 1) := by decide +kernel
theorem dX7_want_14 : decode cX7_want 14 = .ok (.getfield 138, 3) := by decide +kernel
theorem dX7_want_17 : decode cX7_want 17 = .ok (.ifCond .ne 13, 3) := by decide +kernel
theorem dX7_want_20 : decode cX7_want 20 = .ok (.aload_n 0, 1) := by decide +kernel
theorem dX7_want_21 : decode cX7_want 21 = .ok (.dup, 1) := by decide +kernel
theorem dX7_want_22 : decode cX7_want 22 = .ok (.getfield 118, 3) := by decide +kernel
theorem dX7_want_25 : decode cX7_want 25 = .ok (.iconst 1, 1) := by decide +kernel
theorem dX7_want_26 : decode cX7_want 26 = .ok (.iadd, 1) := by decide +kernel
theorem dX7_want_27 : decode cX7_want 27 = .ok (.putfield 118, 3) := by decide +kernel
theorem dX7_want_30 : decode cX7_want 30 = .ok (.return_, 1) := by decide +kernel
theorem dX7_wantName_0 : decode cX7_wantName 0 = .ok (.aload_n 0, 1) := by decide +kernel
theorem dX7_wantName_1 : decode cX7_wantName 1 = .ok (.invokevirtual 134, 3) := by decide +kernel
theorem dX7_wantName_4 : decode cX7_wantName 4 = .ok (.istore_n 1, 1) := by decide +kernel
theorem dX7_wantName_5 : decode cX7_wantName 5 = .ok (.iload_n 1, 1) := by decide +kernel
theorem dX7_wantName_6 : decode cX7_wantName 6 = .ok (.invokestatic 124, 3) := by decide +kernel
theorem dX7_wantName_9 : decode cX7_wantName 9 = .ok (.ifCond .ne 8, 3) := by decide +kernel
theorem dX7_wantName_12 : decode cX7_wantName 12 = .ok (.aload_n 0, 1) := by decide +kernel
theorem dX7_wantName_13 : decode cX7_wantName 13 = .ok (.iconst 1, 1) := by decide +kernel
theorem dX7_wantName_14 : decode cX7_wantName 14 = .ok (.putfield 138, 3) := by decide +kernel
theorem dX7_wantName_17 : decode cX7_wantName 17 = .ok (.aload_n 0, 1) := by decide +kernel
theorem dX7_wantName_18 : decode cX7_wantName 18 = .ok (.getfield 138, 3) := by decide +kernel
theorem dX7_wantName_21 : decode cX7_wantName 21 = .ok (.ifCond .eq 5, 3) := by decide +kernel
theorem dX7_wantName_24 : decode cX7_wantName 24 = .ok (.iconst 0, 1) := by decide +kernel
theorem dX7_wantName_25 : decode cX7_wantName 25 = .ok (.ireturn, 1) := by decide +kernel
theorem dX7_wantName_26 : decode cX7_wantName 26 = .ok (.aload_n 0, 1) := by decide +kernel
theorem dX7_wantName_27 : decode cX7_wantName 27 = .ok (.dup, 1) := by decide +kernel
theorem dX7_wantName_28 : decode cX7_wantName 28 = .ok (.getfield 118, 3) := by decide +kernel
theorem dX7_wantName_31 : decode cX7_wantName 31 = .ok (.iconst 1, 1) := by decide +kernel
theorem dX7_wantName_32 : decode cX7_wantName 32 = .ok (.iadd, 1) := by decide +kernel
theorem dX7_wantName_33 : decode cX7_wantName 33 = .ok (.putfield 118, 3) := by decide +kernel
theorem dX7_wantName_36 : decode cX7_wantName 36 = .ok (.iload_n 1, 1) := by decide +kernel
theorem dX7_wantName_37 : decode cX7_wantName 37 = .ok (.ireturn, 1) := by decide +kernel
theorem dX7_node_0 : decode cX7_node 0 = .ok (.aload_n 0, 1) := by decide +kernel
theorem dX7_node_1 : decode cX7_node 1 = .ok (.getfield 142, 3) := by decide +kernel
theorem dX7_node_4 : decode cX7_node 4 = .ok (.istore_n 3, 1) := by decide +kernel
theorem dX7_node_5 : decode cX7_node 5 = .ok (.aload_n 0, 1) := by decide +kernel
theorem dX7_node_6 : decode cX7_node 6 = .ok (.dup, 1) := by decide +kernel
theorem dX7_node_7 : decode cX7_node 7 = .ok (.getfield 142, 3) := by decide +kernel
theorem dX7_node_10 : decode cX7_node 10 = .ok (.iconst 1, 1) := by decide +kernel
theorem dX7_node_11 : decode cX7_node 11 = .ok (.iadd, 1) := by decide +kernel
theorem dX7_node_12 : decode cX7_node 12 = .ok (.putfield 142, 3) := by decide +kernel
theorem dX7_node_15 : decode cX7_node 15 = .ok (.aload_n 0, 1) := by decide +kernel
theorem dX7_node_16 : decode cX7_node 16 = .ok (.getfield 20, 3) := by decide +kernel
theorem dX7_node_19 : decode cX7_node 19 = .ok (.iload_n 3, 1) := by decide +kernel
theorem dX7_node_20 : decode cX7_node 20 = .ok (.iload_n 1, 1) := by decide +kernel
theorem dX7_node_21 : decode cX7_node 21 = .ok (.iastore, 1) := by decide +kernel
theorem dX7_node_22 : decode cX7_node 22 = .ok (.aload_n 0, 1) := by decide +kernel
theorem dX7_node_23 : decode cX7_node 23 = .ok (.getfield 24, 3) := by decide +kernel
theorem dX7_node_26 : decode cX7_node 26 = .ok (.iload_n 3, 1) := by decide +kernel
theorem dX7_node_27 : decode cX7_node 27 = .ok (.iload_n 2, 1) := by decide +kernel
theorem dX7_node_28 : decode cX7_node 28 = .ok (.iastore, 1) := by decide +kernel
theorem dX7_node_29 : decode cX7_node 29 = .ok (.aload_n 0, 1) := by decide +kernel
theorem dX7_node_30 : decode cX7_node 30 = .ok (.getfield 27, 3) := by decide +kernel
theorem dX7_node_33 : decode cX7_node 33 = .ok (.iload_n 3, 1) := by decide +kernel
theorem dX7_node_34 : decode cX7_node 34 = .ok (.iconst (-1), 1) := by decide +kernel
theorem dX7_node_35 : decode cX7_node 35 = .ok (.iastore, 1) := by decide +kernel
theorem dX7_node_36 : decode cX7_node 36 = .ok (.aload_n 0, 1) := by decide +kernel
theorem dX7_node_37 : decode cX7_node 37 = .ok (.getfield 30, 3) := by decide +kernel
theorem dX7_node_40 : decode cX7_node 40 = .ok (.iload_n 3, 1) := by decide +kernel
theorem dX7_node_41 : decode cX7_node 41 = .ok (.iconst (-1), 1) := by decide +kernel
theorem dX7_node_42 : decode cX7_node 42 = .ok (.iastore, 1) := by decide +kernel
theorem dX7_node_43 : decode cX7_node 43 = .ok (.aload_n 0, 1) := by decide +kernel
theorem dX7_node_44 : decode cX7_node 44 = .ok (.getfield 33, 3) := by decide +kernel
theorem dX7_node_47 : decode cX7_node 47 = .ok (.iload_n 3, 1) := by decide +kernel
theorem dX7_node_48 : decode cX7_node 48 = .ok (.iconst 0, 1) := by decide +kernel
theorem dX7_node_49 : decode cX7_node 49 = .ok (.iastore, 1) := by decide +kernel
theorem dX7_node_50 : decode cX7_node 50 = .ok (.aload_n 0, 1) := by decide +kernel
theorem dX7_node_51 : decode cX7_node 51 = .ok (.getfield 36, 3) := by decide +kernel
theorem dX7_node_54 : decode cX7_node 54 = .ok (.iload_n 3, 1) := by decide +kernel
theorem dX7_node_55 : decode cX7_node 55 = .ok (.iconst 0, 1) := by decide +kernel
theorem dX7_node_56 : decode cX7_node 56 = .ok (.bastore, 1) := by decide +kernel
theorem dX7_node_57 : decode cX7_node 57 = .ok (.iload_n 3, 1) := by decide +kernel
theorem dX7_node_58 : decode cX7_node 58 = .ok (.ireturn, 1) := by decide +kernel
theorem dX7_addChild_0 : decode cX7_addChild 0 = .ok (.aload_n 0, 1) := by decide +kernel
theorem dX7_addChild_1 : decode cX7_addChild 1 = .ok (.getfield 33, 3) := by decide +kernel
theorem dX7_addChild_4 : decode cX7_addChild 4 = .ok (.iload_n 1, 1) := by decide +kernel
theorem dX7_addChild_5 : decode cX7_addChild 5 = .ok (.iaload, 1) := by decide +kernel
theorem dX7_addChild_6 : decode cX7_addChild 6 = .ok (.ifCond .ne 13, 3) := by decide +kernel
theorem dX7_addChild_9 : decode cX7_addChild 9 = .ok (.aload_n 0, 1) := by decide +kernel
theorem dX7_addChild_10 : decode cX7_addChild 10 = .ok (.getfield 27, 3) := by decide +kernel
theorem dX7_addChild_13 : decode cX7_addChild 13 = .ok (.iload_n 1, 1) := by decide +kernel
theorem dX7_addChild_14 : decode cX7_addChild 14 = .ok (.iload_n 2, 1) := by decide +kernel
theorem dX7_addChild_15 : decode cX7_addChild 15 = .ok (.iastore, 1) := by decide +kernel
theorem dX7_addChild_16 : decode cX7_addChild 16 = .ok (.goto 36, 3) := by decide +kernel
theorem dX7_addChild_19 : decode cX7_addChild 19 = .ok (.aload_n 0, 1) := by decide +kernel
theorem dX7_addChild_20 : decode cX7_addChild 20 = .ok (.getfield 27, 3) := by decide +kernel
theorem dX7_addChild_23 : decode cX7_addChild 23 = .ok (.iload_n 1, 1) := by decide +kernel
theorem dX7_addChild_24 : decode cX7_addChild 24 = .ok (.iaload, 1) := by decide +kernel
theorem dX7_addChild_25 : decode cX7_addChild 25 = .ok (.istore_n 3, 1) := by decide +kernel
theorem dX7_addChild_26 : decode cX7_addChild 26 = .ok (.aload_n 0, 1) := by decide +kernel
theorem dX7_addChild_27 : decode cX7_addChild 27 = .ok (.getfield 30, 3) := by decide +kernel
theorem dX7_addChild_30 : decode cX7_addChild 30 = .ok (.iload_n 3, 1) := by decide +kernel
theorem dX7_addChild_31 : decode cX7_addChild 31 = .ok (.iaload, 1) := by decide +kernel
theorem dX7_addChild_32 : decode cX7_addChild 32 = .ok (.ifCond .lt 13, 3) := by decide +kernel
theorem dX7_addChild_35 : decode cX7_addChild 35 = .ok (.aload_n 0, 1) := by decide +kernel
theorem dX7_addChild_36 : decode cX7_addChild 36 = .ok (.getfield 30, 3) := by decide +kernel
theorem dX7_addChild_39 : decode cX7_addChild 39 = .ok (.iload_n 3, 1) := by decide +kernel
theorem dX7_addChild_40 : decode cX7_addChild 40 = .ok (.iaload, 1) := by decide +kernel
theorem dX7_addChild_41 : decode cX7_addChild 41 = .ok (.istore_n 3, 1) := by decide +kernel
theorem dX7_addChild_42 : decode cX7_addChild 42 = .ok (.goto (-16), 3) := by decide +kernel
theorem dX7_addChild_45 : decode cX7_addChild 45 = .ok (.aload_n 0, 1) := by decide +kernel
theorem dX7_addChild_46 : decode cX7_addChild 46 = .ok (.getfield 30, 3) := by decide +kernel
theorem dX7_addChild_49 : decode cX7_addChild 49 = .ok (.iload_n 3, 1) := by decide +kernel
theorem dX7_addChild_50 : decode cX7_addChild 50 = .ok (.iload_n 2, 1) := by decide +kernel
theorem dX7_addChild_51 : decode cX7_addChild 51 = .ok (.iastore, 1) := by decide +kernel
theorem dX7_addChild_52 : decode cX7_addChild 52 = .ok (.aload_n 0, 1) := by decide +kernel
theorem dX7_addChild_53 : decode cX7_addChild 53 = .ok (.getfield 33, 3) := by decide +kernel
theorem dX7_addChild_56 : decode cX7_addChild 56 = .ok (.iload_n 1, 1) := by decide +kernel
theorem dX7_addChild_57 : decode cX7_addChild 57 = .ok (.dup2, 1) := by decide +kernel
theorem dX7_addChild_58 : decode cX7_addChild 58 = .ok (.iaload, 1) := by decide +kernel
theorem dX7_addChild_59 : decode cX7_addChild 59 = .ok (.iconst 1, 1) := by decide +kernel
theorem dX7_addChild_60 : decode cX7_addChild 60 = .ok (.iadd, 1) := by decide +kernel
theorem dX7_addChild_61 : decode cX7_addChild 61 = .ok (.iastore, 1) := by decide +kernel
theorem dX7_addChild_62 : decode cX7_addChild 62 = .ok (.return_, 1) := by decide +kernel
theorem dX7_childAt_0 : decode cX7_childAt 0 = .ok (.aload_n 0, 1) := by decide +kernel
theorem dX7_childAt_1 : decode cX7_childAt 1 = .ok (.getfield 27, 3) := by decide +kernel
theorem dX7_childAt_4 : decode cX7_childAt 4 = .ok (.iload_n 1, 1) := by decide +kernel
theorem dX7_childAt_5 : decode cX7_childAt 5 = .ok (.iaload, 1) := by decide +kernel
theorem dX7_childAt_6 : decode cX7_childAt 6 = .ok (.istore_n 3, 1) := by decide +kernel
theorem dX7_childAt_7 : decode cX7_childAt 7 = .ok (.iconst 0, 1) := by decide +kernel
theorem dX7_childAt_8 : decode cX7_childAt 8 = .ok (.istore 4, 2) := by decide +kernel
theorem dX7_childAt_10 : decode cX7_childAt 10 = .ok (.iload 4, 2) := by decide +kernel
theorem dX7_childAt_12 : decode cX7_childAt 12 = .ok (.iload_n 2, 1) := by decide +kernel
theorem dX7_childAt_13 : decode cX7_childAt 13 = .ok (.if_icmp .ge 16, 3) := by decide +kernel
theorem dX7_childAt_16 : decode cX7_childAt 16 = .ok (.aload_n 0, 1) := by decide +kernel
theorem dX7_childAt_17 : decode cX7_childAt 17 = .ok (.getfield 30, 3) := by decide +kernel
theorem dX7_childAt_20 : decode cX7_childAt 20 = .ok (.iload_n 3, 1) := by decide +kernel
theorem dX7_childAt_21 : decode cX7_childAt 21 = .ok (.iaload, 1) := by decide +kernel
theorem dX7_childAt_22 : decode cX7_childAt 22 = .ok (.istore_n 3, 1) := by decide +kernel
theorem dX7_childAt_23 : decode cX7_childAt 23 = .ok (.iinc 4 1, 3) := by decide +kernel
theorem dX7_childAt_26 : decode cX7_childAt 26 = .ok (.goto (-16), 3) := by decide +kernel
theorem dX7_childAt_29 : decode cX7_childAt 29 = .ok (.iload_n 3, 1) := by decide +kernel
theorem dX7_childAt_30 : decode cX7_childAt 30 = .ok (.ireturn, 1) := by decide +kernel
theorem dX7_bind_0 : decode cX7_bind 0 = .ok (.aload_n 0, 1) := by decide +kernel
theorem dX7_bind_1 : decode cX7_bind 1 = .ok (.getfield 40, 3) := by decide +kernel
theorem dX7_bind_4 : decode cX7_bind 4 = .ok (.aload_n 0, 1) := by decide +kernel
theorem dX7_bind_5 : decode cX7_bind 5 = .ok (.getfield 145, 3) := by decide +kernel
theorem dX7_bind_8 : decode cX7_bind 8 = .ok (.iload_n 1, 1) := by decide +kernel
theorem dX7_bind_9 : decode cX7_bind 9 = .ok (.castore, 1) := by decide +kernel
theorem dX7_bind_10 : decode cX7_bind 10 = .ok (.aload_n 0, 1) := by decide +kernel
theorem dX7_bind_11 : decode cX7_bind 11 = .ok (.dup, 1) := by decide +kernel
theorem dX7_bind_12 : decode cX7_bind 12 = .ok (.getfield 145, 3) := by decide +kernel
theorem dX7_bind_15 : decode cX7_bind 15 = .ok (.iconst 1, 1) := by decide +kernel
theorem dX7_bind_16 : decode cX7_bind 16 = .ok (.iadd, 1) := by decide +kernel
theorem dX7_bind_17 : decode cX7_bind 17 = .ok (.putfield 145, 3) := by decide +kernel
theorem dX7_bind_20 : decode cX7_bind 20 = .ok (.return_, 1) := by decide +kernel
theorem dX7_begin_0 : decode cX7_begin 0 = .ok (.aload_n 0, 1) := by decide +kernel
theorem dX7_begin_1 : decode cX7_begin 1 = .ok (.getfield 148, 3) := by decide +kernel
theorem dX7_begin_4 : decode cX7_begin 4 = .ok (.bipush 6, 2) := by decide +kernel
theorem dX7_begin_6 : decode cX7_begin 6 = .ok (.if_icmp .ne 8, 3) := by decide +kernel
theorem dX7_begin_9 : decode cX7_begin 9 = .ok (.aload_n 0, 1) := by decide +kernel
theorem dX7_begin_10 : decode cX7_begin 10 = .ok (.iconst 1, 1) := by decide +kernel
theorem dX7_begin_11 : decode cX7_begin 11 = .ok (.putfield 138, 3) := by decide +kernel
theorem dX7_begin_14 : decode cX7_begin 14 = .ok (.aload_n 0, 1) := by decide +kernel
theorem dX7_begin_15 : decode cX7_begin 15 = .ok (.getfield 138, 3) := by decide +kernel
theorem dX7_begin_18 : decode cX7_begin 18 = .ok (.ifCond .eq 4, 3) := by decide +kernel
theorem dX7_begin_21 : decode cX7_begin 21 = .ok (.return_, 1) := by decide +kernel
theorem dX7_begin_22 : decode cX7_begin 22 = .ok (.aload_n 0, 1) := by decide +kernel
theorem dX7_begin_23 : decode cX7_begin 23 = .ok (.getfield 43, 3) := by decide +kernel
theorem dX7_begin_26 : decode cX7_begin 26 = .ok (.aload_n 0, 1) := by decide +kernel
theorem dX7_begin_27 : decode cX7_begin 27 = .ok (.getfield 148, 3) := by decide +kernel
theorem dX7_begin_30 : decode cX7_begin 30 = .ok (.iload_n 1, 1) := by decide +kernel
theorem dX7_begin_31 : decode cX7_begin 31 = .ok (.iastore, 1) := by decide +kernel
theorem dX7_begin_32 : decode cX7_begin 32 = .ok (.aload_n 0, 1) := by decide +kernel
theorem dX7_begin_33 : decode cX7_begin 33 = .ok (.getfield 55, 3) := by decide +kernel
theorem dX7_begin_36 : decode cX7_begin 36 = .ok (.aload_n 0, 1) := by decide +kernel
theorem dX7_begin_37 : decode cX7_begin 37 = .ok (.getfield 148, 3) := by decide +kernel
theorem dX7_begin_40 : decode cX7_begin 40 = .ok (.iload_n 2, 1) := by decide +kernel
theorem dX7_begin_41 : decode cX7_begin 41 = .ok (.iastore, 1) := by decide +kernel
theorem dX7_begin_42 : decode cX7_begin 42 = .ok (.aload_n 0, 1) := by decide +kernel
theorem dX7_begin_43 : decode cX7_begin 43 = .ok (.getfield 46, 3) := by decide +kernel
theorem dX7_begin_46 : decode cX7_begin 46 = .ok (.aload_n 0, 1) := by decide +kernel
theorem dX7_begin_47 : decode cX7_begin 47 = .ok (.getfield 148, 3) := by decide +kernel
theorem dX7_begin_50 : decode cX7_begin 50 = .ok (.aload_n 0, 1) := by decide +kernel
theorem dX7_begin_51 : decode cX7_begin 51 = .ok (.getfield 151, 3) := by decide +kernel
theorem dX7_begin_54 : decode cX7_begin 54 = .ok (.iastore, 1) := by decide +kernel
theorem dX7_begin_55 : decode cX7_begin 55 = .ok (.aload_n 0, 1) := by decide +kernel
theorem dX7_begin_56 : decode cX7_begin 56 = .ok (.getfield 49, 3) := by decide +kernel
theorem dX7_begin_59 : decode cX7_begin 59 = .ok (.aload_n 0, 1) := by decide +kernel
theorem dX7_begin_60 : decode cX7_begin 60 = .ok (.getfield 148, 3) := by decide +kernel
theorem dX7_begin_63 : decode cX7_begin 63 = .ok (.aload_n 0, 1) := by decide +kernel
theorem dX7_begin_64 : decode cX7_begin 64 = .ok (.getfield 145, 3) := by decide +kernel
theorem dX7_begin_67 : decode cX7_begin 67 = .ok (.iastore, 1) := by decide +kernel
theorem dX7_begin_68 : decode cX7_begin 68 = .ok (.aload_n 0, 1) := by decide +kernel
theorem dX7_begin_69 : decode cX7_begin 69 = .ok (.getfield 52, 3) := by decide +kernel
theorem dX7_begin_72 : decode cX7_begin 72 = .ok (.aload_n 0, 1) := by decide +kernel
theorem dX7_begin_73 : decode cX7_begin 73 = .ok (.getfield 148, 3) := by decide +kernel
theorem dX7_begin_76 : decode cX7_begin 76 = .ok (.aload_n 0, 1) := by decide +kernel
theorem dX7_begin_77 : decode cX7_begin 77 = .ok (.getfield 154, 3) := by decide +kernel
theorem dX7_begin_80 : decode cX7_begin 80 = .ok (.iastore, 1) := by decide +kernel
theorem dX7_begin_81 : decode cX7_begin 81 = .ok (.aload_n 0, 1) := by decide +kernel
theorem dX7_begin_82 : decode cX7_begin 82 = .ok (.getfield 61, 3) := by decide +kernel
theorem dX7_begin_85 : decode cX7_begin 85 = .ok (.aload_n 0, 1) := by decide +kernel
theorem dX7_begin_86 : decode cX7_begin 86 = .ok (.getfield 148, 3) := by decide +kernel
theorem dX7_begin_89 : decode cX7_begin 89 = .ok (.iconst 0, 1) := by decide +kernel
theorem dX7_begin_90 : decode cX7_begin 90 = .ok (.bastore, 1) := by decide +kernel
theorem dX7_begin_91 : decode cX7_begin 91 = .ok (.aload_n 0, 1) := by decide +kernel
theorem dX7_begin_92 : decode cX7_begin 92 = .ok (.getfield 64, 3) := by decide +kernel
theorem dX7_begin_95 : decode cX7_begin 95 = .ok (.aload_n 0, 1) := by decide +kernel
theorem dX7_begin_96 : decode cX7_begin 96 = .ok (.getfield 148, 3) := by decide +kernel
theorem dX7_begin_99 : decode cX7_begin 99 = .ok (.iconst (-1), 1) := by decide +kernel
theorem dX7_begin_100 : decode cX7_begin 100 = .ok (.iastore, 1) := by decide +kernel
theorem dX7_begin_101 : decode cX7_begin 101 = .ok (.aload_n 0, 1) := by decide +kernel
theorem dX7_begin_102 : decode cX7_begin 102 = .ok (.dup, 1) := by decide +kernel
theorem dX7_begin_103 : decode cX7_begin 103 = .ok (.getfield 148, 3) := by decide +kernel
theorem dX7_begin_106 : decode cX7_begin 106 = .ok (.iconst 1, 1) := by decide +kernel
theorem dX7_begin_107 : decode cX7_begin 107 = .ok (.iadd, 1) := by decide +kernel
theorem dX7_begin_108 : decode cX7_begin 108 = .ok (.putfield 148, 3) := by decide +kernel
theorem dX7_begin_111 : decode cX7_begin 111 = .ok (.aload_n 0, 1) := by decide +kernel
theorem dX7_begin_112 : decode cX7_begin 112 = .ok (.iconst 0, 1) := by decide +kernel
theorem dX7_begin_113 : decode cX7_begin 113 = .ok (.putfield 157, 3) := by decide +kernel
theorem dX7_begin_116 : decode cX7_begin 116 = .ok (.return_, 1) := by decide +kernel
theorem dX7_head_0 : decode cX7_head 0 = .ok (.aload_n 0, 1) := by decide +kernel
theorem dX7_head_1 : decode cX7_head 1 = .ok (.getfield 67, 3) := by decide +kernel
theorem dX7_head_4 : decode cX7_head 4 = .ok (.aload_n 0, 1) := by decide +kernel
theorem dX7_head_5 : decode cX7_head 5 = .ok (.getfield 151, 3) := by decide +kernel
theorem dX7_head_8 : decode cX7_head 8 = .ok (.iload_n 1, 1) := by decide +kernel
theorem dX7_head_9 : decode cX7_head 9 = .ok (.iastore, 1) := by decide +kernel
theorem dX7_head_10 : decode cX7_head 10 = .ok (.aload_n 0, 1) := by decide +kernel
theorem dX7_head_11 : decode cX7_head 11 = .ok (.getfield 70, 3) := by decide +kernel
theorem dX7_head_14 : decode cX7_head 14 = .ok (.aload_n 0, 1) := by decide +kernel
theorem dX7_head_15 : decode cX7_head 15 = .ok (.getfield 151, 3) := by decide +kernel
theorem dX7_head_18 : decode cX7_head 18 = .ok (.iload_n 2, 1) := by decide +kernel
theorem dX7_head_19 : decode cX7_head 19 = .ok (.iastore, 1) := by decide +kernel
theorem dX7_head_20 : decode cX7_head 20 = .ok (.aload_n 0, 1) := by decide +kernel
theorem dX7_head_21 : decode cX7_head 21 = .ok (.dup, 1) := by decide +kernel
theorem dX7_head_22 : decode cX7_head 22 = .ok (.getfield 151, 3) := by decide +kernel
theorem dX7_head_25 : decode cX7_head 25 = .ok (.iconst 1, 1) := by decide +kernel
theorem dX7_head_26 : decode cX7_head 26 = .ok (.iadd, 1) := by decide +kernel
theorem dX7_head_27 : decode cX7_head 27 = .ok (.putfield 151, 3) := by decide +kernel
theorem dX7_head_30 : decode cX7_head 30 = .ok (.return_, 1) := by decide +kernel
theorem dX7_readHead_0 : decode cX7_readHead 0 = .ok (.aload_n 0, 1) := by decide +kernel
theorem dX7_readHead_1 : decode cX7_readHead 1 = .ok (.invokevirtual 134, 3) := by decide +kernel
theorem dX7_readHead_4 : decode cX7_readHead 4 = .ok (.istore_n 1, 1) := by decide +kernel
theorem dX7_readHead_5 : decode cX7_readHead 5 = .ok (.iload_n 1, 1) := by decide +kernel
theorem dX7_readHead_6 : decode cX7_readHead 6 = .ok (.bipush 92, 2) := by decide +kernel
theorem dX7_readHead_8 : decode cX7_readHead 8 = .ok (.if_icmp .ne 40, 3) := by decide +kernel
theorem dX7_readHead_11 : decode cX7_readHead 11 = .ok (.aload_n 0, 1) := by decide +kernel
theorem dX7_readHead_12 : decode cX7_readHead 12 = .ok (.dup, 1) := by decide +kernel
theorem dX7_readHead_13 : decode cX7_readHead 13 = .ok (.getfield 118, 3) := by decide +kernel
theorem dX7_readHead_16 : decode cX7_readHead 16 = .ok (.iconst 1, 1) := by decide +kernel
theorem dX7_readHead_17 : decode cX7_readHead 17 = .ok (.iadd, 1) := by decide +kernel
theorem dX7_readHead_18 : decode cX7_readHead 18 = .ok (.putfield 118, 3) := by decide +kernel
theorem dX7_readHead_21 : decode cX7_readHead 21 = .ok (.aload_n 0, 1) := by decide +kernel
theorem dX7_readHead_22 : decode cX7_readHead 22 = .ok (.invokevirtual 160, 3) := by decide +kernel
theorem dX7_readHead_25 : decode cX7_readHead 25 = .ok (.istore_n 2, 1) := by decide +kernel
theorem dX7_readHead_26 : decode cX7_readHead 26 = .ok (.aload_n 0, 1) := by decide +kernel
theorem dX7_readHead_27 : decode cX7_readHead 27 = .ok (.getfield 138, 3) := by decide +kernel
theorem dX7_readHead_30 : decode cX7_readHead 30 = .ok (.ifCond .eq 4, 3) := by decide +kernel
theorem dX7_readHead_33 : decode cX7_readHead 33 = .ok (.return_, 1) := by decide +kernel
theorem dX7_readHead_34 : decode cX7_readHead 34 = .ok (.aload_n 0, 1) := by decide +kernel
theorem dX7_readHead_35 : decode cX7_readHead 35 = .ok (.iload_n 2, 1) := by decide +kernel
theorem dX7_readHead_36 : decode cX7_readHead 36 = .ok (.invokevirtual 163, 3) := by decide +kernel
theorem dX7_readHead_39 : decode cX7_readHead 39 = .ok (.aload_n 0, 1) := by decide +kernel
theorem dX7_readHead_40 : decode cX7_readHead 40 = .ok (.iconst 5, 1) := by decide +kernel
theorem dX7_readHead_41 : decode cX7_readHead 41 = .ok (.iconst (-1), 1) := by decide +kernel
theorem dX7_readHead_42 : decode cX7_readHead 42 = .ok (.invokevirtual 167, 3) := by decide +kernel
theorem dX7_readHead_45 : decode cX7_readHead 45 = .ok (.goto 128, 3) := by decide +kernel
theorem dX7_readHead_48 : decode cX7_readHead 48 = .ok (.iload_n 1, 1) := by decide +kernel
theorem dX7_readHead_49 : decode cX7_readHead 49 = .ok (.invokestatic 124, 3) := by decide +kernel
theorem dX7_readHead_52 : decode cX7_readHead 52 = .ok (.ifCond .eq 51, 3) := by decide +kernel
theorem dX7_readHead_55 : decode cX7_readHead 55 = .ok (.aload_n 0, 1) := by decide +kernel
theorem dX7_readHead_56 : decode cX7_readHead 56 = .ok (.invokevirtual 171, 3) := by decide +kernel
theorem dX7_readHead_59 : decode cX7_readHead 59 = .ok (.bipush 61, 2) := by decide +kernel
theorem dX7_readHead_61 : decode cX7_readHead 61 = .ok (.if_icmp .ne 42, 3) := by decide +kernel
theorem dX7_readHead_64 : decode cX7_readHead 64 = .ok (.aload_n 0, 1) := by decide +kernel
theorem dX7_readHead_65 : decode cX7_readHead 65 = .ok (.dup, 1) := by decide +kernel
theorem dX7_readHead_66 : decode cX7_readHead 66 = .ok (.getfield 118, 3) := by decide +kernel
theorem dX7_readHead_69 : decode cX7_readHead 69 = .ok (.iconst 2, 1) := by decide +kernel
theorem dX7_readHead_70 : decode cX7_readHead 70 = .ok (.iadd, 1) := by decide +kernel
theorem dX7_readHead_71 : decode cX7_readHead 71 = .ok (.putfield 118, 3) := by decide +kernel
theorem dX7_readHead_74 : decode cX7_readHead 74 = .ok (.aload_n 0, 1) := by decide +kernel
theorem dX7_readHead_75 : decode cX7_readHead 75 = .ok (.bipush 6, 2) := by decide +kernel
theorem dX7_readHead_77 : decode cX7_readHead 77 = .ok (.iconst (-1), 1) := by decide +kernel
theorem dX7_readHead_78 : decode cX7_readHead 78 = .ok (.invokevirtual 174, 3) := by decide +kernel
theorem dX7_readHead_81 : decode cX7_readHead 81 = .ok (.aload_n 0, 1) := by decide +kernel
theorem dX7_readHead_82 : decode cX7_readHead 82 = .ok (.getfield 138, 3) := by decide +kernel
theorem dX7_readHead_85 : decode cX7_readHead 85 = .ok (.ifCond .ne 88, 3) := by decide +kernel
theorem dX7_readHead_88 : decode cX7_readHead 88 = .ok (.aload_n 0, 1) := by decide +kernel
theorem dX7_readHead_89 : decode cX7_readHead 89 = .ok (.getfield 58, 3) := by decide +kernel
theorem dX7_readHead_92 : decode cX7_readHead 92 = .ok (.aload_n 0, 1) := by decide +kernel
theorem dX7_readHead_93 : decode cX7_readHead 93 = .ok (.getfield 148, 3) := by decide +kernel
theorem dX7_readHead_96 : decode cX7_readHead 96 = .ok (.iconst 1, 1) := by decide +kernel
theorem dX7_readHead_97 : decode cX7_readHead 97 = .ok (.isub, 1) := by decide +kernel
theorem dX7_readHead_98 : decode cX7_readHead 98 = .ok (.iload_n 1, 1) := by decide +kernel
theorem dX7_readHead_99 : decode cX7_readHead 99 = .ok (.castore, 1) := by decide +kernel
theorem dX7_readHead_100 : decode cX7_readHead 100 = .ok (.goto 73, 3) := by decide +kernel
theorem dX7_readHead_103 : decode cX7_readHead 103 = .ok (.iload_n 1, 1) := by decide +kernel
theorem dX7_readHead_104 : decode cX7_readHead 104 = .ok (.bipush 64, 2) := by decide +kernel
theorem dX7_readHead_106 : decode cX7_readHead 106 = .ok (.if_icmp .ne 20, 3) := by decide +kernel
theorem dX7_readHead_109 : decode cX7_readHead 109 = .ok (.aload_n 0, 1) := by decide +kernel
theorem dX7_readHead_110 : decode cX7_readHead 110 = .ok (.dup, 1) := by decide +kernel
theorem dX7_readHead_111 : decode cX7_readHead 111 = .ok (.getfield 118, 3) := by decide +kernel
theorem dX7_readHead_114 : decode cX7_readHead 114 = .ok (.iconst 1, 1) := by decide +kernel
theorem dX7_readHead_115 : decode cX7_readHead 115 = .ok (.iadd, 1) := by decide +kernel
theorem dX7_readHead_116 : decode cX7_readHead 116 = .ok (.putfield 118, 3) := by decide +kernel
theorem dX7_readHead_119 : decode cX7_readHead 119 = .ok (.aload_n 0, 1) := by decide +kernel
theorem dX7_readHead_120 : decode cX7_readHead 120 = .ok (.invokevirtual 177, 3) := by decide +kernel
theorem dX7_readHead_123 : decode cX7_readHead 123 = .ok (.goto 50, 3) := by decide +kernel
theorem dX7_readHead_126 : decode cX7_readHead 126 = .ok (.iload_n 1, 1) := by decide +kernel
theorem dX7_readHead_127 : decode cX7_readHead 127 = .ok (.bipush 63, 2) := by decide +kernel
theorem dX7_readHead_129 : decode cX7_readHead 129 = .ok (.if_icmp .ne 39, 3) := by decide +kernel
theorem dX7_readHead_132 : decode cX7_readHead 132 = .ok (.aload_n 0, 1) := by decide +kernel
theorem dX7_readHead_133 : decode cX7_readHead 133 = .ok (.dup, 1) := by decide +kernel
theorem dX7_readHead_134 : decode cX7_readHead 134 = .ok (.getfield 118, 3) := by decide +kernel
theorem dX7_readHead_137 : decode cX7_readHead 137 = .ok (.iconst 1, 1) := by decide +kernel
theorem dX7_readHead_138 : decode cX7_readHead 138 = .ok (.iadd, 1) := by decide +kernel
theorem dX7_readHead_139 : decode cX7_readHead 139 = .ok (.putfield 118, 3) := by decide +kernel
theorem dX7_readHead_142 : decode cX7_readHead 142 = .ok (.aload_n 0, 1) := by decide +kernel
theorem dX7_readHead_143 : decode cX7_readHead 143 = .ok (.getfield 64, 3) := by decide +kernel
theorem dX7_readHead_146 : decode cX7_readHead 146 = .ok (.aload_n 0, 1) := by decide +kernel
theorem dX7_readHead_147 : decode cX7_readHead 147 = .ok (.getfield 148, 3) := by decide +kernel
theorem dX7_readHead_150 : decode cX7_readHead 150 = .ok (.iconst 1, 1) := by decide +kernel
theorem dX7_readHead_151 : decode cX7_readHead 151 = .ok (.isub, 1) := by decide +kernel
theorem dX7_readHead_152 : decode cX7_readHead 152 = .ok (.aload_n 0, 1) := by decide +kernel
theorem dX7_readHead_153 : decode cX7_readHead 153 = .ok (.bipush 8, 2) := by decide +kernel
theorem dX7_readHead_155 : decode cX7_readHead 155 = .ok (.iconst 0, 1) := by decide +kernel
theorem dX7_readHead_156 : decode cX7_readHead 156 = .ok (.invokevirtual 180, 3) := by decide +kernel
theorem dX7_readHead_159 : decode cX7_readHead 159 = .ok (.iastore, 1) := by decide +kernel
theorem dX7_readHead_160 : decode cX7_readHead 160 = .ok (.aload_n 0, 1) := by decide +kernel
theorem dX7_readHead_161 : decode cX7_readHead 161 = .ok (.iconst 1, 1) := by decide +kernel
theorem dX7_readHead_162 : decode cX7_readHead 162 = .ok (.putfield 157, 3) := by decide +kernel
theorem dX7_readHead_165 : decode cX7_readHead 165 = .ok (.goto 8, 3) := by decide +kernel
theorem dX7_readHead_168 : decode cX7_readHead 168 = .ok (.aload_n 0, 1) := by decide +kernel
theorem dX7_readHead_169 : decode cX7_readHead 169 = .ok (.iconst 1, 1) := by decide +kernel
theorem dX7_readHead_170 : decode cX7_readHead 170 = .ok (.putfield 157, 3) := by decide +kernel
theorem dX7_readHead_173 : decode cX7_readHead 173 = .ok (.return_, 1) := by decide +kernel
theorem dX7_readFix_0 : decode cX7_readFix 0 = .ok (.aload_n 0, 1) := by decide +kernel
theorem dX7_readFix_1 : decode cX7_readFix 1 = .ok (.invokevirtual 160, 3) := by decide +kernel
theorem dX7_readFix_4 : decode cX7_readFix 4 = .ok (.istore_n 1, 1) := by decide +kernel
theorem dX7_readFix_5 : decode cX7_readFix 5 = .ok (.aload_n 0, 1) := by decide +kernel
theorem dX7_readFix_6 : decode cX7_readFix 6 = .ok (.getfield 138, 3) := by decide +kernel
theorem dX7_readFix_9 : decode cX7_readFix 9 = .ok (.ifCond .ne 16, 3) := by decide +kernel
theorem dX7_readFix_12 : decode cX7_readFix 12 = .ok (.aload_n 0, 1) := by decide +kernel
theorem dX7_readFix_13 : decode cX7_readFix 13 = .ok (.invokevirtual 134, 3) := by decide +kernel
theorem dX7_readFix_16 : decode cX7_readFix 16 = .ok (.iload_n 1, 1) := by decide +kernel
theorem dX7_readFix_17 : decode cX7_readFix 17 = .ok (.if_icmp .ne 8, 3) := by decide +kernel
theorem dX7_readFix_20 : decode cX7_readFix 20 = .ok (.aload_n 0, 1) := by decide +kernel
theorem dX7_readFix_21 : decode cX7_readFix 21 = .ok (.iconst 1, 1) := by decide +kernel
theorem dX7_readFix_22 : decode cX7_readFix 22 = .ok (.putfield 138, 3) := by decide +kernel
theorem dX7_readFix_25 : decode cX7_readFix 25 = .ok (.aload_n 0, 1) := by decide +kernel
theorem dX7_readFix_26 : decode cX7_readFix 26 = .ok (.invokevirtual 160, 3) := by decide +kernel
theorem dX7_readFix_29 : decode cX7_readFix 29 = .ok (.istore_n 2, 1) := by decide +kernel
theorem dX7_readFix_30 : decode cX7_readFix 30 = .ok (.aload_n 0, 1) := by decide +kernel
theorem dX7_readFix_31 : decode cX7_readFix 31 = .ok (.getfield 138, 3) := by decide +kernel
theorem dX7_readFix_34 : decode cX7_readFix 34 = .ok (.ifCond .ne 9, 3) := by decide +kernel
theorem dX7_readFix_37 : decode cX7_readFix 37 = .ok (.aload_n 0, 1) := by decide +kernel
theorem dX7_readFix_38 : decode cX7_readFix 38 = .ok (.bipush 61, 2) := by decide +kernel
theorem dX7_readFix_40 : decode cX7_readFix 40 = .ok (.invokevirtual 184, 3) := by decide +kernel
theorem dX7_readFix_43 : decode cX7_readFix 43 = .ok (.aload_n 0, 1) := by decide +kernel
theorem dX7_readFix_44 : decode cX7_readFix 44 = .ok (.getfield 138, 3) := by decide +kernel
theorem dX7_readFix_47 : decode cX7_readFix 47 = .ok (.ifCond .eq 4, 3) := by decide +kernel
theorem dX7_readFix_50 : decode cX7_readFix 50 = .ok (.return_, 1) := by decide +kernel
theorem dX7_readFix_51 : decode cX7_readFix 51 = .ok (.aload_n 0, 1) := by decide +kernel
theorem dX7_readFix_52 : decode cX7_readFix 52 = .ok (.getfield 145, 3) := by decide +kernel
theorem dX7_readFix_55 : decode cX7_readFix 55 = .ok (.istore_n 3, 1) := by decide +kernel
theorem dX7_readFix_56 : decode cX7_readFix 56 = .ok (.aload_n 0, 1) := by decide +kernel
theorem dX7_readFix_57 : decode cX7_readFix 57 = .ok (.iload_n 1, 1) := by decide +kernel
theorem dX7_readFix_58 : decode cX7_readFix 58 = .ok (.invokevirtual 163, 3) := by decide +kernel
theorem dX7_readFix_61 : decode cX7_readFix 61 = .ok (.aload_n 0, 1) := by decide +kernel
theorem dX7_readFix_62 : decode cX7_readFix 62 = .ok (.iload_n 2, 1) := by decide +kernel
theorem dX7_readFix_63 : decode cX7_readFix 63 = .ok (.invokevirtual 163, 3) := by decide +kernel
theorem dX7_readFix_66 : decode cX7_readFix 66 = .ok (.aload_n 0, 1) := by decide +kernel
theorem dX7_readFix_67 : decode cX7_readFix 67 = .ok (.bipush 7, 2) := by decide +kernel
theorem dX7_readFix_69 : decode cX7_readFix 69 = .ok (.iconst (-1), 1) := by decide +kernel
theorem dX7_readFix_70 : decode cX7_readFix 70 = .ok (.invokevirtual 174, 3) := by decide +kernel
theorem dX7_readFix_73 : decode cX7_readFix 73 = .ok (.aload_n 0, 1) := by decide +kernel
theorem dX7_readFix_74 : decode cX7_readFix 74 = .ok (.getfield 138, 3) := by decide +kernel
theorem dX7_readFix_77 : decode cX7_readFix 77 = .ok (.ifCond .eq 4, 3) := by decide +kernel
theorem dX7_readFix_80 : decode cX7_readFix 80 = .ok (.return_, 1) := by decide +kernel
theorem dX7_readFix_81 : decode cX7_readFix 81 = .ok (.aload_n 0, 1) := by decide +kernel
theorem dX7_readFix_82 : decode cX7_readFix 82 = .ok (.getfield 49, 3) := by decide +kernel
theorem dX7_readFix_85 : decode cX7_readFix 85 = .ok (.aload_n 0, 1) := by decide +kernel
theorem dX7_readFix_86 : decode cX7_readFix 86 = .ok (.getfield 148, 3) := by decide +kernel
theorem dX7_readFix_89 : decode cX7_readFix 89 = .ok (.iconst 1, 1) := by decide +kernel
theorem dX7_readFix_90 : decode cX7_readFix 90 = .ok (.isub, 1) := by decide +kernel
theorem dX7_readFix_91 : decode cX7_readFix 91 = .ok (.iload_n 3, 1) := by decide +kernel
theorem dX7_readFix_92 : decode cX7_readFix 92 = .ok (.iastore, 1) := by decide +kernel
theorem dX7_readFix_93 : decode cX7_readFix 93 = .ok (.aload_n 0, 1) := by decide +kernel
theorem dX7_readFix_94 : decode cX7_readFix 94 = .ok (.getfield 58, 3) := by decide +kernel
theorem dX7_readFix_97 : decode cX7_readFix 97 = .ok (.aload_n 0, 1) := by decide +kernel
theorem dX7_readFix_98 : decode cX7_readFix 98 = .ok (.getfield 148, 3) := by decide +kernel
theorem dX7_readFix_101 : decode cX7_readFix 101 = .ok (.iconst 1, 1) := by decide +kernel
theorem dX7_readFix_102 : decode cX7_readFix 102 = .ok (.isub, 1) := by decide +kernel
theorem dX7_readFix_103 : decode cX7_readFix 103 = .ok (.iload_n 1, 1) := by decide +kernel
theorem dX7_readFix_104 : decode cX7_readFix 104 = .ok (.castore, 1) := by decide +kernel
theorem dX7_readFix_105 : decode cX7_readFix 105 = .ok (.return_, 1) := by decide +kernel
theorem dX7_rank_0 : decode cX7_rank 0 = .ok (.iload_n 0, 1) := by decide +kernel
theorem dX7_rank_1 : decode cX7_rank 1 = .ok (.bipush 32, 2) := by decide +kernel
theorem dX7_rank_3 : decode cX7_rank 3 = .ok (.if_icmp .ne 7, 3) := by decide +kernel
theorem dX7_rank_6 : decode cX7_rank 6 = .ok (.iconst 4, 1) := by decide +kernel
theorem dX7_rank_7 : decode cX7_rank 7 = .ok (.goto 30, 3) := by decide +kernel
theorem dX7_rank_10 : decode cX7_rank 10 = .ok (.iload_n 0, 1) := by decide +kernel
theorem dX7_rank_11 : decode cX7_rank 11 = .ok (.bipush 42, 2) := by decide +kernel
theorem dX7_rank_13 : decode cX7_rank 13 = .ok (.if_icmp .ne 7, 3) := by decide +kernel
theorem dX7_rank_16 : decode cX7_rank 16 = .ok (.iconst 3, 1) := by decide +kernel
theorem dX7_rank_17 : decode cX7_rank 17 = .ok (.goto 20, 3) := by decide +kernel
theorem dX7_rank_20 : decode cX7_rank 20 = .ok (.iload_n 0, 1) := by decide +kernel
theorem dX7_rank_21 : decode cX7_rank 21 = .ok (.bipush 43, 2) := by decide +kernel
theorem dX7_rank_23 : decode cX7_rank 23 = .ok (.if_icmp .eq 9, 3) := by decide +kernel
theorem dX7_rank_26 : decode cX7_rank 26 = .ok (.iload_n 0, 1) := by decide +kernel
theorem dX7_rank_27 : decode cX7_rank 27 = .ok (.bipush 45, 2) := by decide +kernel
theorem dX7_rank_29 : decode cX7_rank 29 = .ok (.if_icmp .ne 7, 3) := by decide +kernel
theorem dX7_rank_32 : decode cX7_rank 32 = .ok (.iconst 2, 1) := by decide +kernel
theorem dX7_rank_33 : decode cX7_rank 33 = .ok (.goto 4, 3) := by decide +kernel
theorem dX7_rank_36 : decode cX7_rank 36 = .ok (.iconst 1, 1) := by decide +kernel
theorem dX7_rank_37 : decode cX7_rank 37 = .ok (.ireturn, 1) := by decide +kernel
theorem dX7_settle_0 : decode cX7_settle 0 = .ok (.aload_n 0, 1) := by decide +kernel
theorem dX7_settle_1 : decode cX7_settle 1 = .ok (.getfield 154, 3) := by decide +kernel
theorem dX7_settle_4 : decode cX7_settle 4 = .ok (.aload_n 0, 1) := by decide +kernel
theorem dX7_settle_5 : decode cX7_settle 5 = .ok (.getfield 52, 3) := by decide +kernel
theorem dX7_settle_8 : decode cX7_settle 8 = .ok (.aload_n 0, 1) := by decide +kernel
theorem dX7_settle_9 : decode cX7_settle 9 = .ok (.getfield 148, 3) := by decide +kernel
theorem dX7_settle_12 : decode cX7_settle 12 = .ok (.iconst 1, 1) := by decide +kernel
theorem dX7_settle_13 : decode cX7_settle 13 = .ok (.isub, 1) := by decide +kernel
theorem dX7_settle_14 : decode cX7_settle 14 = .ok (.iaload, 1) := by decide +kernel
theorem dX7_settle_15 : decode cX7_settle 15 = .ok (.if_icmp .le 251, 3) := by decide +kernel
theorem dX7_settle_18 : decode cX7_settle 18 = .ok (.aload_n 0, 1) := by decide +kernel
theorem dX7_settle_19 : decode cX7_settle 19 = .ok (.getfield 76, 3) := by decide +kernel
theorem dX7_settle_22 : decode cX7_settle 22 = .ok (.aload_n 0, 1) := by decide +kernel
theorem dX7_settle_23 : decode cX7_settle 23 = .ok (.getfield 154, 3) := by decide +kernel
theorem dX7_settle_26 : decode cX7_settle 26 = .ok (.iconst 1, 1) := by decide +kernel
theorem dX7_settle_27 : decode cX7_settle 27 = .ok (.isub, 1) := by decide +kernel
theorem dX7_settle_28 : decode cX7_settle 28 = .ok (.caload, 1) := by decide +kernel
theorem dX7_settle_29 : decode cX7_settle 29 = .ok (.invokestatic 187, 3) := by decide +kernel
theorem dX7_settle_32 : decode cX7_settle 32 = .ok (.iload_n 1, 1) := by decide +kernel
theorem dX7_settle_33 : decode cX7_settle 33 = .ok (.if_icmp .lt 233, 3) := by decide +kernel
theorem dX7_settle_36 : decode cX7_settle 36 = .ok (.aload_n 0, 1) := by decide +kernel
theorem dX7_settle_37 : decode cX7_settle 37 = .ok (.dup, 1) := by decide +kernel
theorem dX7_settle_38 : decode cX7_settle 38 = .ok (.getfield 154, 3) := by decide +kernel
theorem dX7_settle_41 : decode cX7_settle 41 = .ok (.iconst 1, 1) := by decide +kernel
theorem dX7_settle_42 : decode cX7_settle 42 = .ok (.isub, 1) := by decide +kernel
theorem dX7_settle_43 : decode cX7_settle 43 = .ok (.putfield 154, 3) := by decide +kernel
theorem dX7_settle_46 : decode cX7_settle 46 = .ok (.aload_n 0, 1) := by decide +kernel
theorem dX7_settle_47 : decode cX7_settle 47 = .ok (.dup, 1) := by decide +kernel
theorem dX7_settle_48 : decode cX7_settle 48 = .ok (.getfield 191, 3) := by decide +kernel
theorem dX7_settle_51 : decode cX7_settle 51 = .ok (.iconst 1, 1) := by decide +kernel
theorem dX7_settle_52 : decode cX7_settle 52 = .ok (.isub, 1) := by decide +kernel
theorem dX7_settle_53 : decode cX7_settle 53 = .ok (.putfield 191, 3) := by decide +kernel
theorem dX7_settle_56 : decode cX7_settle 56 = .ok (.aload_n 0, 1) := by decide +kernel
theorem dX7_settle_57 : decode cX7_settle 57 = .ok (.getfield 73, 3) := by decide +kernel
theorem dX7_settle_60 : decode cX7_settle 60 = .ok (.aload_n 0, 1) := by decide +kernel
theorem dX7_settle_61 : decode cX7_settle 61 = .ok (.getfield 191, 3) := by decide +kernel
theorem dX7_settle_64 : decode cX7_settle 64 = .ok (.iaload, 1) := by decide +kernel
theorem dX7_settle_65 : decode cX7_settle 65 = .ok (.istore_n 2, 1) := by decide +kernel
theorem dX7_settle_66 : decode cX7_settle 66 = .ok (.aload_n 0, 1) := by decide +kernel
theorem dX7_settle_67 : decode cX7_settle 67 = .ok (.getfield 73, 3) := by decide +kernel
theorem dX7_settle_70 : decode cX7_settle 70 = .ok (.aload_n 0, 1) := by decide +kernel
theorem dX7_settle_71 : decode cX7_settle 71 = .ok (.getfield 191, 3) := by decide +kernel
theorem dX7_settle_74 : decode cX7_settle 74 = .ok (.iconst 1, 1) := by decide +kernel
theorem dX7_settle_75 : decode cX7_settle 75 = .ok (.isub, 1) := by decide +kernel
theorem dX7_settle_76 : decode cX7_settle 76 = .ok (.iaload, 1) := by decide +kernel
theorem dX7_settle_77 : decode cX7_settle 77 = .ok (.istore_n 3, 1) := by decide +kernel
theorem dX7_settle_78 : decode cX7_settle 78 = .ok (.aload_n 0, 1) := by decide +kernel
theorem dX7_settle_79 : decode cX7_settle 79 = .ok (.getfield 76, 3) := by decide +kernel
theorem dX7_settle_82 : decode cX7_settle 82 = .ok (.aload_n 0, 1) := by decide +kernel
theorem dX7_settle_83 : decode cX7_settle 83 = .ok (.getfield 154, 3) := by decide +kernel
theorem dX7_settle_86 : decode cX7_settle 86 = .ok (.caload, 1) := by decide +kernel
theorem dX7_settle_87 : decode cX7_settle 87 = .ok (.bipush 32, 2) := by decide +kernel
theorem dX7_settle_89 : decode cX7_settle 89 = .ok (.if_icmp .ne 81, 3) := by decide +kernel
theorem dX7_settle_92 : decode cX7_settle 92 = .ok (.aload_n 0, 1) := by decide +kernel
theorem dX7_settle_93 : decode cX7_settle 93 = .ok (.getfield 20, 3) := by decide +kernel
theorem dX7_settle_96 : decode cX7_settle 96 = .ok (.iload_n 3, 1) := by decide +kernel
theorem dX7_settle_97 : decode cX7_settle 97 = .ok (.iaload, 1) := by decide +kernel
theorem dX7_settle_98 : decode cX7_settle 98 = .ok (.iconst 3, 1) := by decide +kernel
theorem dX7_settle_99 : decode cX7_settle 99 = .ok (.if_icmp .ne 16, 3) := by decide +kernel
theorem dX7_settle_102 : decode cX7_settle 102 = .ok (.aload_n 0, 1) := by decide +kernel
theorem dX7_settle_103 : decode cX7_settle 103 = .ok (.getfield 36, 3) := by decide +kernel
theorem dX7_settle_106 : decode cX7_settle 106 = .ok (.iload_n 3, 1) := by decide +kernel
theorem dX7_settle_107 : decode cX7_settle 107 = .ok (.baload, 1) := by decide +kernel
theorem dX7_settle_108 : decode cX7_settle 108 = .ok (.ifCond .ne 7, 3) := by decide +kernel
theorem dX7_settle_111 : decode cX7_settle 111 = .ok (.iconst 1, 1) := by decide +kernel
theorem dX7_settle_112 : decode cX7_settle 112 = .ok (.goto 4, 3) := by decide +kernel
theorem dX7_settle_115 : decode cX7_settle 115 = .ok (.iconst 0, 1) := by decide +kernel
theorem dX7_settle_116 : decode cX7_settle 116 = .ok (.istore 4, 2) := by decide +kernel
theorem dX7_settle_118 : decode cX7_settle 118 = .ok (.iload 4, 2) := by decide +kernel
theorem dX7_settle_120 : decode cX7_settle 120 = .ok (.ifCond .eq 7, 3) := by decide +kernel
theorem dX7_settle_123 : decode cX7_settle 123 = .ok (.iload_n 3, 1) := by decide +kernel
theorem dX7_settle_124 : decode cX7_settle 124 = .ok (.goto 9, 3) := by decide +kernel
theorem dX7_settle_127 : decode cX7_settle 127 = .ok (.aload_n 0, 1) := by decide +kernel
theorem dX7_settle_128 : decode cX7_settle 128 = .ok (.iconst 3, 1) := by decide +kernel
theorem dX7_settle_129 : decode cX7_settle 129 = .ok (.iconst 0, 1) := by decide +kernel
theorem dX7_settle_130 : decode cX7_settle 130 = .ok (.invokevirtual 180, 3) := by decide +kernel
theorem dX7_settle_133 : decode cX7_settle 133 = .ok (.istore 5, 2) := by decide +kernel
theorem dX7_settle_135 : decode cX7_settle 135 = .ok (.iload 4, 2) := by decide +kernel
theorem dX7_settle_137 : decode cX7_settle 137 = .ok (.ifCond .ne 10, 3) := by decide +kernel
theorem dX7_settle_140 : decode cX7_settle 140 = .ok (.aload_n 0, 1) := by decide +kernel
theorem dX7_settle_141 : decode cX7_settle 141 = .ok (.iload 5, 2) := by decide +kernel
theorem dX7_settle_143 : decode cX7_settle 143 = .ok (.iload_n 3, 1) := by decide +kernel
theorem dX7_settle_144 : decode cX7_settle 144 = .ok (.invokevirtual 194, 3) := by decide +kernel
theorem dX7_settle_147 : decode cX7_settle 147 = .ok (.aload_n 0, 1) := by decide +kernel
theorem dX7_settle_148 : decode cX7_settle 148 = .ok (.iload 5, 2) := by decide +kernel
theorem dX7_settle_150 : decode cX7_settle 150 = .ok (.iload_n 2, 1) := by decide +kernel
theorem dX7_settle_151 : decode cX7_settle 151 = .ok (.invokevirtual 194, 3) := by decide +kernel
theorem dX7_settle_154 : decode cX7_settle 154 = .ok (.aload_n 0, 1) := by decide +kernel
theorem dX7_settle_155 : decode cX7_settle 155 = .ok (.getfield 73, 3) := by decide +kernel
theorem dX7_settle_158 : decode cX7_settle 158 = .ok (.aload_n 0, 1) := by decide +kernel
theorem dX7_settle_159 : decode cX7_settle 159 = .ok (.getfield 191, 3) := by decide +kernel
theorem dX7_settle_162 : decode cX7_settle 162 = .ok (.iconst 1, 1) := by decide +kernel
theorem dX7_settle_163 : decode cX7_settle 163 = .ok (.isub, 1) := by decide +kernel
theorem dX7_settle_164 : decode cX7_settle 164 = .ok (.iload 5, 2) := by decide +kernel
theorem dX7_settle_166 : decode cX7_settle 166 = .ok (.iastore, 1) := by decide +kernel
theorem dX7_settle_167 : decode cX7_settle 167 = .ok (.goto 96, 3) := by decide +kernel
theorem dX7_settle_170 : decode cX7_settle 170 = .ok (.aload_n 0, 1) := by decide +kernel
theorem dX7_settle_171 : decode cX7_settle 171 = .ok (.getfield 76, 3) := by decide +kernel
theorem dX7_settle_174 : decode cX7_settle 174 = .ok (.aload_n 0, 1) := by decide +kernel
theorem dX7_settle_175 : decode cX7_settle 175 = .ok (.getfield 154, 3) := by decide +kernel
theorem dX7_settle_178 : decode cX7_settle 178 = .ok (.caload, 1) := by decide +kernel
theorem dX7_settle_179 : decode cX7_settle 179 = .ok (.istore 4, 2) := by decide +kernel
theorem dX7_settle_181 : decode cX7_settle 181 = .ok (.aload_n 0, 1) := by decide +kernel
theorem dX7_settle_182 : decode cX7_settle 182 = .ok (.iconst 2, 1) := by decide +kernel
theorem dX7_settle_183 : decode cX7_settle 183 = .ok (.iload 4, 2) := by decide +kernel
theorem dX7_settle_185 : decode cX7_settle 185 = .ok (.bipush 43, 2) := by decide +kernel
theorem dX7_settle_187 : decode cX7_settle 187 = .ok (.if_icmp .ne 7, 3) := by decide +kernel
theorem dX7_settle_190 : decode cX7_settle 190 = .ok (.iconst 4, 1) := by decide +kernel
theorem dX7_settle_191 : decode cX7_settle 191 = .ok (.goto 40, 3) := by decide +kernel
theorem dX7_settle_194 : decode cX7_settle 194 = .ok (.iload 4, 2) := by decide +kernel
theorem dX7_settle_196 : decode cX7_settle 196 = .ok (.bipush 45, 2) := by decide +kernel
theorem dX7_settle_198 : decode cX7_settle 198 = .ok (.if_icmp .ne 7, 3) := by decide +kernel
theorem dX7_settle_201 : decode cX7_settle 201 = .ok (.iconst 5, 1) := by decide +kernel
theorem dX7_settle_202 : decode cX7_settle 202 = .ok (.goto 29, 3) := by decide +kernel
theorem dX7_settle_205 : decode cX7_settle 205 = .ok (.iload 4, 2) := by decide +kernel
theorem dX7_settle_207 : decode cX7_settle 207 = .ok (.bipush 42, 2) := by decide +kernel
theorem dX7_settle_209 : decode cX7_settle 209 = .ok (.if_icmp .ne 8, 3) := by decide +kernel
theorem dX7_settle_212 : decode cX7_settle 212 = .ok (.bipush 6, 2) := by decide +kernel
theorem dX7_settle_214 : decode cX7_settle 214 = .ok (.goto 17, 3) := by decide +kernel
theorem dX7_settle_217 : decode cX7_settle 217 = .ok (.iload 4, 2) := by decide +kernel
theorem dX7_settle_219 : decode cX7_settle 219 = .ok (.bipush 60, 2) := by decide +kernel
theorem dX7_settle_221 : decode cX7_settle 221 = .ok (.if_icmp .ne 8, 3) := by decide +kernel
theorem dX7_settle_224 : decode cX7_settle 224 = .ok (.bipush 7, 2) := by decide +kernel
theorem dX7_settle_226 : decode cX7_settle 226 = .ok (.goto 5, 3) := by decide +kernel
theorem dX7_settle_229 : decode cX7_settle 229 = .ok (.bipush 8, 2) := by decide +kernel
theorem dX7_settle_231 : decode cX7_settle 231 = .ok (.invokevirtual 180, 3) := by decide +kernel
theorem dX7_settle_234 : decode cX7_settle 234 = .ok (.istore 5, 2) := by decide +kernel
theorem dX7_settle_236 : decode cX7_settle 236 = .ok (.aload_n 0, 1) := by decide +kernel
theorem dX7_settle_237 : decode cX7_settle 237 = .ok (.iload 5, 2) := by decide +kernel
theorem dX7_settle_239 : decode cX7_settle 239 = .ok (.iload_n 3, 1) := by decide +kernel
theorem dX7_settle_240 : decode cX7_settle 240 = .ok (.invokevirtual 194, 3) := by decide +kernel
theorem dX7_settle_243 : decode cX7_settle 243 = .ok (.aload_n 0, 1) := by decide +kernel
theorem dX7_settle_244 : decode cX7_settle 244 = .ok (.iload 5, 2) := by decide +kernel
theorem dX7_settle_246 : decode cX7_settle 246 = .ok (.iload_n 2, 1) := by decide +kernel
theorem dX7_settle_247 : decode cX7_settle 247 = .ok (.invokevirtual 194, 3) := by decide +kernel
theorem dX7_settle_250 : decode cX7_settle 250 = .ok (.aload_n 0, 1) := by decide +kernel
theorem dX7_settle_251 : decode cX7_settle 251 = .ok (.getfield 73, 3) := by decide +kernel
theorem dX7_settle_254 : decode cX7_settle 254 = .ok (.aload_n 0, 1) := by decide +kernel
theorem dX7_settle_255 : decode cX7_settle 255 = .ok (.getfield 191, 3) := by decide +kernel
theorem dX7_settle_258 : decode cX7_settle 258 = .ok (.iconst 1, 1) := by decide +kernel
theorem dX7_settle_259 : decode cX7_settle 259 = .ok (.isub, 1) := by decide +kernel
theorem dX7_settle_260 : decode cX7_settle 260 = .ok (.iload 5, 2) := by decide +kernel
theorem dX7_settle_262 : decode cX7_settle 262 = .ok (.iastore, 1) := by decide +kernel
theorem dX7_settle_263 : decode cX7_settle 263 = .ok (.goto (-263), 3) := by decide +kernel
theorem dX7_settle_266 : decode cX7_settle 266 = .ok (.return_, 1) := by decide +kernel
theorem dX7_push_0 : decode cX7_push 0 = .ok (.aload_n 0, 1) := by decide +kernel
theorem dX7_push_1 : decode cX7_push 1 = .ok (.getfield 73, 3) := by decide +kernel
theorem dX7_push_4 : decode cX7_push 4 = .ok (.aload_n 0, 1) := by decide +kernel
theorem dX7_push_5 : decode cX7_push 5 = .ok (.getfield 191, 3) := by decide +kernel
theorem dX7_push_8 : decode cX7_push 8 = .ok (.iload_n 1, 1) := by decide +kernel
theorem dX7_push_9 : decode cX7_push 9 = .ok (.iastore, 1) := by decide +kernel
theorem dX7_push_10 : decode cX7_push 10 = .ok (.aload_n 0, 1) := by decide +kernel
theorem dX7_push_11 : decode cX7_push 11 = .ok (.dup, 1) := by decide +kernel
theorem dX7_push_12 : decode cX7_push 12 = .ok (.getfield 191, 3) := by decide +kernel
theorem dX7_push_15 : decode cX7_push 15 = .ok (.iconst 1, 1) := by decide +kernel
theorem dX7_push_16 : decode cX7_push 16 = .ok (.iadd, 1) := by decide +kernel
theorem dX7_push_17 : decode cX7_push 17 = .ok (.putfield 191, 3) := by decide +kernel
theorem dX7_push_20 : decode cX7_push 20 = .ok (.aload_n 0, 1) := by decide +kernel
theorem dX7_push_21 : decode cX7_push 21 = .ok (.iconst 2, 1) := by decide +kernel
theorem dX7_push_22 : decode cX7_push 22 = .ok (.putfield 157, 3) := by decide +kernel
theorem dX7_push_25 : decode cX7_push 25 = .ok (.return_, 1) := by decide +kernel
theorem dX7_readNumeral_0 : decode cX7_readNumeral 0 = .ok (.iconst 0, 1) := by decide +kernel
theorem dX7_readNumeral_1 : decode cX7_readNumeral 1 = .ok (.istore_n 1, 1) := by decide +kernel
theorem dX7_readNumeral_2 : decode cX7_readNumeral 2 = .ok (.iconst 0, 1) := by decide +kernel
theorem dX7_readNumeral_3 : decode cX7_readNumeral 3 = .ok (.istore_n 2, 1) := by decide +kernel
theorem dX7_readNumeral_4 : decode cX7_readNumeral 4 = .ok (.iload_n 2, 1) := by decide +kernel
theorem dX7_readNumeral_5 : decode cX7_readNumeral 5 = .ok (.iconst 4, 1) := by decide +kernel
theorem dX7_readNumeral_6 : decode cX7_readNumeral 6 = .ok (.if_icmp .ge 42, 3) := by decide +kernel
theorem dX7_readNumeral_9 : decode cX7_readNumeral 9 = .ok (.aload_n 0, 1) := by decide +kernel
theorem dX7_readNumeral_10 : decode cX7_readNumeral 10 = .ok (.invokevirtual 134, 3) := by decide +kernel
theorem dX7_readNumeral_13 : decode cX7_readNumeral 13 = .ok (.invokestatic 128, 3) := by decide +kernel
theorem dX7_readNumeral_16 : decode cX7_readNumeral 16 = .ok (.ifCond .eq 32, 3) := by decide +kernel
theorem dX7_readNumeral_19 : decode cX7_readNumeral 19 = .ok (.bipush 10, 2) := by decide +kernel
theorem dX7_readNumeral_21 : decode cX7_readNumeral 21 = .ok (.iload_n 1, 1) := by decide +kernel
theorem dX7_readNumeral_22 : decode cX7_readNumeral 22 = .ok (.imul, 1) := by decide +kernel
theorem dX7_readNumeral_23 : decode cX7_readNumeral 23 = .ok (.aload_n 0, 1) := by decide +kernel
theorem dX7_readNumeral_24 : decode cX7_readNumeral 24 = .ok (.invokevirtual 134, 3) := by decide +kernel
theorem dX7_readNumeral_27 : decode cX7_readNumeral 27 = .ok (.iadd, 1) := by decide +kernel
theorem dX7_readNumeral_28 : decode cX7_readNumeral 28 = .ok (.bipush 48, 2) := by decide +kernel
theorem dX7_readNumeral_30 : decode cX7_readNumeral 30 = .ok (.isub, 1) := by decide +kernel
theorem dX7_readNumeral_31 : decode cX7_readNumeral 31 = .ok (.istore_n 1, 1) := by decide +kernel
theorem dX7_readNumeral_32 : decode cX7_readNumeral 32 = .ok (.aload_n 0, 1) := by decide +kernel
theorem dX7_readNumeral_33 : decode cX7_readNumeral 33 = .ok (.dup, 1) := by decide +kernel
theorem dX7_readNumeral_34 : decode cX7_readNumeral 34 = .ok (.getfield 118, 3) := by decide +kernel
theorem dX7_readNumeral_37 : decode cX7_readNumeral 37 = .ok (.iconst 1, 1) := by decide +kernel
theorem dX7_readNumeral_38 : decode cX7_readNumeral 38 = .ok (.iadd, 1) := by decide +kernel
theorem dX7_readNumeral_39 : decode cX7_readNumeral 39 = .ok (.putfield 118, 3) := by decide +kernel
theorem dX7_readNumeral_42 : decode cX7_readNumeral 42 = .ok (.iinc 2 1, 3) := by decide +kernel
theorem dX7_readNumeral_45 : decode cX7_readNumeral 45 = .ok (.goto (-41), 3) := by decide +kernel
theorem dX7_readNumeral_48 : decode cX7_readNumeral 48 = .ok (.aload_n 0, 1) := by decide +kernel
theorem dX7_readNumeral_49 : decode cX7_readNumeral 49 = .ok (.aload_n 0, 1) := by decide +kernel
theorem dX7_readNumeral_50 : decode cX7_readNumeral 50 = .ok (.iconst 0, 1) := by decide +kernel
theorem dX7_readNumeral_51 : decode cX7_readNumeral 51 = .ok (.iload_n 1, 1) := by decide +kernel
theorem dX7_readNumeral_52 : decode cX7_readNumeral 52 = .ok (.invokevirtual 180, 3) := by decide +kernel
theorem dX7_readNumeral_55 : decode cX7_readNumeral 55 = .ok (.invokevirtual 197, 3) := by decide +kernel
theorem dX7_readNumeral_58 : decode cX7_readNumeral 58 = .ok (.return_, 1) := by decide +kernel
theorem dX7_readName_0 : decode cX7_readName 0 = .ok (.aload_n 0, 1) := by decide +kernel
theorem dX7_readName_1 : decode cX7_readName 1 = .ok (.getfield 145, 3) := by decide +kernel
theorem dX7_readName_4 : decode cX7_readName 4 = .ok (.iconst 1, 1) := by decide +kernel
theorem dX7_readName_5 : decode cX7_readName 5 = .ok (.isub, 1) := by decide +kernel
theorem dX7_readName_6 : decode cX7_readName 6 = .ok (.istore_n 1, 1) := by decide +kernel
theorem dX7_readName_7 : decode cX7_readName 7 = .ok (.iload_n 1, 1) := by decide +kernel
theorem dX7_readName_8 : decode cX7_readName 8 = .ok (.ifCond .lt 22, 3) := by decide +kernel
theorem dX7_readName_11 : decode cX7_readName 11 = .ok (.aload_n 0, 1) := by decide +kernel
theorem dX7_readName_12 : decode cX7_readName 12 = .ok (.getfield 40, 3) := by decide +kernel
theorem dX7_readName_15 : decode cX7_readName 15 = .ok (.iload_n 1, 1) := by decide +kernel
theorem dX7_readName_16 : decode cX7_readName 16 = .ok (.caload, 1) := by decide +kernel
theorem dX7_readName_17 : decode cX7_readName 17 = .ok (.aload_n 0, 1) := by decide +kernel
theorem dX7_readName_18 : decode cX7_readName 18 = .ok (.invokevirtual 134, 3) := by decide +kernel
theorem dX7_readName_21 : decode cX7_readName 21 = .ok (.if_icmp .eq 9, 3) := by decide +kernel
theorem dX7_readName_24 : decode cX7_readName 24 = .ok (.iinc 1 (-1), 3) := by decide +kernel
theorem dX7_readName_27 : decode cX7_readName 27 = .ok (.goto (-20), 3) := by decide +kernel
theorem dX7_readName_30 : decode cX7_readName 30 = .ok (.iload_n 1, 1) := by decide +kernel
theorem dX7_readName_31 : decode cX7_readName 31 = .ok (.ifCond .ge 9, 3) := by decide +kernel
theorem dX7_readName_34 : decode cX7_readName 34 = .ok (.aload_n 0, 1) := by decide +kernel
theorem dX7_readName_35 : decode cX7_readName 35 = .ok (.iconst 1, 1) := by decide +kernel
theorem dX7_readName_36 : decode cX7_readName 36 = .ok (.putfield 138, 3) := by decide +kernel
theorem dX7_readName_39 : decode cX7_readName 39 = .ok (.return_, 1) := by decide +kernel
theorem dX7_readName_40 : decode cX7_readName 40 = .ok (.aload_n 0, 1) := by decide +kernel
theorem dX7_readName_41 : decode cX7_readName 41 = .ok (.dup, 1) := by decide +kernel
theorem dX7_readName_42 : decode cX7_readName 42 = .ok (.getfield 118, 3) := by decide +kernel
theorem dX7_readName_45 : decode cX7_readName 45 = .ok (.iconst 1, 1) := by decide +kernel
theorem dX7_readName_46 : decode cX7_readName 46 = .ok (.iadd, 1) := by decide +kernel
theorem dX7_readName_47 : decode cX7_readName 47 = .ok (.putfield 118, 3) := by decide +kernel
theorem dX7_readName_50 : decode cX7_readName 50 = .ok (.aload_n 0, 1) := by decide +kernel
theorem dX7_readName_51 : decode cX7_readName 51 = .ok (.aload_n 0, 1) := by decide +kernel
theorem dX7_readName_52 : decode cX7_readName 52 = .ok (.iconst 1, 1) := by decide +kernel
theorem dX7_readName_53 : decode cX7_readName 53 = .ok (.aload_n 0, 1) := by decide +kernel
theorem dX7_readName_54 : decode cX7_readName 54 = .ok (.getfield 145, 3) := by decide +kernel
theorem dX7_readName_57 : decode cX7_readName 57 = .ok (.iconst 1, 1) := by decide +kernel
theorem dX7_readName_58 : decode cX7_readName 58 = .ok (.isub, 1) := by decide +kernel
theorem dX7_readName_59 : decode cX7_readName 59 = .ok (.iload_n 1, 1) := by decide +kernel
theorem dX7_readName_60 : decode cX7_readName 60 = .ok (.isub, 1) := by decide +kernel
theorem dX7_readName_61 : decode cX7_readName 61 = .ok (.invokevirtual 180, 3) := by decide +kernel
theorem dX7_readName_64 : decode cX7_readName 64 = .ok (.invokevirtual 197, 3) := by decide +kernel
theorem dX7_readName_67 : decode cX7_readName 67 = .ok (.return_, 1) := by decide +kernel
theorem dX7_readAtom_0 : decode cX7_readAtom 0 = .ok (.aload_n 0, 1) := by decide +kernel
theorem dX7_readAtom_1 : decode cX7_readAtom 1 = .ok (.invokevirtual 134, 3) := by decide +kernel
theorem dX7_readAtom_4 : decode cX7_readAtom 4 = .ok (.istore_n 1, 1) := by decide +kernel
theorem dX7_readAtom_5 : decode cX7_readAtom 5 = .ok (.iload_n 1, 1) := by decide +kernel
theorem dX7_readAtom_6 : decode cX7_readAtom 6 = .ok (.invokestatic 128, 3) := by decide +kernel
theorem dX7_readAtom_9 : decode cX7_readAtom 9 = .ok (.ifCond .eq 10, 3) := by decide +kernel
theorem dX7_readAtom_12 : decode cX7_readAtom 12 = .ok (.aload_n 0, 1) := by decide +kernel
theorem dX7_readAtom_13 : decode cX7_readAtom 13 = .ok (.invokevirtual 201, 3) := by decide +kernel
theorem dX7_readAtom_16 : decode cX7_readAtom 16 = .ok (.goto 113, 3) := by decide +kernel
theorem dX7_readAtom_19 : decode cX7_readAtom 19 = .ok (.iload_n 1, 1) := by decide +kernel
theorem dX7_readAtom_20 : decode cX7_readAtom 20 = .ok (.invokestatic 124, 3) := by decide +kernel
theorem dX7_readAtom_23 : decode cX7_readAtom 23 = .ok (.ifCond .eq 10, 3) := by decide +kernel
theorem dX7_readAtom_26 : decode cX7_readAtom 26 = .ok (.aload_n 0, 1) := by decide +kernel
theorem dX7_readAtom_27 : decode cX7_readAtom 27 = .ok (.invokevirtual 204, 3) := by decide +kernel
theorem dX7_readAtom_30 : decode cX7_readAtom 30 = .ok (.goto 99, 3) := by decide +kernel
theorem dX7_readAtom_33 : decode cX7_readAtom 33 = .ok (.iload_n 1, 1) := by decide +kernel
theorem dX7_readAtom_34 : decode cX7_readAtom 34 = .ok (.invokestatic 131, 3) := by decide +kernel
theorem dX7_readAtom_37 : decode cX7_readAtom 37 = .ok (.ifCond .eq 62, 3) := by decide +kernel
theorem dX7_readAtom_40 : decode cX7_readAtom 40 = .ok (.aload_n 0, 1) := by decide +kernel
theorem dX7_readAtom_41 : decode cX7_readAtom 41 = .ok (.iconst 4, 1) := by decide +kernel
theorem dX7_readAtom_42 : decode cX7_readAtom 42 = .ok (.iload_n 1, 1) := by decide +kernel
theorem dX7_readAtom_43 : decode cX7_readAtom 43 = .ok (.bipush 65, 2) := by decide +kernel
theorem dX7_readAtom_45 : decode cX7_readAtom 45 = .ok (.isub, 1) := by decide +kernel
theorem dX7_readAtom_46 : decode cX7_readAtom 46 = .ok (.invokevirtual 180, 3) := by decide +kernel
theorem dX7_readAtom_49 : decode cX7_readAtom 49 = .ok (.istore_n 2, 1) := by decide +kernel
theorem dX7_readAtom_50 : decode cX7_readAtom 50 = .ok (.aload_n 0, 1) := by decide +kernel
theorem dX7_readAtom_51 : decode cX7_readAtom 51 = .ok (.dup, 1) := by decide +kernel
theorem dX7_readAtom_52 : decode cX7_readAtom 52 = .ok (.getfield 118, 3) := by decide +kernel
theorem dX7_readAtom_55 : decode cX7_readAtom 55 = .ok (.iconst 1, 1) := by decide +kernel
theorem dX7_readAtom_56 : decode cX7_readAtom 56 = .ok (.iadd, 1) := by decide +kernel
theorem dX7_readAtom_57 : decode cX7_readAtom 57 = .ok (.putfield 118, 3) := by decide +kernel
theorem dX7_readAtom_60 : decode cX7_readAtom 60 = .ok (.aload_n 0, 1) := by decide +kernel
theorem dX7_readAtom_61 : decode cX7_readAtom 61 = .ok (.getfield 24, 3) := by decide +kernel
theorem dX7_readAtom_64 : decode cX7_readAtom 64 = .ok (.iload_n 2, 1) := by decide +kernel
theorem dX7_readAtom_65 : decode cX7_readAtom 65 = .ok (.iaload, 1) := by decide +kernel
theorem dX7_readAtom_66 : decode cX7_readAtom 66 = .ok (.iconst 4, 1) := by decide +kernel
theorem dX7_readAtom_67 : decode cX7_readAtom 67 = .ok (.irem, 1) := by decide +kernel
theorem dX7_readAtom_68 : decode cX7_readAtom 68 = .ok (.ifCond .ne 9, 3) := by decide +kernel
theorem dX7_readAtom_71 : decode cX7_readAtom 71 = .ok (.aload_n 0, 1) := by decide +kernel
theorem dX7_readAtom_72 : decode cX7_readAtom 72 = .ok (.iload_n 2, 1) := by decide +kernel
theorem dX7_readAtom_73 : decode cX7_readAtom 73 = .ok (.invokevirtual 197, 3) := by decide +kernel
theorem dX7_readAtom_76 : decode cX7_readAtom 76 = .ok (.return_, 1) := by decide +kernel
theorem dX7_readAtom_77 : decode cX7_readAtom 77 = .ok (.aload_n 0, 1) := by decide +kernel
theorem dX7_readAtom_78 : decode cX7_readAtom 78 = .ok (.bipush 40, 2) := by decide +kernel
theorem dX7_readAtom_80 : decode cX7_readAtom 80 = .ok (.invokevirtual 184, 3) := by decide +kernel
theorem dX7_readAtom_83 : decode cX7_readAtom 83 = .ok (.aload_n 0, 1) := by decide +kernel
theorem dX7_readAtom_84 : decode cX7_readAtom 84 = .ok (.getfield 138, 3) := by decide +kernel
theorem dX7_readAtom_87 : decode cX7_readAtom 87 = .ok (.ifCond .ne 9, 3) := by decide +kernel
theorem dX7_readAtom_90 : decode cX7_readAtom 90 = .ok (.aload_n 0, 1) := by decide +kernel
theorem dX7_readAtom_91 : decode cX7_readAtom 91 = .ok (.iconst 3, 1) := by decide +kernel
theorem dX7_readAtom_92 : decode cX7_readAtom 92 = .ok (.iload_n 2, 1) := by decide +kernel
theorem dX7_readAtom_93 : decode cX7_readAtom 93 = .ok (.invokevirtual 174, 3) := by decide +kernel
theorem dX7_readAtom_96 : decode cX7_readAtom 96 = .ok (.goto 33, 3) := by decide +kernel
theorem dX7_readAtom_99 : decode cX7_readAtom 99 = .ok (.iload_n 1, 1) := by decide +kernel
theorem dX7_readAtom_100 : decode cX7_readAtom 100 = .ok (.bipush 40, 2) := by decide +kernel
theorem dX7_readAtom_102 : decode cX7_readAtom 102 = .ok (.if_icmp .ne 22, 3) := by decide +kernel
theorem dX7_readAtom_105 : decode cX7_readAtom 105 = .ok (.aload_n 0, 1) := by decide +kernel
theorem dX7_readAtom_106 : decode cX7_readAtom 106 = .ok (.dup, 1) := by decide +kernel
theorem dX7_readAtom_107 : decode cX7_readAtom 107 = .ok (.getfield 118, 3) := by decide +kernel
theorem dX7_readAtom_110 : decode cX7_readAtom 110 = .ok (.iconst 1, 1) := by decide +kernel
theorem dX7_readAtom_111 : decode cX7_readAtom 111 = .ok (.iadd, 1) := by decide +kernel
theorem dX7_readAtom_112 : decode cX7_readAtom 112 = .ok (.putfield 118, 3) := by decide +kernel
theorem dX7_readAtom_115 : decode cX7_readAtom 115 = .ok (.aload_n 0, 1) := by decide +kernel
theorem dX7_readAtom_116 : decode cX7_readAtom 116 = .ok (.iconst 4, 1) := by decide +kernel
theorem dX7_readAtom_117 : decode cX7_readAtom 117 = .ok (.iconst (-1), 1) := by decide +kernel
theorem dX7_readAtom_118 : decode cX7_readAtom 118 = .ok (.invokevirtual 174, 3) := by decide +kernel
theorem dX7_readAtom_121 : decode cX7_readAtom 121 = .ok (.goto 8, 3) := by decide +kernel
theorem dX7_readAtom_124 : decode cX7_readAtom 124 = .ok (.aload_n 0, 1) := by decide +kernel
theorem dX7_readAtom_125 : decode cX7_readAtom 125 = .ok (.iconst 1, 1) := by decide +kernel
theorem dX7_readAtom_126 : decode cX7_readAtom 126 = .ok (.putfield 138, 3) := by decide +kernel
theorem dX7_readAtom_129 : decode cX7_readAtom 129 = .ok (.return_, 1) := by decide +kernel
theorem dX7_readBehind_0 : decode cX7_readBehind 0 = .ok (.aload_n 0, 1) := by decide +kernel
theorem dX7_readBehind_1 : decode cX7_readBehind 1 = .ok (.invokevirtual 134, 3) := by decide +kernel
theorem dX7_readBehind_4 : decode cX7_readBehind 4 = .ok (.istore_n 1, 1) := by decide +kernel
theorem dX7_readBehind_5 : decode cX7_readBehind 5 = .ok (.iload_n 1, 1) := by decide +kernel
theorem dX7_readBehind_6 : decode cX7_readBehind 6 = .ok (.invokestatic 207, 3) := by decide +kernel
theorem dX7_readBehind_9 : decode cX7_readBehind 9 = .ok (.ifCond .eq 13, 3) := by decide +kernel
theorem dX7_readBehind_12 : decode cX7_readBehind 12 = .ok (.aload_n 0, 1) := by decide +kernel
theorem dX7_readBehind_13 : decode cX7_readBehind 13 = .ok (.bipush 32, 2) := by decide +kernel
theorem dX7_readBehind_15 : decode cX7_readBehind 15 = .ok (.iconst 4, 1) := by decide +kernel
theorem dX7_readBehind_16 : decode cX7_readBehind 16 = .ok (.invokevirtual 210, 3) := by decide +kernel
theorem dX7_readBehind_19 : decode cX7_readBehind 19 = .ok (.goto 162, 3) := by decide +kernel
theorem dX7_readBehind_22 : decode cX7_readBehind 22 = .ok (.iload_n 1, 1) := by decide +kernel
theorem dX7_readBehind_23 : decode cX7_readBehind 23 = .ok (.bipush 42, 2) := by decide +kernel
theorem dX7_readBehind_25 : decode cX7_readBehind 25 = .ok (.if_icmp .ne 12, 3) := by decide +kernel
theorem dX7_readBehind_28 : decode cX7_readBehind 28 = .ok (.aload_n 0, 1) := by decide +kernel
theorem dX7_readBehind_29 : decode cX7_readBehind 29 = .ok (.iload_n 1, 1) := by decide +kernel
theorem dX7_readBehind_30 : decode cX7_readBehind 30 = .ok (.iconst 3, 1) := by decide +kernel
theorem dX7_readBehind_31 : decode cX7_readBehind 31 = .ok (.invokevirtual 210, 3) := by decide +kernel
theorem dX7_readBehind_34 : decode cX7_readBehind 34 = .ok (.goto 147, 3) := by decide +kernel
theorem dX7_readBehind_37 : decode cX7_readBehind 37 = .ok (.iload_n 1, 1) := by decide +kernel
theorem dX7_readBehind_38 : decode cX7_readBehind 38 = .ok (.bipush 43, 2) := by decide +kernel
theorem dX7_readBehind_40 : decode cX7_readBehind 40 = .ok (.if_icmp .eq 9, 3) := by decide +kernel
theorem dX7_readBehind_43 : decode cX7_readBehind 43 = .ok (.iload_n 1, 1) := by decide +kernel
theorem dX7_readBehind_44 : decode cX7_readBehind 44 = .ok (.bipush 45, 2) := by decide +kernel
theorem dX7_readBehind_46 : decode cX7_readBehind 46 = .ok (.if_icmp .ne 12, 3) := by decide +kernel
theorem dX7_readBehind_49 : decode cX7_readBehind 49 = .ok (.aload_n 0, 1) := by decide +kernel
theorem dX7_readBehind_50 : decode cX7_readBehind 50 = .ok (.iload_n 1, 1) := by decide +kernel
theorem dX7_readBehind_51 : decode cX7_readBehind 51 = .ok (.iconst 2, 1) := by decide +kernel
theorem dX7_readBehind_52 : decode cX7_readBehind 52 = .ok (.invokevirtual 210, 3) := by decide +kernel
theorem dX7_readBehind_55 : decode cX7_readBehind 55 = .ok (.goto 126, 3) := by decide +kernel
theorem dX7_readBehind_58 : decode cX7_readBehind 58 = .ok (.iload_n 1, 1) := by decide +kernel
theorem dX7_readBehind_59 : decode cX7_readBehind 59 = .ok (.bipush 60, 2) := by decide +kernel
theorem dX7_readBehind_61 : decode cX7_readBehind 61 = .ok (.if_icmp .eq 9, 3) := by decide +kernel
theorem dX7_readBehind_64 : decode cX7_readBehind 64 = .ok (.iload_n 1, 1) := by decide +kernel
theorem dX7_readBehind_65 : decode cX7_readBehind 65 = .ok (.bipush 126, 2) := by decide +kernel
theorem dX7_readBehind_67 : decode cX7_readBehind 67 = .ok (.if_icmp .ne 50, 3) := by decide +kernel
theorem dX7_readBehind_70 : decode cX7_readBehind 70 = .ok (.aload_n 0, 1) := by decide +kernel
theorem dX7_readBehind_71 : decode cX7_readBehind 71 = .ok (.getfield 61, 3) := by decide +kernel
theorem dX7_readBehind_74 : decode cX7_readBehind 74 = .ok (.aload_n 0, 1) := by decide +kernel
theorem dX7_readBehind_75 : decode cX7_readBehind 75 = .ok (.getfield 148, 3) := by decide +kernel
theorem dX7_readBehind_78 : decode cX7_readBehind 78 = .ok (.iconst 1, 1) := by decide +kernel
theorem dX7_readBehind_79 : decode cX7_readBehind 79 = .ok (.isub, 1) := by decide +kernel
theorem dX7_readBehind_80 : decode cX7_readBehind 80 = .ok (.baload, 1) := by decide +kernel
theorem dX7_readBehind_81 : decode cX7_readBehind 81 = .ok (.ifCond .eq 8, 3) := by decide +kernel
theorem dX7_readBehind_84 : decode cX7_readBehind 84 = .ok (.aload_n 0, 1) := by decide +kernel
theorem dX7_readBehind_85 : decode cX7_readBehind 85 = .ok (.iconst 1, 1) := by decide +kernel
theorem dX7_readBehind_86 : decode cX7_readBehind 86 = .ok (.putfield 138, 3) := by decide +kernel
theorem dX7_readBehind_89 : decode cX7_readBehind 89 = .ok (.aload_n 0, 1) := by decide +kernel
theorem dX7_readBehind_90 : decode cX7_readBehind 90 = .ok (.getfield 61, 3) := by decide +kernel
theorem dX7_readBehind_93 : decode cX7_readBehind 93 = .ok (.aload_n 0, 1) := by decide +kernel
theorem dX7_readBehind_94 : decode cX7_readBehind 94 = .ok (.getfield 148, 3) := by decide +kernel
theorem dX7_readBehind_97 : decode cX7_readBehind 97 = .ok (.iconst 1, 1) := by decide +kernel
theorem dX7_readBehind_98 : decode cX7_readBehind 98 = .ok (.isub, 1) := by decide +kernel
theorem dX7_readBehind_99 : decode cX7_readBehind 99 = .ok (.iconst 1, 1) := by decide +kernel
theorem dX7_readBehind_100 : decode cX7_readBehind 100 = .ok (.bastore, 1) := by decide +kernel
theorem dX7_readBehind_101 : decode cX7_readBehind 101 = .ok (.aload_n 0, 1) := by decide +kernel
theorem dX7_readBehind_102 : decode cX7_readBehind 102 = .ok (.getfield 138, 3) := by decide +kernel
theorem dX7_readBehind_105 : decode cX7_readBehind 105 = .ok (.ifCond .ne 76, 3) := by decide +kernel
theorem dX7_readBehind_108 : decode cX7_readBehind 108 = .ok (.aload_n 0, 1) := by decide +kernel
theorem dX7_readBehind_109 : decode cX7_readBehind 109 = .ok (.iload_n 1, 1) := by decide +kernel
theorem dX7_readBehind_110 : decode cX7_readBehind 110 = .ok (.iconst 1, 1) := by decide +kernel
theorem dX7_readBehind_111 : decode cX7_readBehind 111 = .ok (.invokevirtual 210, 3) := by decide +kernel
theorem dX7_readBehind_114 : decode cX7_readBehind 114 = .ok (.goto 67, 3) := by decide +kernel
theorem dX7_readBehind_117 : decode cX7_readBehind 117 = .ok (.aload_n 0, 1) := by decide +kernel
theorem dX7_readBehind_118 : decode cX7_readBehind 118 = .ok (.iconst 1, 1) := by decide +kernel
theorem dX7_readBehind_119 : decode cX7_readBehind 119 = .ok (.invokevirtual 214, 3) := by decide +kernel
theorem dX7_readBehind_122 : decode cX7_readBehind 122 = .ok (.aload_n 0, 1) := by decide +kernel
theorem dX7_readBehind_123 : decode cX7_readBehind 123 = .ok (.dup, 1) := by decide +kernel
theorem dX7_readBehind_124 : decode cX7_readBehind 124 = .ok (.getfield 191, 3) := by decide +kernel
theorem dX7_readBehind_127 : decode cX7_readBehind 127 = .ok (.iconst 1, 1) := by decide +kernel
theorem dX7_readBehind_128 : decode cX7_readBehind 128 = .ok (.isub, 1) := by decide +kernel
theorem dX7_readBehind_129 : decode cX7_readBehind 129 = .ok (.putfield 191, 3) := by decide +kernel
theorem dX7_readBehind_132 : decode cX7_readBehind 132 = .ok (.aload_n 0, 1) := by decide +kernel
theorem dX7_readBehind_133 : decode cX7_readBehind 133 = .ok (.getfield 73, 3) := by decide +kernel
theorem dX7_readBehind_136 : decode cX7_readBehind 136 = .ok (.aload_n 0, 1) := by decide +kernel
theorem dX7_readBehind_137 : decode cX7_readBehind 137 = .ok (.getfield 191, 3) := by decide +kernel
theorem dX7_readBehind_140 : decode cX7_readBehind 140 = .ok (.iaload, 1) := by decide +kernel
theorem dX7_readBehind_141 : decode cX7_readBehind 141 = .ok (.istore_n 2, 1) := by decide +kernel
theorem dX7_readBehind_142 : decode cX7_readBehind 142 = .ok (.aload_n 0, 1) := by decide +kernel
theorem dX7_readBehind_143 : decode cX7_readBehind 143 = .ok (.getfield 64, 3) := by decide +kernel
theorem dX7_readBehind_146 : decode cX7_readBehind 146 = .ok (.aload_n 0, 1) := by decide +kernel
theorem dX7_readBehind_147 : decode cX7_readBehind 147 = .ok (.getfield 148, 3) := by decide +kernel
theorem dX7_readBehind_150 : decode cX7_readBehind 150 = .ok (.iconst 1, 1) := by decide +kernel
theorem dX7_readBehind_151 : decode cX7_readBehind 151 = .ok (.isub, 1) := by decide +kernel
theorem dX7_readBehind_152 : decode cX7_readBehind 152 = .ok (.iaload, 1) := by decide +kernel
theorem dX7_readBehind_153 : decode cX7_readBehind 153 = .ok (.istore_n 3, 1) := by decide +kernel
theorem dX7_readBehind_154 : decode cX7_readBehind 154 = .ok (.iload_n 3, 1) := by decide +kernel
theorem dX7_readBehind_155 : decode cX7_readBehind 155 = .ok (.ifCond .ge 9, 3) := by decide +kernel
theorem dX7_readBehind_158 : decode cX7_readBehind 158 = .ok (.aload_n 0, 1) := by decide +kernel
theorem dX7_readBehind_159 : decode cX7_readBehind 159 = .ok (.iload_n 2, 1) := by decide +kernel
theorem dX7_readBehind_160 : decode cX7_readBehind 160 = .ok (.invokevirtual 217, 3) := by decide +kernel
theorem dX7_readBehind_163 : decode cX7_readBehind 163 = .ok (.return_, 1) := by decide +kernel
theorem dX7_readBehind_164 : decode cX7_readBehind 164 = .ok (.aload_n 0, 1) := by decide +kernel
theorem dX7_readBehind_165 : decode cX7_readBehind 165 = .ok (.iload_n 3, 1) := by decide +kernel
theorem dX7_readBehind_166 : decode cX7_readBehind 166 = .ok (.iload_n 2, 1) := by decide +kernel
theorem dX7_readBehind_167 : decode cX7_readBehind 167 = .ok (.invokevirtual 194, 3) := by decide +kernel
theorem dX7_readBehind_170 : decode cX7_readBehind 170 = .ok (.aload_n 0, 1) := by decide +kernel
theorem dX7_readBehind_171 : decode cX7_readBehind 171 = .ok (.bipush 123, 2) := by decide +kernel
theorem dX7_readBehind_173 : decode cX7_readBehind 173 = .ok (.invokevirtual 184, 3) := by decide +kernel
theorem dX7_readBehind_176 : decode cX7_readBehind 176 = .ok (.aload_n 0, 1) := by decide +kernel
theorem dX7_readBehind_177 : decode cX7_readBehind 177 = .ok (.iconst 3, 1) := by decide +kernel
theorem dX7_readBehind_178 : decode cX7_readBehind 178 = .ok (.putfield 157, 3) := by decide +kernel
theorem dX7_readBehind_181 : decode cX7_readBehind 181 = .ok (.return_, 1) := by decide +kernel
theorem dX7_join_0 : decode cX7_join 0 = .ok (.aload_n 0, 1) := by decide +kernel
theorem dX7_join_1 : decode cX7_join 1 = .ok (.iload_n 2, 1) := by decide +kernel
theorem dX7_join_2 : decode cX7_join 2 = .ok (.invokevirtual 214, 3) := by decide +kernel
theorem dX7_join_5 : decode cX7_join 5 = .ok (.aload_n 0, 1) := by decide +kernel
theorem dX7_join_6 : decode cX7_join 6 = .ok (.getfield 76, 3) := by decide +kernel
theorem dX7_join_9 : decode cX7_join 9 = .ok (.aload_n 0, 1) := by decide +kernel
theorem dX7_join_10 : decode cX7_join 10 = .ok (.getfield 154, 3) := by decide +kernel
theorem dX7_join_13 : decode cX7_join 13 = .ok (.iload_n 1, 1) := by decide +kernel
theorem dX7_join_14 : decode cX7_join 14 = .ok (.castore, 1) := by decide +kernel
theorem dX7_join_15 : decode cX7_join 15 = .ok (.aload_n 0, 1) := by decide +kernel
theorem dX7_join_16 : decode cX7_join 16 = .ok (.dup, 1) := by decide +kernel
theorem dX7_join_17 : decode cX7_join 17 = .ok (.getfield 154, 3) := by decide +kernel
theorem dX7_join_20 : decode cX7_join 20 = .ok (.iconst 1, 1) := by decide +kernel
theorem dX7_join_21 : decode cX7_join 21 = .ok (.iadd, 1) := by decide +kernel
theorem dX7_join_22 : decode cX7_join 22 = .ok (.putfield 154, 3) := by decide +kernel
theorem dX7_join_25 : decode cX7_join 25 = .ok (.iload_n 1, 1) := by decide +kernel
theorem dX7_join_26 : decode cX7_join 26 = .ok (.bipush 32, 2) := by decide +kernel
theorem dX7_join_28 : decode cX7_join 28 = .ok (.if_icmp .eq 13, 3) := by decide +kernel
theorem dX7_join_31 : decode cX7_join 31 = .ok (.aload_n 0, 1) := by decide +kernel
theorem dX7_join_32 : decode cX7_join 32 = .ok (.dup, 1) := by decide +kernel
theorem dX7_join_33 : decode cX7_join 33 = .ok (.getfield 118, 3) := by decide +kernel
theorem dX7_join_36 : decode cX7_join 36 = .ok (.iconst 1, 1) := by decide +kernel
theorem dX7_join_37 : decode cX7_join 37 = .ok (.iadd, 1) := by decide +kernel
theorem dX7_join_38 : decode cX7_join 38 = .ok (.putfield 118, 3) := by decide +kernel
theorem dX7_join_41 : decode cX7_join 41 = .ok (.aload_n 0, 1) := by decide +kernel
theorem dX7_join_42 : decode cX7_join 42 = .ok (.iconst 1, 1) := by decide +kernel
theorem dX7_join_43 : decode cX7_join 43 = .ok (.putfield 157, 3) := by decide +kernel
theorem dX7_join_46 : decode cX7_join 46 = .ok (.return_, 1) := by decide +kernel
theorem dX7_readCase_0 : decode cX7_readCase 0 = .ok (.aload_n 0, 1) := by decide +kernel
theorem dX7_readCase_1 : decode cX7_readCase 1 = .ok (.getfield 64, 3) := by decide +kernel
theorem dX7_readCase_4 : decode cX7_readCase 4 = .ok (.aload_n 0, 1) := by decide +kernel
theorem dX7_readCase_5 : decode cX7_readCase 5 = .ok (.getfield 148, 3) := by decide +kernel
theorem dX7_readCase_8 : decode cX7_readCase 8 = .ok (.iconst 1, 1) := by decide +kernel
theorem dX7_readCase_9 : decode cX7_readCase 9 = .ok (.isub, 1) := by decide +kernel
theorem dX7_readCase_10 : decode cX7_readCase 10 = .ok (.iaload, 1) := by decide +kernel
theorem dX7_readCase_11 : decode cX7_readCase 11 = .ok (.istore_n 1, 1) := by decide +kernel
theorem dX7_readCase_12 : decode cX7_readCase 12 = .ok (.aload_n 0, 1) := by decide +kernel
theorem dX7_readCase_13 : decode cX7_readCase 13 = .ok (.invokevirtual 134, 3) := by decide +kernel
theorem dX7_readCase_16 : decode cX7_readCase 16 = .ok (.istore_n 2, 1) := by decide +kernel
theorem dX7_readCase_17 : decode cX7_readCase 17 = .ok (.iload_n 2, 1) := by decide +kernel
theorem dX7_readCase_18 : decode cX7_readCase 18 = .ok (.invokestatic 131, 3) := by decide +kernel
theorem dX7_readCase_21 : decode cX7_readCase 21 = .ok (.ifCond .ne 8, 3) := by decide +kernel
theorem dX7_readCase_24 : decode cX7_readCase 24 = .ok (.aload_n 0, 1) := by decide +kernel
theorem dX7_readCase_25 : decode cX7_readCase 25 = .ok (.iconst 1, 1) := by decide +kernel
theorem dX7_readCase_26 : decode cX7_readCase 26 = .ok (.putfield 138, 3) := by decide +kernel
theorem dX7_readCase_29 : decode cX7_readCase 29 = .ok (.iconst 1, 1) := by decide +kernel
theorem dX7_readCase_30 : decode cX7_readCase 30 = .ok (.istore_n 3, 1) := by decide +kernel
theorem dX7_readCase_31 : decode cX7_readCase 31 = .ok (.iload_n 3, 1) := by decide +kernel
theorem dX7_readCase_32 : decode cX7_readCase 32 = .ok (.aload_n 0, 1) := by decide +kernel
theorem dX7_readCase_33 : decode cX7_readCase 33 = .ok (.getfield 33, 3) := by decide +kernel
theorem dX7_readCase_36 : decode cX7_readCase 36 = .ok (.iload_n 1, 1) := by decide +kernel
theorem dX7_readCase_37 : decode cX7_readCase 37 = .ok (.iaload, 1) := by decide +kernel
theorem dX7_readCase_38 : decode cX7_readCase 38 = .ok (.if_icmp .ge 32, 3) := by decide +kernel
theorem dX7_readCase_41 : decode cX7_readCase 41 = .ok (.aload_n 0, 1) := by decide +kernel
theorem dX7_readCase_42 : decode cX7_readCase 42 = .ok (.getfield 24, 3) := by decide +kernel
theorem dX7_readCase_45 : decode cX7_readCase 45 = .ok (.aload_n 0, 1) := by decide +kernel
theorem dX7_readCase_46 : decode cX7_readCase 46 = .ok (.iload_n 1, 1) := by decide +kernel
theorem dX7_readCase_47 : decode cX7_readCase 47 = .ok (.iload_n 3, 1) := by decide +kernel
theorem dX7_readCase_48 : decode cX7_readCase 48 = .ok (.invokevirtual 220, 3) := by decide +kernel
theorem dX7_readCase_51 : decode cX7_readCase 51 = .ok (.iaload, 1) := by decide +kernel
theorem dX7_readCase_52 : decode cX7_readCase 52 = .ok (.iload_n 2, 1) := by decide +kernel
theorem dX7_readCase_53 : decode cX7_readCase 53 = .ok (.bipush 65, 2) := by decide +kernel
theorem dX7_readCase_55 : decode cX7_readCase 55 = .ok (.isub, 1) := by decide +kernel
theorem dX7_readCase_56 : decode cX7_readCase 56 = .ok (.if_icmp .ne 8, 3) := by decide +kernel
theorem dX7_readCase_59 : decode cX7_readCase 59 = .ok (.aload_n 0, 1) := by decide +kernel
theorem dX7_readCase_60 : decode cX7_readCase 60 = .ok (.iconst 1, 1) := by decide +kernel
theorem dX7_readCase_61 : decode cX7_readCase 61 = .ok (.putfield 138, 3) := by decide +kernel
theorem dX7_readCase_64 : decode cX7_readCase 64 = .ok (.iinc 3 1, 3) := by decide +kernel
theorem dX7_readCase_67 : decode cX7_readCase 67 = .ok (.goto (-36), 3) := by decide +kernel
theorem dX7_readCase_70 : decode cX7_readCase 70 = .ok (.aload_n 0, 1) := by decide +kernel
theorem dX7_readCase_71 : decode cX7_readCase 71 = .ok (.getfield 138, 3) := by decide +kernel
theorem dX7_readCase_74 : decode cX7_readCase 74 = .ok (.ifCond .eq 4, 3) := by decide +kernel
theorem dX7_readCase_77 : decode cX7_readCase 77 = .ok (.return_, 1) := by decide +kernel
theorem dX7_readCase_78 : decode cX7_readCase 78 = .ok (.aload_n 0, 1) := by decide +kernel
theorem dX7_readCase_79 : decode cX7_readCase 79 = .ok (.dup, 1) := by decide +kernel
theorem dX7_readCase_80 : decode cX7_readCase 80 = .ok (.getfield 118, 3) := by decide +kernel
theorem dX7_readCase_83 : decode cX7_readCase 83 = .ok (.iconst 1, 1) := by decide +kernel
theorem dX7_readCase_84 : decode cX7_readCase 84 = .ok (.iadd, 1) := by decide +kernel
theorem dX7_readCase_85 : decode cX7_readCase 85 = .ok (.putfield 118, 3) := by decide +kernel
theorem dX7_readCase_88 : decode cX7_readCase 88 = .ok (.aload_n 0, 1) := by decide +kernel
theorem dX7_readCase_89 : decode cX7_readCase 89 = .ok (.bipush 9, 2) := by decide +kernel
theorem dX7_readCase_91 : decode cX7_readCase 91 = .ok (.iload_n 2, 1) := by decide +kernel
theorem dX7_readCase_92 : decode cX7_readCase 92 = .ok (.bipush 65, 2) := by decide +kernel
theorem dX7_readCase_94 : decode cX7_readCase 94 = .ok (.isub, 1) := by decide +kernel
theorem dX7_readCase_95 : decode cX7_readCase 95 = .ok (.invokevirtual 180, 3) := by decide +kernel
theorem dX7_readCase_98 : decode cX7_readCase 98 = .ok (.istore_n 3, 1) := by decide +kernel
theorem dX7_readCase_99 : decode cX7_readCase 99 = .ok (.aload_n 0, 1) := by decide +kernel
theorem dX7_readCase_100 : decode cX7_readCase 100 = .ok (.iload_n 1, 1) := by decide +kernel
theorem dX7_readCase_101 : decode cX7_readCase 101 = .ok (.iload_n 3, 1) := by decide +kernel
theorem dX7_readCase_102 : decode cX7_readCase 102 = .ok (.invokevirtual 194, 3) := by decide +kernel
theorem dX7_readCase_105 : decode cX7_readCase 105 = .ok (.aload_n 0, 1) := by decide +kernel
theorem dX7_readCase_106 : decode cX7_readCase 106 = .ok (.getfield 145, 3) := by decide +kernel
theorem dX7_readCase_109 : decode cX7_readCase 109 = .ok (.istore 4, 2) := by decide +kernel
theorem dX7_readCase_111 : decode cX7_readCase 111 = .ok (.iconst 0, 1) := by decide +kernel
theorem dX7_readCase_112 : decode cX7_readCase 112 = .ok (.istore 5, 2) := by decide +kernel
theorem dX7_readCase_114 : decode cX7_readCase 114 = .ok (.iload 5, 2) := by decide +kernel
theorem dX7_readCase_116 : decode cX7_readCase 116 = .ok (.aload_n 0, 1) := by decide +kernel
theorem dX7_readCase_117 : decode cX7_readCase 117 = .ok (.getfield 24, 3) := by decide +kernel
theorem dX7_readCase_120 : decode cX7_readCase 120 = .ok (.iload_n 3, 1) := by decide +kernel
theorem dX7_readCase_121 : decode cX7_readCase 121 = .ok (.iaload, 1) := by decide +kernel
theorem dX7_readCase_122 : decode cX7_readCase 122 = .ok (.iconst 4, 1) := by decide +kernel
theorem dX7_readCase_123 : decode cX7_readCase 123 = .ok (.irem, 1) := by decide +kernel
theorem dX7_readCase_124 : decode cX7_readCase 124 = .ok (.if_icmp .ge 73, 3) := by decide +kernel
theorem dX7_readCase_127 : decode cX7_readCase 127 = .ok (.aload_n 0, 1) := by decide +kernel
theorem dX7_readCase_128 : decode cX7_readCase 128 = .ok (.getfield 138, 3) := by decide +kernel
theorem dX7_readCase_131 : decode cX7_readCase 131 = .ok (.ifCond .ne 66, 3) := by decide +kernel
theorem dX7_readCase_134 : decode cX7_readCase 134 = .ok (.iload 4, 2) := by decide +kernel
theorem dX7_readCase_136 : decode cX7_readCase 136 = .ok (.istore 6, 2) := by decide +kernel
theorem dX7_readCase_138 : decode cX7_readCase 138 = .ok (.iload 6, 2) := by decide +kernel
theorem dX7_readCase_140 : decode cX7_readCase 140 = .ok (.aload_n 0, 1) := by decide +kernel
theorem dX7_readCase_141 : decode cX7_readCase 141 = .ok (.getfield 145, 3) := by decide +kernel
theorem dX7_readCase_144 : decode cX7_readCase 144 = .ok (.if_icmp .ge 28, 3) := by decide +kernel
theorem dX7_readCase_147 : decode cX7_readCase 147 = .ok (.aload_n 0, 1) := by decide +kernel
theorem dX7_readCase_148 : decode cX7_readCase 148 = .ok (.getfield 40, 3) := by decide +kernel
theorem dX7_readCase_151 : decode cX7_readCase 151 = .ok (.iload 6, 2) := by decide +kernel
theorem dX7_readCase_153 : decode cX7_readCase 153 = .ok (.caload, 1) := by decide +kernel
theorem dX7_readCase_154 : decode cX7_readCase 154 = .ok (.aload_n 0, 1) := by decide +kernel
theorem dX7_readCase_155 : decode cX7_readCase 155 = .ok (.invokevirtual 134, 3) := by decide +kernel
theorem dX7_readCase_158 : decode cX7_readCase 158 = .ok (.if_icmp .ne 8, 3) := by decide +kernel
theorem dX7_readCase_161 : decode cX7_readCase 161 = .ok (.aload_n 0, 1) := by decide +kernel
theorem dX7_readCase_162 : decode cX7_readCase 162 = .ok (.iconst 1, 1) := by decide +kernel
theorem dX7_readCase_163 : decode cX7_readCase 163 = .ok (.putfield 138, 3) := by decide +kernel
theorem dX7_readCase_166 : decode cX7_readCase 166 = .ok (.iinc 6 1, 3) := by decide +kernel
theorem dX7_readCase_169 : decode cX7_readCase 169 = .ok (.goto (-31), 3) := by decide +kernel
theorem dX7_readCase_172 : decode cX7_readCase 172 = .ok (.aload_n 0, 1) := by decide +kernel
theorem dX7_readCase_173 : decode cX7_readCase 173 = .ok (.invokevirtual 160, 3) := by decide +kernel
theorem dX7_readCase_176 : decode cX7_readCase 176 = .ok (.istore 6, 2) := by decide +kernel
theorem dX7_readCase_178 : decode cX7_readCase 178 = .ok (.aload_n 0, 1) := by decide +kernel
theorem dX7_readCase_179 : decode cX7_readCase 179 = .ok (.getfield 138, 3) := by decide +kernel
theorem dX7_readCase_182 : decode cX7_readCase 182 = .ok (.ifCond .ne 9, 3) := by decide +kernel
theorem dX7_readCase_185 : decode cX7_readCase 185 = .ok (.aload_n 0, 1) := by decide +kernel
theorem dX7_readCase_186 : decode cX7_readCase 186 = .ok (.iload 6, 2) := by decide +kernel
theorem dX7_readCase_188 : decode cX7_readCase 188 = .ok (.invokevirtual 163, 3) := by decide +kernel
theorem dX7_readCase_191 : decode cX7_readCase 191 = .ok (.iinc 5 1, 3) := by decide +kernel
theorem dX7_readCase_194 : decode cX7_readCase 194 = .ok (.goto (-80), 3) := by decide +kernel
theorem dX7_readCase_197 : decode cX7_readCase 197 = .ok (.aload_n 0, 1) := by decide +kernel
theorem dX7_readCase_198 : decode cX7_readCase 198 = .ok (.getfield 138, 3) := by decide +kernel
theorem dX7_readCase_201 : decode cX7_readCase 201 = .ok (.ifCond .ne 9, 3) := by decide +kernel
theorem dX7_readCase_204 : decode cX7_readCase 204 = .ok (.aload_n 0, 1) := by decide +kernel
theorem dX7_readCase_205 : decode cX7_readCase 205 = .ok (.bipush 58, 2) := by decide +kernel
theorem dX7_readCase_207 : decode cX7_readCase 207 = .ok (.invokevirtual 184, 3) := by decide +kernel
theorem dX7_readCase_210 : decode cX7_readCase 210 = .ok (.aload_n 0, 1) := by decide +kernel
theorem dX7_readCase_211 : decode cX7_readCase 211 = .ok (.iconst 5, 1) := by decide +kernel
theorem dX7_readCase_212 : decode cX7_readCase 212 = .ok (.iload_n 3, 1) := by decide +kernel
theorem dX7_readCase_213 : decode cX7_readCase 213 = .ok (.invokevirtual 174, 3) := by decide +kernel
theorem dX7_readCase_216 : decode cX7_readCase 216 = .ok (.aload_n 0, 1) := by decide +kernel
theorem dX7_readCase_217 : decode cX7_readCase 217 = .ok (.getfield 138, 3) := by decide +kernel
theorem dX7_readCase_220 : decode cX7_readCase 220 = .ok (.ifCond .ne 16, 3) := by decide +kernel
theorem dX7_readCase_223 : decode cX7_readCase 223 = .ok (.aload_n 0, 1) := by decide +kernel
theorem dX7_readCase_224 : decode cX7_readCase 224 = .ok (.getfield 49, 3) := by decide +kernel
theorem dX7_readCase_227 : decode cX7_readCase 227 = .ok (.aload_n 0, 1) := by decide +kernel
theorem dX7_readCase_228 : decode cX7_readCase 228 = .ok (.getfield 148, 3) := by decide +kernel
theorem dX7_readCase_231 : decode cX7_readCase 231 = .ok (.iconst 1, 1) := by decide +kernel
theorem dX7_readCase_232 : decode cX7_readCase 232 = .ok (.isub, 1) := by decide +kernel
theorem dX7_readCase_233 : decode cX7_readCase 233 = .ok (.iload 4, 2) := by decide +kernel
theorem dX7_readCase_235 : decode cX7_readCase 235 = .ok (.iastore, 1) := by decide +kernel
theorem dX7_readCase_236 : decode cX7_readCase 236 = .ok (.return_, 1) := by decide +kernel
theorem dX7_completed_0 : decode cX7_completed 0 = .ok (.iload_n 1, 1) := by decide +kernel
theorem dX7_completed_1 : decode cX7_completed 1 = .ok (.istore_n 2, 1) := by decide +kernel
theorem dX7_completed_2 : decode cX7_completed 2 = .ok (.aload_n 0, 1) := by decide +kernel
theorem dX7_completed_3 : decode cX7_completed 3 = .ok (.getfield 148, 3) := by decide +kernel
theorem dX7_completed_6 : decode cX7_completed 6 = .ok (.iconst 1, 1) := by decide +kernel
theorem dX7_completed_7 : decode cX7_completed 7 = .ok (.isub, 1) := by decide +kernel
theorem dX7_completed_8 : decode cX7_completed 8 = .ok (.istore_n 3, 1) := by decide +kernel
theorem dX7_completed_9 : decode cX7_completed 9 = .ok (.aload_n 0, 1) := by decide +kernel
theorem dX7_completed_10 : decode cX7_completed 10 = .ok (.getfield 151, 3) := by decide +kernel
theorem dX7_completed_13 : decode cX7_completed 13 = .ok (.aload_n 0, 1) := by decide +kernel
theorem dX7_completed_14 : decode cX7_completed 14 = .ok (.getfield 46, 3) := by decide +kernel
theorem dX7_completed_17 : decode cX7_completed 17 = .ok (.iload_n 3, 1) := by decide +kernel
theorem dX7_completed_18 : decode cX7_completed 18 = .ok (.iaload, 1) := by decide +kernel
theorem dX7_completed_19 : decode cX7_completed 19 = .ok (.if_icmp .le 69, 3) := by decide +kernel
theorem dX7_completed_22 : decode cX7_completed 22 = .ok (.aload_n 0, 1) := by decide +kernel
theorem dX7_completed_23 : decode cX7_completed 23 = .ok (.dup, 1) := by decide +kernel
theorem dX7_completed_24 : decode cX7_completed 24 = .ok (.getfield 151, 3) := by decide +kernel
theorem dX7_completed_27 : decode cX7_completed 27 = .ok (.iconst 1, 1) := by decide +kernel
theorem dX7_completed_28 : decode cX7_completed 28 = .ok (.isub, 1) := by decide +kernel
theorem dX7_completed_29 : decode cX7_completed 29 = .ok (.putfield 151, 3) := by decide +kernel
theorem dX7_completed_32 : decode cX7_completed 32 = .ok (.aload_n 0, 1) := by decide +kernel
theorem dX7_completed_33 : decode cX7_completed 33 = .ok (.aload_n 0, 1) := by decide +kernel
theorem dX7_completed_34 : decode cX7_completed 34 = .ok (.getfield 67, 3) := by decide +kernel
theorem dX7_completed_37 : decode cX7_completed 37 = .ok (.aload_n 0, 1) := by decide +kernel
theorem dX7_completed_38 : decode cX7_completed 38 = .ok (.getfield 151, 3) := by decide +kernel
theorem dX7_completed_41 : decode cX7_completed 41 = .ok (.iaload, 1) := by decide +kernel
theorem dX7_completed_42 : decode cX7_completed 42 = .ok (.iconst 0, 1) := by decide +kernel
theorem dX7_completed_43 : decode cX7_completed 43 = .ok (.invokevirtual 180, 3) := by decide +kernel
theorem dX7_completed_46 : decode cX7_completed 46 = .ok (.istore 4, 2) := by decide +kernel
theorem dX7_completed_48 : decode cX7_completed 48 = .ok (.aload_n 0, 1) := by decide +kernel
theorem dX7_completed_49 : decode cX7_completed 49 = .ok (.getfield 70, 3) := by decide +kernel
theorem dX7_completed_52 : decode cX7_completed 52 = .ok (.aload_n 0, 1) := by decide +kernel
theorem dX7_completed_53 : decode cX7_completed 53 = .ok (.getfield 151, 3) := by decide +kernel
theorem dX7_completed_56 : decode cX7_completed 56 = .ok (.iaload, 1) := by decide +kernel
theorem dX7_completed_57 : decode cX7_completed 57 = .ok (.ifCond .lt 18, 3) := by decide +kernel
theorem dX7_completed_60 : decode cX7_completed 60 = .ok (.aload_n 0, 1) := by decide +kernel
theorem dX7_completed_61 : decode cX7_completed 61 = .ok (.iload 4, 2) := by decide +kernel
theorem dX7_completed_63 : decode cX7_completed 63 = .ok (.aload_n 0, 1) := by decide +kernel
theorem dX7_completed_64 : decode cX7_completed 64 = .ok (.getfield 70, 3) := by decide +kernel
theorem dX7_completed_67 : decode cX7_completed 67 = .ok (.aload_n 0, 1) := by decide +kernel
theorem dX7_completed_68 : decode cX7_completed 68 = .ok (.getfield 151, 3) := by decide +kernel
theorem dX7_completed_71 : decode cX7_completed 71 = .ok (.iaload, 1) := by decide +kernel
theorem dX7_completed_72 : decode cX7_completed 72 = .ok (.invokevirtual 194, 3) := by decide +kernel
theorem dX7_completed_75 : decode cX7_completed 75 = .ok (.aload_n 0, 1) := by decide +kernel
theorem dX7_completed_76 : decode cX7_completed 76 = .ok (.iload 4, 2) := by decide +kernel
theorem dX7_completed_78 : decode cX7_completed 78 = .ok (.iload_n 2, 1) := by decide +kernel
theorem dX7_completed_79 : decode cX7_completed 79 = .ok (.invokevirtual 194, 3) := by decide +kernel
theorem dX7_completed_82 : decode cX7_completed 82 = .ok (.iload 4, 2) := by decide +kernel
theorem dX7_completed_84 : decode cX7_completed 84 = .ok (.istore_n 2, 1) := by decide +kernel
theorem dX7_completed_85 : decode cX7_completed 85 = .ok (.goto (-76), 3) := by decide +kernel
theorem dX7_completed_88 : decode cX7_completed 88 = .ok (.aload_n 0, 1) := by decide +kernel
theorem dX7_completed_89 : decode cX7_completed 89 = .ok (.aload_n 0, 1) := by decide +kernel
theorem dX7_completed_90 : decode cX7_completed 90 = .ok (.getfield 49, 3) := by decide +kernel
theorem dX7_completed_93 : decode cX7_completed 93 = .ok (.iload_n 3, 1) := by decide +kernel
theorem dX7_completed_94 : decode cX7_completed 94 = .ok (.iaload, 1) := by decide +kernel
theorem dX7_completed_95 : decode cX7_completed 95 = .ok (.putfield 145, 3) := by decide +kernel
theorem dX7_completed_98 : decode cX7_completed 98 = .ok (.aload_n 0, 1) := by decide +kernel
theorem dX7_completed_99 : decode cX7_completed 99 = .ok (.dup, 1) := by decide +kernel
theorem dX7_completed_100 : decode cX7_completed 100 = .ok (.getfield 148, 3) := by decide +kernel
theorem dX7_completed_103 : decode cX7_completed 103 = .ok (.iconst 1, 1) := by decide +kernel
theorem dX7_completed_104 : decode cX7_completed 104 = .ok (.isub, 1) := by decide +kernel
theorem dX7_completed_105 : decode cX7_completed 105 = .ok (.putfield 148, 3) := by decide +kernel
theorem dX7_completed_108 : decode cX7_completed 108 = .ok (.aload_n 0, 1) := by decide +kernel
theorem dX7_completed_109 : decode cX7_completed 109 = .ok (.getfield 43, 3) := by decide +kernel
theorem dX7_completed_112 : decode cX7_completed 112 = .ok (.iload_n 3, 1) := by decide +kernel
theorem dX7_completed_113 : decode cX7_completed 113 = .ok (.iaload, 1) := by decide +kernel
theorem dX7_completed_114 : decode cX7_completed 114 = .ok (.tableswitch 137 0 7 #[46, 137, 137, 106, 118, 137, 73, 73], 46) := by decide +kernel
theorem dX7_completed_160 : decode cX7_completed 160 = .ok (.aload_n 0, 1) := by decide +kernel
theorem dX7_completed_161 : decode cX7_completed 161 = .ok (.iload_n 2, 1) := by decide +kernel
theorem dX7_completed_162 : decode cX7_completed 162 = .ok (.putfield 223, 3) := by decide +kernel
theorem dX7_completed_165 : decode cX7_completed 165 = .ok (.aload_n 0, 1) := by decide +kernel
theorem dX7_completed_166 : decode cX7_completed 166 = .ok (.getfield 118, 3) := by decide +kernel
theorem dX7_completed_169 : decode cX7_completed 169 = .ok (.aload_n 0, 1) := by decide +kernel
theorem dX7_completed_170 : decode cX7_completed 170 = .ok (.getfield 121, 3) := by decide +kernel
theorem dX7_completed_173 : decode cX7_completed 173 = .ok (.if_icmp .ge 8, 3) := by decide +kernel
theorem dX7_completed_176 : decode cX7_completed 176 = .ok (.aload_n 0, 1) := by decide +kernel
theorem dX7_completed_177 : decode cX7_completed 177 = .ok (.iconst 1, 1) := by decide +kernel
theorem dX7_completed_178 : decode cX7_completed 178 = .ok (.putfield 138, 3) := by decide +kernel
theorem dX7_completed_181 : decode cX7_completed 181 = .ok (.aload_n 0, 1) := by decide +kernel
theorem dX7_completed_182 : decode cX7_completed 182 = .ok (.iconst 4, 1) := by decide +kernel
theorem dX7_completed_183 : decode cX7_completed 183 = .ok (.putfield 157, 3) := by decide +kernel
theorem dX7_completed_186 : decode cX7_completed 186 = .ok (.return_, 1) := by decide +kernel
theorem dX7_completed_187 : decode cX7_completed 187 = .ok (.aload_n 0, 1) := by decide +kernel
theorem dX7_completed_188 : decode cX7_completed 188 = .ok (.bipush 59, 2) := by decide +kernel
theorem dX7_completed_190 : decode cX7_completed 190 = .ok (.invokevirtual 184, 3) := by decide +kernel
theorem dX7_completed_193 : decode cX7_completed 193 = .ok (.aload_n 0, 1) := by decide +kernel
theorem dX7_completed_194 : decode cX7_completed 194 = .ok (.aload_n 0, 1) := by decide +kernel
theorem dX7_completed_195 : decode cX7_completed 195 = .ok (.getfield 58, 3) := by decide +kernel
theorem dX7_completed_198 : decode cX7_completed 198 = .ok (.iload_n 3, 1) := by decide +kernel
theorem dX7_completed_199 : decode cX7_completed 199 = .ok (.caload, 1) := by decide +kernel
theorem dX7_completed_200 : decode cX7_completed 200 = .ok (.invokevirtual 163, 3) := by decide +kernel
theorem dX7_completed_203 : decode cX7_completed 203 = .ok (.aload_n 0, 1) := by decide +kernel
theorem dX7_completed_204 : decode cX7_completed 204 = .ok (.aload_n 0, 1) := by decide +kernel
theorem dX7_completed_205 : decode cX7_completed 205 = .ok (.getfield 43, 3) := by decide +kernel
theorem dX7_completed_208 : decode cX7_completed 208 = .ok (.iload_n 3, 1) := by decide +kernel
theorem dX7_completed_209 : decode cX7_completed 209 = .ok (.iaload, 1) := by decide +kernel
theorem dX7_completed_210 : decode cX7_completed 210 = .ok (.iload_n 2, 1) := by decide +kernel
theorem dX7_completed_211 : decode cX7_completed 211 = .ok (.invokevirtual 167, 3) := by decide +kernel
theorem dX7_completed_214 : decode cX7_completed 214 = .ok (.aload_n 0, 1) := by decide +kernel
theorem dX7_completed_215 : decode cX7_completed 215 = .ok (.iconst 0, 1) := by decide +kernel
theorem dX7_completed_216 : decode cX7_completed 216 = .ok (.putfield 157, 3) := by decide +kernel
theorem dX7_completed_219 : decode cX7_completed 219 = .ok (.return_, 1) := by decide +kernel
theorem dX7_completed_220 : decode cX7_completed 220 = .ok (.aload_n 0, 1) := by decide +kernel
theorem dX7_completed_221 : decode cX7_completed 221 = .ok (.aload_n 0, 1) := by decide +kernel
theorem dX7_completed_222 : decode cX7_completed 222 = .ok (.getfield 55, 3) := by decide +kernel
theorem dX7_completed_225 : decode cX7_completed 225 = .ok (.iload_n 3, 1) := by decide +kernel
theorem dX7_completed_226 : decode cX7_completed 226 = .ok (.iaload, 1) := by decide +kernel
theorem dX7_completed_227 : decode cX7_completed 227 = .ok (.iload_n 2, 1) := by decide +kernel
theorem dX7_completed_228 : decode cX7_completed 228 = .ok (.invokevirtual 226, 3) := by decide +kernel
theorem dX7_completed_231 : decode cX7_completed 231 = .ok (.return_, 1) := by decide +kernel
theorem dX7_completed_232 : decode cX7_completed 232 = .ok (.aload_n 0, 1) := by decide +kernel
theorem dX7_completed_233 : decode cX7_completed 233 = .ok (.bipush 41, 2) := by decide +kernel
theorem dX7_completed_235 : decode cX7_completed 235 = .ok (.invokevirtual 184, 3) := by decide +kernel
theorem dX7_completed_238 : decode cX7_completed 238 = .ok (.aload_n 0, 1) := by decide +kernel
theorem dX7_completed_239 : decode cX7_completed 239 = .ok (.getfield 36, 3) := by decide +kernel
theorem dX7_completed_242 : decode cX7_completed 242 = .ok (.iload_n 2, 1) := by decide +kernel
theorem dX7_completed_243 : decode cX7_completed 243 = .ok (.iconst 1, 1) := by decide +kernel
theorem dX7_completed_244 : decode cX7_completed 244 = .ok (.bastore, 1) := by decide +kernel
theorem dX7_completed_245 : decode cX7_completed 245 = .ok (.aload_n 0, 1) := by decide +kernel
theorem dX7_completed_246 : decode cX7_completed 246 = .ok (.iload_n 2, 1) := by decide +kernel
theorem dX7_completed_247 : decode cX7_completed 247 = .ok (.invokevirtual 197, 3) := by decide +kernel
theorem dX7_completed_250 : decode cX7_completed 250 = .ok (.return_, 1) := by decide +kernel
theorem dX7_completed_251 : decode cX7_completed 251 = .ok (.aload_n 0, 1) := by decide +kernel
theorem dX7_completed_252 : decode cX7_completed 252 = .ok (.bipush 59, 2) := by decide +kernel
theorem dX7_completed_254 : decode cX7_completed 254 = .ok (.invokevirtual 184, 3) := by decide +kernel
theorem dX7_completed_257 : decode cX7_completed 257 = .ok (.aload_n 0, 1) := by decide +kernel
theorem dX7_completed_258 : decode cX7_completed 258 = .ok (.aload_n 0, 1) := by decide +kernel
theorem dX7_completed_259 : decode cX7_completed 259 = .ok (.getfield 55, 3) := by decide +kernel
theorem dX7_completed_262 : decode cX7_completed 262 = .ok (.iload_n 3, 1) := by decide +kernel
theorem dX7_completed_263 : decode cX7_completed 263 = .ok (.iaload, 1) := by decide +kernel
theorem dX7_completed_264 : decode cX7_completed 264 = .ok (.iload_n 2, 1) := by decide +kernel
theorem dX7_completed_265 : decode cX7_completed 265 = .ok (.invokevirtual 194, 3) := by decide +kernel
theorem dX7_completed_268 : decode cX7_completed 268 = .ok (.aload_n 0, 1) := by decide +kernel
theorem dX7_completed_269 : decode cX7_completed 269 = .ok (.iconst 3, 1) := by decide +kernel
theorem dX7_completed_270 : decode cX7_completed 270 = .ok (.putfield 157, 3) := by decide +kernel
theorem dX7_completed_273 : decode cX7_completed 273 = .ok (.aload_n 0, 1) := by decide +kernel
theorem dX7_completed_274 : decode cX7_completed 274 = .ok (.invokevirtual 229, 3) := by decide +kernel
theorem dX7_completed_277 : decode cX7_completed 277 = .ok (.return_, 1) := by decide +kernel
theorem dX7_fieldEnds_0 : decode cX7_fieldEnds 0 = .ok (.aload_n 0, 1) := by decide +kernel
theorem dX7_fieldEnds_1 : decode cX7_fieldEnds 1 = .ok (.iload_n 1, 1) := by decide +kernel
theorem dX7_fieldEnds_2 : decode cX7_fieldEnds 2 = .ok (.iload_n 2, 1) := by decide +kernel
theorem dX7_fieldEnds_3 : decode cX7_fieldEnds 3 = .ok (.invokevirtual 194, 3) := by decide +kernel
theorem dX7_fieldEnds_6 : decode cX7_fieldEnds 6 = .ok (.aload_n 0, 1) := by decide +kernel
theorem dX7_fieldEnds_7 : decode cX7_fieldEnds 7 = .ok (.getfield 33, 3) := by decide +kernel
theorem dX7_fieldEnds_10 : decode cX7_fieldEnds 10 = .ok (.iload_n 1, 1) := by decide +kernel
theorem dX7_fieldEnds_11 : decode cX7_fieldEnds 11 = .ok (.iaload, 1) := by decide +kernel
theorem dX7_fieldEnds_12 : decode cX7_fieldEnds 12 = .ok (.aload_n 0, 1) := by decide +kernel
theorem dX7_fieldEnds_13 : decode cX7_fieldEnds 13 = .ok (.getfield 24, 3) := by decide +kernel
theorem dX7_fieldEnds_16 : decode cX7_fieldEnds 16 = .ok (.iload_n 1, 1) := by decide +kernel
theorem dX7_fieldEnds_17 : decode cX7_fieldEnds 17 = .ok (.iaload, 1) := by decide +kernel
theorem dX7_fieldEnds_18 : decode cX7_fieldEnds 18 = .ok (.iconst 4, 1) := by decide +kernel
theorem dX7_fieldEnds_19 : decode cX7_fieldEnds 19 = .ok (.irem, 1) := by decide +kernel
theorem dX7_fieldEnds_20 : decode cX7_fieldEnds 20 = .ok (.if_icmp .ge 23, 3) := by decide +kernel
theorem dX7_fieldEnds_23 : decode cX7_fieldEnds 23 = .ok (.aload_n 0, 1) := by decide +kernel
theorem dX7_fieldEnds_24 : decode cX7_fieldEnds 24 = .ok (.bipush 44, 2) := by decide +kernel
theorem dX7_fieldEnds_26 : decode cX7_fieldEnds 26 = .ok (.invokevirtual 184, 3) := by decide +kernel
theorem dX7_fieldEnds_29 : decode cX7_fieldEnds 29 = .ok (.aload_n 0, 1) := by decide +kernel
theorem dX7_fieldEnds_30 : decode cX7_fieldEnds 30 = .ok (.getfield 138, 3) := by decide +kernel
theorem dX7_fieldEnds_33 : decode cX7_fieldEnds 33 = .ok (.ifCond .ne 9, 3) := by decide +kernel
theorem dX7_fieldEnds_36 : decode cX7_fieldEnds 36 = .ok (.aload_n 0, 1) := by decide +kernel
theorem dX7_fieldEnds_37 : decode cX7_fieldEnds 37 = .ok (.iconst 3, 1) := by decide +kernel
theorem dX7_fieldEnds_38 : decode cX7_fieldEnds 38 = .ok (.iload_n 1, 1) := by decide +kernel
theorem dX7_fieldEnds_39 : decode cX7_fieldEnds 39 = .ok (.invokevirtual 174, 3) := by decide +kernel
theorem dX7_fieldEnds_42 : decode cX7_fieldEnds 42 = .ok (.return_, 1) := by decide +kernel
theorem dX7_fieldEnds_43 : decode cX7_fieldEnds 43 = .ok (.aload_n 0, 1) := by decide +kernel
theorem dX7_fieldEnds_44 : decode cX7_fieldEnds 44 = .ok (.bipush 41, 2) := by decide +kernel
theorem dX7_fieldEnds_46 : decode cX7_fieldEnds 46 = .ok (.invokevirtual 184, 3) := by decide +kernel
theorem dX7_fieldEnds_49 : decode cX7_fieldEnds 49 = .ok (.aload_n 0, 1) := by decide +kernel
theorem dX7_fieldEnds_50 : decode cX7_fieldEnds 50 = .ok (.iload_n 1, 1) := by decide +kernel
theorem dX7_fieldEnds_51 : decode cX7_fieldEnds 51 = .ok (.invokevirtual 197, 3) := by decide +kernel
theorem dX7_fieldEnds_54 : decode cX7_fieldEnds 54 = .ok (.return_, 1) := by decide +kernel
theorem dX7_caseEnds_0 : decode cX7_caseEnds 0 = .ok (.aload_n 0, 1) := by decide +kernel
theorem dX7_caseEnds_1 : decode cX7_caseEnds 1 = .ok (.aload_n 0, 1) := by decide +kernel
theorem dX7_caseEnds_2 : decode cX7_caseEnds 2 = .ok (.getfield 138, 3) := by decide +kernel
theorem dX7_caseEnds_5 : decode cX7_caseEnds 5 = .ok (.ifCond .ne 16, 3) := by decide +kernel
theorem dX7_caseEnds_8 : decode cX7_caseEnds 8 = .ok (.aload_n 0, 1) := by decide +kernel
theorem dX7_caseEnds_9 : decode cX7_caseEnds 9 = .ok (.invokevirtual 134, 3) := by decide +kernel
theorem dX7_caseEnds_12 : decode cX7_caseEnds 12 = .ok (.bipush 125, 2) := by decide +kernel
theorem dX7_caseEnds_14 : decode cX7_caseEnds 14 = .ok (.if_icmp .ne 7, 3) := by decide +kernel
theorem dX7_caseEnds_17 : decode cX7_caseEnds 17 = .ok (.iconst 1, 1) := by decide +kernel
theorem dX7_caseEnds_18 : decode cX7_caseEnds 18 = .ok (.goto 4, 3) := by decide +kernel
theorem dX7_caseEnds_21 : decode cX7_caseEnds 21 = .ok (.iconst 0, 1) := by decide +kernel
theorem dX7_caseEnds_22 : decode cX7_caseEnds 22 = .ok (.putfield 232, 3) := by decide +kernel
theorem dX7_caseEnds_25 : decode cX7_caseEnds 25 = .ok (.return_, 1) := by decide +kernel
theorem dX7_readText_0 : decode cX7_readText 0 = .ok (.aload_n 0, 1) := by decide +kernel
theorem dX7_readText_1 : decode cX7_readText 1 = .ok (.iconst 0, 1) := by decide +kernel
theorem dX7_readText_2 : decode cX7_readText 2 = .ok (.putfield 142, 3) := by decide +kernel
theorem dX7_readText_5 : decode cX7_readText 5 = .ok (.aload_n 0, 1) := by decide +kernel
theorem dX7_readText_6 : decode cX7_readText 6 = .ok (.iconst 0, 1) := by decide +kernel
theorem dX7_readText_7 : decode cX7_readText 7 = .ok (.putfield 145, 3) := by decide +kernel
theorem dX7_readText_10 : decode cX7_readText 10 = .ok (.aload_n 0, 1) := by decide +kernel
theorem dX7_readText_11 : decode cX7_readText 11 = .ok (.iconst 0, 1) := by decide +kernel
theorem dX7_readText_12 : decode cX7_readText 12 = .ok (.putfield 148, 3) := by decide +kernel
theorem dX7_readText_15 : decode cX7_readText 15 = .ok (.aload_n 0, 1) := by decide +kernel
theorem dX7_readText_16 : decode cX7_readText 16 = .ok (.iconst 0, 1) := by decide +kernel
theorem dX7_readText_17 : decode cX7_readText 17 = .ok (.putfield 151, 3) := by decide +kernel
theorem dX7_readText_20 : decode cX7_readText 20 = .ok (.aload_n 0, 1) := by decide +kernel
theorem dX7_readText_21 : decode cX7_readText 21 = .ok (.iconst 0, 1) := by decide +kernel
theorem dX7_readText_22 : decode cX7_readText 22 = .ok (.putfield 191, 3) := by decide +kernel
theorem dX7_readText_25 : decode cX7_readText 25 = .ok (.aload_n 0, 1) := by decide +kernel
theorem dX7_readText_26 : decode cX7_readText 26 = .ok (.iconst 0, 1) := by decide +kernel
theorem dX7_readText_27 : decode cX7_readText 27 = .ok (.putfield 154, 3) := by decide +kernel
theorem dX7_readText_30 : decode cX7_readText 30 = .ok (.aload_n 0, 1) := by decide +kernel
theorem dX7_readText_31 : decode cX7_readText 31 = .ok (.iconst 0, 1) := by decide +kernel
theorem dX7_readText_32 : decode cX7_readText 32 = .ok (.putfield 232, 3) := by decide +kernel
theorem dX7_readText_35 : decode cX7_readText 35 = .ok (.aload_n 0, 1) := by decide +kernel
theorem dX7_readText_36 : decode cX7_readText 36 = .ok (.iconst 0, 1) := by decide +kernel
theorem dX7_readText_37 : decode cX7_readText 37 = .ok (.iconst (-1), 1) := by decide +kernel
theorem dX7_readText_38 : decode cX7_readText 38 = .ok (.invokevirtual 174, 3) := by decide +kernel
theorem dX7_readText_41 : decode cX7_readText 41 = .ok (.aload_n 0, 1) := by decide +kernel
theorem dX7_readText_42 : decode cX7_readText 42 = .ok (.getfield 138, 3) := by decide +kernel
theorem dX7_readText_45 : decode cX7_readText 45 = .ok (.ifCond .ne 102, 3) := by decide +kernel
theorem dX7_readText_48 : decode cX7_readText 48 = .ok (.aload_n 0, 1) := by decide +kernel
theorem dX7_readText_49 : decode cX7_readText 49 = .ok (.getfield 157, 3) := by decide +kernel
theorem dX7_readText_52 : decode cX7_readText 52 = .ok (.iconst 4, 1) := by decide +kernel
theorem dX7_readText_53 : decode cX7_readText 53 = .ok (.if_icmp .eq 94, 3) := by decide +kernel
theorem dX7_readText_56 : decode cX7_readText 56 = .ok (.aload_n 0, 1) := by decide +kernel
theorem dX7_readText_57 : decode cX7_readText 57 = .ok (.getfield 232, 3) := by decide +kernel
theorem dX7_readText_60 : decode cX7_readText 60 = .ok (.ifCond .eq 36, 3) := by decide +kernel
theorem dX7_readText_63 : decode cX7_readText 63 = .ok (.aload_n 0, 1) := by decide +kernel
theorem dX7_readText_64 : decode cX7_readText 64 = .ok (.iconst 0, 1) := by decide +kernel
theorem dX7_readText_65 : decode cX7_readText 65 = .ok (.putfield 232, 3) := by decide +kernel
theorem dX7_readText_68 : decode cX7_readText 68 = .ok (.aload_n 0, 1) := by decide +kernel
theorem dX7_readText_69 : decode cX7_readText 69 = .ok (.dup, 1) := by decide +kernel
theorem dX7_readText_70 : decode cX7_readText 70 = .ok (.getfield 118, 3) := by decide +kernel
theorem dX7_readText_73 : decode cX7_readText 73 = .ok (.iconst 1, 1) := by decide +kernel
theorem dX7_readText_74 : decode cX7_readText 74 = .ok (.iadd, 1) := by decide +kernel
theorem dX7_readText_75 : decode cX7_readText 75 = .ok (.putfield 118, 3) := by decide +kernel
theorem dX7_readText_78 : decode cX7_readText 78 = .ok (.aload_n 0, 1) := by decide +kernel
theorem dX7_readText_79 : decode cX7_readText 79 = .ok (.aload_n 0, 1) := by decide +kernel
theorem dX7_readText_80 : decode cX7_readText 80 = .ok (.getfield 64, 3) := by decide +kernel
theorem dX7_readText_83 : decode cX7_readText 83 = .ok (.aload_n 0, 1) := by decide +kernel
theorem dX7_readText_84 : decode cX7_readText 84 = .ok (.getfield 148, 3) := by decide +kernel
theorem dX7_readText_87 : decode cX7_readText 87 = .ok (.iconst 1, 1) := by decide +kernel
theorem dX7_readText_88 : decode cX7_readText 88 = .ok (.isub, 1) := by decide +kernel
theorem dX7_readText_89 : decode cX7_readText 89 = .ok (.iaload, 1) := by decide +kernel
theorem dX7_readText_90 : decode cX7_readText 90 = .ok (.invokevirtual 217, 3) := by decide +kernel
theorem dX7_readText_93 : decode cX7_readText 93 = .ok (.goto (-52), 3) := by decide +kernel
theorem dX7_readText_96 : decode cX7_readText 96 = .ok (.aload_n 0, 1) := by decide +kernel
theorem dX7_readText_97 : decode cX7_readText 97 = .ok (.getfield 157, 3) := by decide +kernel
theorem dX7_readText_100 : decode cX7_readText 100 = .ok (.ifCond .ne 10, 3) := by decide +kernel
theorem dX7_readText_103 : decode cX7_readText 103 = .ok (.aload_n 0, 1) := by decide +kernel
theorem dX7_readText_104 : decode cX7_readText 104 = .ok (.invokevirtual 235, 3) := by decide +kernel
theorem dX7_readText_107 : decode cX7_readText 107 = .ok (.goto (-66), 3) := by decide +kernel
theorem dX7_readText_110 : decode cX7_readText 110 = .ok (.aload_n 0, 1) := by decide +kernel
theorem dX7_readText_111 : decode cX7_readText 111 = .ok (.getfield 157, 3) := by decide +kernel
theorem dX7_readText_114 : decode cX7_readText 114 = .ok (.iconst 1, 1) := by decide +kernel
theorem dX7_readText_115 : decode cX7_readText 115 = .ok (.if_icmp .ne 10, 3) := by decide +kernel
theorem dX7_readText_118 : decode cX7_readText 118 = .ok (.aload_n 0, 1) := by decide +kernel
theorem dX7_readText_119 : decode cX7_readText 119 = .ok (.invokevirtual 238, 3) := by decide +kernel
theorem dX7_readText_122 : decode cX7_readText 122 = .ok (.goto (-81), 3) := by decide +kernel
theorem dX7_readText_125 : decode cX7_readText 125 = .ok (.aload_n 0, 1) := by decide +kernel
theorem dX7_readText_126 : decode cX7_readText 126 = .ok (.getfield 157, 3) := by decide +kernel
theorem dX7_readText_129 : decode cX7_readText 129 = .ok (.iconst 2, 1) := by decide +kernel
theorem dX7_readText_130 : decode cX7_readText 130 = .ok (.if_icmp .ne 10, 3) := by decide +kernel
theorem dX7_readText_133 : decode cX7_readText 133 = .ok (.aload_n 0, 1) := by decide +kernel
theorem dX7_readText_134 : decode cX7_readText 134 = .ok (.invokevirtual 241, 3) := by decide +kernel
theorem dX7_readText_137 : decode cX7_readText 137 = .ok (.goto (-96), 3) := by decide +kernel
theorem dX7_readText_140 : decode cX7_readText 140 = .ok (.aload_n 0, 1) := by decide +kernel
theorem dX7_readText_141 : decode cX7_readText 141 = .ok (.invokevirtual 244, 3) := by decide +kernel
theorem dX7_readText_144 : decode cX7_readText 144 = .ok (.goto (-103), 3) := by decide +kernel
theorem dX7_readText_147 : decode cX7_readText 147 = .ok (.return_, 1) := by decide +kernel
theorem dX7_emit_0 : decode cX7_emit 0 = .ok (.aload_n 0, 1) := by decide +kernel
theorem dX7_emit_1 : decode cX7_emit 1 = .ok (.getfield 247, 3) := by decide +kernel
theorem dX7_emit_4 : decode cX7_emit 4 = .ok (.bipush 121, 2) := by decide +kernel
theorem dX7_emit_6 : decode cX7_emit 6 = .ok (.if_icmp .ge 43, 3) := by decide +kernel
theorem dX7_emit_9 : decode cX7_emit 9 = .ok (.aload_n 0, 1) := by decide +kernel
theorem dX7_emit_10 : decode cX7_emit 10 = .ok (.getfield 79, 3) := by decide +kernel
theorem dX7_emit_13 : decode cX7_emit 13 = .ok (.iconst 3, 1) := by decide +kernel
theorem dX7_emit_14 : decode cX7_emit 14 = .ok (.aload_n 0, 1) := by decide +kernel
theorem dX7_emit_15 : decode cX7_emit 15 = .ok (.getfield 247, 3) := by decide +kernel
theorem dX7_emit_18 : decode cX7_emit 18 = .ok (.imul, 1) := by decide +kernel
theorem dX7_emit_19 : decode cX7_emit 19 = .ok (.iload_n 1, 1) := by decide +kernel
theorem dX7_emit_20 : decode cX7_emit 20 = .ok (.iastore, 1) := by decide +kernel
theorem dX7_emit_21 : decode cX7_emit 21 = .ok (.aload_n 0, 1) := by decide +kernel
theorem dX7_emit_22 : decode cX7_emit 22 = .ok (.getfield 79, 3) := by decide +kernel
theorem dX7_emit_25 : decode cX7_emit 25 = .ok (.iconst 3, 1) := by decide +kernel
theorem dX7_emit_26 : decode cX7_emit 26 = .ok (.aload_n 0, 1) := by decide +kernel
theorem dX7_emit_27 : decode cX7_emit 27 = .ok (.getfield 247, 3) := by decide +kernel
theorem dX7_emit_30 : decode cX7_emit 30 = .ok (.imul, 1) := by decide +kernel
theorem dX7_emit_31 : decode cX7_emit 31 = .ok (.iconst 1, 1) := by decide +kernel
theorem dX7_emit_32 : decode cX7_emit 32 = .ok (.iadd, 1) := by decide +kernel
theorem dX7_emit_33 : decode cX7_emit 33 = .ok (.iload_n 2, 1) := by decide +kernel
theorem dX7_emit_34 : decode cX7_emit 34 = .ok (.iastore, 1) := by decide +kernel
theorem dX7_emit_35 : decode cX7_emit 35 = .ok (.aload_n 0, 1) := by decide +kernel
theorem dX7_emit_36 : decode cX7_emit 36 = .ok (.getfield 79, 3) := by decide +kernel
theorem dX7_emit_39 : decode cX7_emit 39 = .ok (.iconst 3, 1) := by decide +kernel
theorem dX7_emit_40 : decode cX7_emit 40 = .ok (.aload_n 0, 1) := by decide +kernel
theorem dX7_emit_41 : decode cX7_emit 41 = .ok (.getfield 247, 3) := by decide +kernel
theorem dX7_emit_44 : decode cX7_emit 44 = .ok (.imul, 1) := by decide +kernel
theorem dX7_emit_45 : decode cX7_emit 45 = .ok (.iconst 2, 1) := by decide +kernel
theorem dX7_emit_46 : decode cX7_emit 46 = .ok (.iadd, 1) := by decide +kernel
theorem dX7_emit_47 : decode cX7_emit 47 = .ok (.iload_n 3, 1) := by decide +kernel
theorem dX7_emit_48 : decode cX7_emit 48 = .ok (.iastore, 1) := by decide +kernel
theorem dX7_emit_49 : decode cX7_emit 49 = .ok (.aload_n 0, 1) := by decide +kernel
theorem dX7_emit_50 : decode cX7_emit 50 = .ok (.dup, 1) := by decide +kernel
theorem dX7_emit_51 : decode cX7_emit 51 = .ok (.getfield 247, 3) := by decide +kernel
theorem dX7_emit_54 : decode cX7_emit 54 = .ok (.iconst 1, 1) := by decide +kernel
theorem dX7_emit_55 : decode cX7_emit 55 = .ok (.iadd, 1) := by decide +kernel
theorem dX7_emit_56 : decode cX7_emit 56 = .ok (.putfield 247, 3) := by decide +kernel
theorem dX7_emit_59 : decode cX7_emit 59 = .ok (.return_, 1) := by decide +kernel
theorem dX7_set_0 : decode cX7_set 0 = .ok (.iload_n 1, 1) := by decide +kernel
theorem dX7_set_1 : decode cX7_set 1 = .ok (.bipush 121, 2) := by decide +kernel
theorem dX7_set_3 : decode cX7_set 3 = .ok (.if_icmp .ge 14, 3) := by decide +kernel
theorem dX7_set_6 : decode cX7_set 6 = .ok (.aload_n 0, 1) := by decide +kernel
theorem dX7_set_7 : decode cX7_set 7 = .ok (.getfield 79, 3) := by decide +kernel
theorem dX7_set_10 : decode cX7_set 10 = .ok (.iconst 3, 1) := by decide +kernel
theorem dX7_set_11 : decode cX7_set 11 = .ok (.iload_n 1, 1) := by decide +kernel
theorem dX7_set_12 : decode cX7_set 12 = .ok (.imul, 1) := by decide +kernel
theorem dX7_set_13 : decode cX7_set 13 = .ok (.iload_n 2, 1) := by decide +kernel
theorem dX7_set_14 : decode cX7_set 14 = .ok (.iadd, 1) := by decide +kernel
theorem dX7_set_15 : decode cX7_set 15 = .ok (.iload_n 3, 1) := by decide +kernel
theorem dX7_set_16 : decode cX7_set 16 = .ok (.iastore, 1) := by decide +kernel
theorem dX7_set_17 : decode cX7_set 17 = .ok (.return_, 1) := by decide +kernel
theorem dX7_todo_0 : decode cX7_todo 0 = .ok (.aload_n 0, 1) := by decide +kernel
theorem dX7_todo_1 : decode cX7_todo 1 = .ok (.getfield 85, 3) := by decide +kernel
theorem dX7_todo_4 : decode cX7_todo 4 = .ok (.aload_n 0, 1) := by decide +kernel
theorem dX7_todo_5 : decode cX7_todo 5 = .ok (.getfield 250, 3) := by decide +kernel
theorem dX7_todo_8 : decode cX7_todo 8 = .ok (.iload_n 1, 1) := by decide +kernel
theorem dX7_todo_9 : decode cX7_todo 9 = .ok (.iastore, 1) := by decide +kernel
theorem dX7_todo_10 : decode cX7_todo 10 = .ok (.aload_n 0, 1) := by decide +kernel
theorem dX7_todo_11 : decode cX7_todo 11 = .ok (.getfield 88, 3) := by decide +kernel
theorem dX7_todo_14 : decode cX7_todo 14 = .ok (.aload_n 0, 1) := by decide +kernel
theorem dX7_todo_15 : decode cX7_todo 15 = .ok (.getfield 250, 3) := by decide +kernel
theorem dX7_todo_18 : decode cX7_todo 18 = .ok (.iload_n 2, 1) := by decide +kernel
theorem dX7_todo_19 : decode cX7_todo 19 = .ok (.iastore, 1) := by decide +kernel
theorem dX7_todo_20 : decode cX7_todo 20 = .ok (.aload_n 0, 1) := by decide +kernel
theorem dX7_todo_21 : decode cX7_todo 21 = .ok (.getfield 91, 3) := by decide +kernel
theorem dX7_todo_24 : decode cX7_todo 24 = .ok (.aload_n 0, 1) := by decide +kernel
theorem dX7_todo_25 : decode cX7_todo 25 = .ok (.getfield 250, 3) := by decide +kernel
theorem dX7_todo_28 : decode cX7_todo 28 = .ok (.iload_n 3, 1) := by decide +kernel
theorem dX7_todo_29 : decode cX7_todo 29 = .ok (.iastore, 1) := by decide +kernel
theorem dX7_todo_30 : decode cX7_todo 30 = .ok (.aload_n 0, 1) := by decide +kernel
theorem dX7_todo_31 : decode cX7_todo 31 = .ok (.dup, 1) := by decide +kernel
theorem dX7_todo_32 : decode cX7_todo 32 = .ok (.getfield 250, 3) := by decide +kernel
theorem dX7_todo_35 : decode cX7_todo 35 = .ok (.iconst 1, 1) := by decide +kernel
theorem dX7_todo_36 : decode cX7_todo 36 = .ok (.iadd, 1) := by decide +kernel
theorem dX7_todo_37 : decode cX7_todo 37 = .ok (.putfield 250, 3) := by decide +kernel
theorem dX7_todo_40 : decode cX7_todo 40 = .ok (.return_, 1) := by decide +kernel
theorem dX7_todoNode_0 : decode cX7_todoNode 0 = .ok (.aload_n 0, 1) := by decide +kernel
theorem dX7_todoNode_1 : decode cX7_todoNode 1 = .ok (.iconst 0, 1) := by decide +kernel
theorem dX7_todoNode_2 : decode cX7_todoNode 2 = .ok (.iload_n 1, 1) := by decide +kernel
theorem dX7_todoNode_3 : decode cX7_todoNode 3 = .ok (.iconst 0, 1) := by decide +kernel
theorem dX7_todoNode_4 : decode cX7_todoNode 4 = .ok (.invokevirtual 253, 3) := by decide +kernel
theorem dX7_todoNode_7 : decode cX7_todoNode 7 = .ok (.return_, 1) := by decide +kernel
theorem dX7_todoEmit_0 : decode cX7_todoEmit 0 = .ok (.aload_n 0, 1) := by decide +kernel
theorem dX7_todoEmit_1 : decode cX7_todoEmit 1 = .ok (.iconst 1, 1) := by decide +kernel
theorem dX7_todoEmit_2 : decode cX7_todoEmit 2 = .ok (.iload_n 1, 1) := by decide +kernel
theorem dX7_todoEmit_3 : decode cX7_todoEmit 3 = .ok (.iload_n 2, 1) := by decide +kernel
theorem dX7_todoEmit_4 : decode cX7_todoEmit 4 = .ok (.invokevirtual 253, 3) := by decide +kernel
theorem dX7_todoEmit_7 : decode cX7_todoEmit 7 = .ok (.return_, 1) := by decide +kernel
theorem dX7_generate_0 : decode cX7_generate 0 = .ok (.aload_n 0, 1) := by decide +kernel
theorem dX7_generate_1 : decode cX7_generate 1 = .ok (.getfield 27, 3) := by decide +kernel
theorem dX7_generate_4 : decode cX7_generate 4 = .ok (.iload_n 1, 1) := by decide +kernel
theorem dX7_generate_5 : decode cX7_generate 5 = .ok (.iaload, 1) := by decide +kernel
theorem dX7_generate_6 : decode cX7_generate 6 = .ok (.istore_n 2, 1) := by decide +kernel
theorem dX7_generate_7 : decode cX7_generate 7 = .ok (.aload_n 0, 1) := by decide +kernel
theorem dX7_generate_8 : decode cX7_generate 8 = .ok (.getfield 20, 3) := by decide +kernel
theorem dX7_generate_11 : decode cX7_generate 11 = .ok (.iload_n 1, 1) := by decide +kernel
theorem dX7_generate_12 : decode cX7_generate 12 = .ok (.iaload, 1) := by decide +kernel
theorem dX7_generate_13 : decode cX7_generate 13 = .ok (.tableswitch 323 0 7 #[47, 60, 73, 106, 169, 175, 221, 251], 47) := by decide +kernel
theorem dX7_generate_60 : decode cX7_generate 60 = .ok (.aload_n 0, 1) := by decide +kernel
theorem dX7_generate_61 : decode cX7_generate 61 = .ok (.iconst 1, 1) := by decide +kernel
theorem dX7_generate_62 : decode cX7_generate 62 = .ok (.aload_n 0, 1) := by decide +kernel
theorem dX7_generate_63 : decode cX7_generate 63 = .ok (.getfield 24, 3) := by decide +kernel
theorem dX7_generate_66 : decode cX7_generate 66 = .ok (.iload_n 1, 1) := by decide +kernel
theorem dX7_generate_67 : decode cX7_generate 67 = .ok (.iaload, 1) := by decide +kernel
theorem dX7_generate_68 : decode cX7_generate 68 = .ok (.iconst 0, 1) := by decide +kernel
theorem dX7_generate_69 : decode cX7_generate 69 = .ok (.invokevirtual 257, 3) := by decide +kernel
theorem dX7_generate_72 : decode cX7_generate 72 = .ok (.return_, 1) := by decide +kernel
theorem dX7_generate_73 : decode cX7_generate 73 = .ok (.aload_n 0, 1) := by decide +kernel
theorem dX7_generate_74 : decode cX7_generate 74 = .ok (.iconst 2, 1) := by decide +kernel
theorem dX7_generate_75 : decode cX7_generate 75 = .ok (.aload_n 0, 1) := by decide +kernel
theorem dX7_generate_76 : decode cX7_generate 76 = .ok (.getfield 24, 3) := by decide +kernel
theorem dX7_generate_79 : decode cX7_generate 79 = .ok (.iload_n 1, 1) := by decide +kernel
theorem dX7_generate_80 : decode cX7_generate 80 = .ok (.iaload, 1) := by decide +kernel
theorem dX7_generate_81 : decode cX7_generate 81 = .ok (.iconst 0, 1) := by decide +kernel
theorem dX7_generate_82 : decode cX7_generate 82 = .ok (.invokevirtual 257, 3) := by decide +kernel
theorem dX7_generate_85 : decode cX7_generate 85 = .ok (.return_, 1) := by decide +kernel
theorem dX7_generate_86 : decode cX7_generate 86 = .ok (.aload_n 0, 1) := by decide +kernel
theorem dX7_generate_87 : decode cX7_generate 87 = .ok (.aload_n 0, 1) := by decide +kernel
theorem dX7_generate_88 : decode cX7_generate 88 = .ok (.getfield 24, 3) := by decide +kernel
theorem dX7_generate_91 : decode cX7_generate 91 = .ok (.iload_n 1, 1) := by decide +kernel
theorem dX7_generate_92 : decode cX7_generate 92 = .ok (.iaload, 1) := by decide +kernel
theorem dX7_generate_93 : decode cX7_generate 93 = .ok (.iconst 0, 1) := by decide +kernel
theorem dX7_generate_94 : decode cX7_generate 94 = .ok (.invokevirtual 260, 3) := by decide +kernel
theorem dX7_generate_97 : decode cX7_generate 97 = .ok (.aload_n 0, 1) := by decide +kernel
theorem dX7_generate_98 : decode cX7_generate 98 = .ok (.aload_n 0, 1) := by decide +kernel
theorem dX7_generate_99 : decode cX7_generate 99 = .ok (.getfield 30, 3) := by decide +kernel
theorem dX7_generate_102 : decode cX7_generate 102 = .ok (.iload_n 2, 1) := by decide +kernel
theorem dX7_generate_103 : decode cX7_generate 103 = .ok (.iaload, 1) := by decide +kernel
theorem dX7_generate_104 : decode cX7_generate 104 = .ok (.invokevirtual 263, 3) := by decide +kernel
theorem dX7_generate_107 : decode cX7_generate 107 = .ok (.aload_n 0, 1) := by decide +kernel
theorem dX7_generate_108 : decode cX7_generate 108 = .ok (.iconst 3, 1) := by decide +kernel
theorem dX7_generate_109 : decode cX7_generate 109 = .ok (.iconst 0, 1) := by decide +kernel
theorem dX7_generate_110 : decode cX7_generate 110 = .ok (.invokevirtual 260, 3) := by decide +kernel
theorem dX7_generate_113 : decode cX7_generate 113 = .ok (.aload_n 0, 1) := by decide +kernel
theorem dX7_generate_114 : decode cX7_generate 114 = .ok (.iload_n 2, 1) := by decide +kernel
theorem dX7_generate_115 : decode cX7_generate 115 = .ok (.invokevirtual 263, 3) := by decide +kernel
theorem dX7_generate_118 : decode cX7_generate 118 = .ok (.return_, 1) := by decide +kernel
theorem dX7_generate_119 : decode cX7_generate 119 = .ok (.iconst 1, 1) := by decide +kernel
theorem dX7_generate_120 : decode cX7_generate 120 = .ok (.istore_n 3, 1) := by decide +kernel
theorem dX7_generate_121 : decode cX7_generate 121 = .ok (.iload_n 3, 1) := by decide +kernel
theorem dX7_generate_122 : decode cX7_generate 122 = .ok (.aload_n 0, 1) := by decide +kernel
theorem dX7_generate_123 : decode cX7_generate 123 = .ok (.getfield 33, 3) := by decide +kernel
theorem dX7_generate_126 : decode cX7_generate 126 = .ok (.iload_n 1, 1) := by decide +kernel
theorem dX7_generate_127 : decode cX7_generate 127 = .ok (.iaload, 1) := by decide +kernel
theorem dX7_generate_128 : decode cX7_generate 128 = .ok (.if_icmp .ge 16, 3) := by decide +kernel
theorem dX7_generate_131 : decode cX7_generate 131 = .ok (.aload_n 0, 1) := by decide +kernel
theorem dX7_generate_132 : decode cX7_generate 132 = .ok (.bipush 13, 2) := by decide +kernel
theorem dX7_generate_134 : decode cX7_generate 134 = .ok (.iconst 0, 1) := by decide +kernel
theorem dX7_generate_135 : decode cX7_generate 135 = .ok (.invokevirtual 260, 3) := by decide +kernel
theorem dX7_generate_138 : decode cX7_generate 138 = .ok (.iinc 3 1, 3) := by decide +kernel
theorem dX7_generate_141 : decode cX7_generate 141 = .ok (.goto (-20), 3) := by decide +kernel
theorem dX7_generate_144 : decode cX7_generate 144 = .ok (.aload_n 0, 1) := by decide +kernel
theorem dX7_generate_145 : decode cX7_generate 145 = .ok (.iload_n 2, 1) := by decide +kernel
theorem dX7_generate_146 : decode cX7_generate 146 = .ok (.invokevirtual 263, 3) := by decide +kernel
theorem dX7_generate_149 : decode cX7_generate 149 = .ok (.aload_n 0, 1) := by decide +kernel
theorem dX7_generate_150 : decode cX7_generate 150 = .ok (.getfield 30, 3) := by decide +kernel
theorem dX7_generate_153 : decode cX7_generate 153 = .ok (.iload_n 2, 1) := by decide +kernel
theorem dX7_generate_154 : decode cX7_generate 154 = .ok (.iaload, 1) := by decide +kernel
theorem dX7_generate_155 : decode cX7_generate 155 = .ok (.istore_n 3, 1) := by decide +kernel
theorem dX7_generate_156 : decode cX7_generate 156 = .ok (.iload_n 3, 1) := by decide +kernel
theorem dX7_generate_157 : decode cX7_generate 157 = .ok (.ifCond .lt 24, 3) := by decide +kernel
theorem dX7_generate_160 : decode cX7_generate 160 = .ok (.aload_n 0, 1) := by decide +kernel
theorem dX7_generate_161 : decode cX7_generate 161 = .ok (.iconst 3, 1) := by decide +kernel
theorem dX7_generate_162 : decode cX7_generate 162 = .ok (.iconst 0, 1) := by decide +kernel
theorem dX7_generate_163 : decode cX7_generate 163 = .ok (.invokevirtual 260, 3) := by decide +kernel
theorem dX7_generate_166 : decode cX7_generate 166 = .ok (.aload_n 0, 1) := by decide +kernel
theorem dX7_generate_167 : decode cX7_generate 167 = .ok (.iload_n 3, 1) := by decide +kernel
theorem dX7_generate_168 : decode cX7_generate 168 = .ok (.invokevirtual 263, 3) := by decide +kernel
theorem dX7_generate_171 : decode cX7_generate 171 = .ok (.aload_n 0, 1) := by decide +kernel
theorem dX7_generate_172 : decode cX7_generate 172 = .ok (.getfield 30, 3) := by decide +kernel
theorem dX7_generate_175 : decode cX7_generate 175 = .ok (.iload_n 3, 1) := by decide +kernel
theorem dX7_generate_176 : decode cX7_generate 176 = .ok (.iaload, 1) := by decide +kernel
theorem dX7_generate_177 : decode cX7_generate 177 = .ok (.istore_n 3, 1) := by decide +kernel
theorem dX7_generate_178 : decode cX7_generate 178 = .ok (.goto (-22), 3) := by decide +kernel
theorem dX7_generate_181 : decode cX7_generate 181 = .ok (.return_, 1) := by decide +kernel
theorem dX7_generate_182 : decode cX7_generate 182 = .ok (.aload_n 0, 1) := by decide +kernel
theorem dX7_generate_183 : decode cX7_generate 183 = .ok (.iload_n 1, 1) := by decide +kernel
theorem dX7_generate_184 : decode cX7_generate 184 = .ok (.invokevirtual 266, 3) := by decide +kernel
theorem dX7_generate_187 : decode cX7_generate 187 = .ok (.return_, 1) := by decide +kernel
theorem dX7_generate_188 : decode cX7_generate 188 = .ok (.aload_n 0, 1) := by decide +kernel
theorem dX7_generate_189 : decode cX7_generate 189 = .ok (.bipush 9, 2) := by decide +kernel
theorem dX7_generate_191 : decode cX7_generate 191 = .ok (.aload_n 0, 1) := by decide +kernel
theorem dX7_generate_192 : decode cX7_generate 192 = .ok (.getfield 247, 3) := by decide +kernel
theorem dX7_generate_195 : decode cX7_generate 195 = .ok (.iconst 2, 1) := by decide +kernel
theorem dX7_generate_196 : decode cX7_generate 196 = .ok (.iadd, 1) := by decide +kernel
theorem dX7_generate_197 : decode cX7_generate 197 = .ok (.iconst 0, 1) := by decide +kernel
theorem dX7_generate_198 : decode cX7_generate 198 = .ok (.invokevirtual 257, 3) := by decide +kernel
theorem dX7_generate_201 : decode cX7_generate 201 = .ok (.aload_n 0, 1) := by decide +kernel
theorem dX7_generate_202 : decode cX7_generate 202 = .ok (.bipush 11, 2) := by decide +kernel
theorem dX7_generate_204 : decode cX7_generate 204 = .ok (.iconst 0, 1) := by decide +kernel
theorem dX7_generate_205 : decode cX7_generate 205 = .ok (.iconst 0, 1) := by decide +kernel
theorem dX7_generate_206 : decode cX7_generate 206 = .ok (.invokevirtual 257, 3) := by decide +kernel
theorem dX7_generate_209 : decode cX7_generate 209 = .ok (.aload_n 0, 1) := by decide +kernel
theorem dX7_generate_210 : decode cX7_generate 210 = .ok (.iconst 2, 1) := by decide +kernel
theorem dX7_generate_211 : decode cX7_generate 211 = .ok (.aload_n 0, 1) := by decide +kernel
theorem dX7_generate_212 : decode cX7_generate 212 = .ok (.getfield 247, 3) := by decide +kernel
theorem dX7_generate_215 : decode cX7_generate 215 = .ok (.iconst 1, 1) := by decide +kernel
theorem dX7_generate_216 : decode cX7_generate 216 = .ok (.isub, 1) := by decide +kernel
theorem dX7_generate_217 : decode cX7_generate 217 = .ok (.iconst 0, 1) := by decide +kernel
theorem dX7_generate_218 : decode cX7_generate 218 = .ok (.invokevirtual 253, 3) := by decide +kernel
theorem dX7_generate_221 : decode cX7_generate 221 = .ok (.aload_n 0, 1) := by decide +kernel
theorem dX7_generate_222 : decode cX7_generate 222 = .ok (.bipush 12, 2) := by decide +kernel
theorem dX7_generate_224 : decode cX7_generate 224 = .ok (.iconst 0, 1) := by decide +kernel
theorem dX7_generate_225 : decode cX7_generate 225 = .ok (.invokevirtual 260, 3) := by decide +kernel
theorem dX7_generate_228 : decode cX7_generate 228 = .ok (.aload_n 0, 1) := by decide +kernel
theorem dX7_generate_229 : decode cX7_generate 229 = .ok (.iload_n 2, 1) := by decide +kernel
theorem dX7_generate_230 : decode cX7_generate 230 = .ok (.invokevirtual 263, 3) := by decide +kernel
theorem dX7_generate_233 : decode cX7_generate 233 = .ok (.return_, 1) := by decide +kernel
theorem dX7_generate_234 : decode cX7_generate 234 = .ok (.aload_n 0, 1) := by decide +kernel
theorem dX7_generate_235 : decode cX7_generate 235 = .ok (.bipush 15, 2) := by decide +kernel
theorem dX7_generate_237 : decode cX7_generate 237 = .ok (.iconst 1, 1) := by decide +kernel
theorem dX7_generate_238 : decode cX7_generate 238 = .ok (.invokevirtual 260, 3) := by decide +kernel
theorem dX7_generate_241 : decode cX7_generate 241 = .ok (.aload_n 0, 1) := by decide +kernel
theorem dX7_generate_242 : decode cX7_generate 242 = .ok (.aload_n 0, 1) := by decide +kernel
theorem dX7_generate_243 : decode cX7_generate 243 = .ok (.getfield 30, 3) := by decide +kernel
theorem dX7_generate_246 : decode cX7_generate 246 = .ok (.iload_n 2, 1) := by decide +kernel
theorem dX7_generate_247 : decode cX7_generate 247 = .ok (.iaload, 1) := by decide +kernel
theorem dX7_generate_248 : decode cX7_generate 248 = .ok (.invokevirtual 263, 3) := by decide +kernel
theorem dX7_generate_251 : decode cX7_generate 251 = .ok (.aload_n 0, 1) := by decide +kernel
theorem dX7_generate_252 : decode cX7_generate 252 = .ok (.bipush 14, 2) := by decide +kernel
theorem dX7_generate_254 : decode cX7_generate 254 = .ok (.iconst 0, 1) := by decide +kernel
theorem dX7_generate_255 : decode cX7_generate 255 = .ok (.invokevirtual 260, 3) := by decide +kernel
theorem dX7_generate_258 : decode cX7_generate 258 = .ok (.aload_n 0, 1) := by decide +kernel
theorem dX7_generate_259 : decode cX7_generate 259 = .ok (.iload_n 2, 1) := by decide +kernel
theorem dX7_generate_260 : decode cX7_generate 260 = .ok (.invokevirtual 263, 3) := by decide +kernel
theorem dX7_generate_263 : decode cX7_generate 263 = .ok (.return_, 1) := by decide +kernel
theorem dX7_generate_264 : decode cX7_generate 264 = .ok (.aload_n 0, 1) := by decide +kernel
theorem dX7_generate_265 : decode cX7_generate 265 = .ok (.bipush 10, 2) := by decide +kernel
theorem dX7_generate_267 : decode cX7_generate 267 = .ok (.aload_n 0, 1) := by decide +kernel
theorem dX7_generate_268 : decode cX7_generate 268 = .ok (.getfield 247, 3) := by decide +kernel
theorem dX7_generate_271 : decode cX7_generate 271 = .ok (.iconst 2, 1) := by decide +kernel
theorem dX7_generate_272 : decode cX7_generate 272 = .ok (.iadd, 1) := by decide +kernel
theorem dX7_generate_273 : decode cX7_generate 273 = .ok (.iconst 0, 1) := by decide +kernel
theorem dX7_generate_274 : decode cX7_generate 274 = .ok (.invokevirtual 257, 3) := by decide +kernel
theorem dX7_generate_277 : decode cX7_generate 277 = .ok (.aload_n 0, 1) := by decide +kernel
theorem dX7_generate_278 : decode cX7_generate 278 = .ok (.bipush 11, 2) := by decide +kernel
theorem dX7_generate_280 : decode cX7_generate 280 = .ok (.iconst 0, 1) := by decide +kernel
theorem dX7_generate_281 : decode cX7_generate 281 = .ok (.iconst 0, 1) := by decide +kernel
theorem dX7_generate_282 : decode cX7_generate 282 = .ok (.invokevirtual 257, 3) := by decide +kernel
theorem dX7_generate_285 : decode cX7_generate 285 = .ok (.aload_n 0, 1) := by decide +kernel
theorem dX7_generate_286 : decode cX7_generate 286 = .ok (.getfield 247, 3) := by decide +kernel
theorem dX7_generate_289 : decode cX7_generate 289 = .ok (.iconst 1, 1) := by decide +kernel
theorem dX7_generate_290 : decode cX7_generate 290 = .ok (.isub, 1) := by decide +kernel
theorem dX7_generate_291 : decode cX7_generate 291 = .ok (.istore_n 3, 1) := by decide +kernel
theorem dX7_generate_292 : decode cX7_generate 292 = .ok (.aload_n 0, 1) := by decide +kernel
theorem dX7_generate_293 : decode cX7_generate 293 = .ok (.bipush 15, 2) := by decide +kernel
theorem dX7_generate_295 : decode cX7_generate 295 = .ok (.iconst 1, 1) := by decide +kernel
theorem dX7_generate_296 : decode cX7_generate 296 = .ok (.invokevirtual 260, 3) := by decide +kernel
theorem dX7_generate_299 : decode cX7_generate 299 = .ok (.aload_n 0, 1) := by decide +kernel
theorem dX7_generate_300 : decode cX7_generate 300 = .ok (.aload_n 0, 1) := by decide +kernel
theorem dX7_generate_301 : decode cX7_generate 301 = .ok (.getfield 30, 3) := by decide +kernel
theorem dX7_generate_304 : decode cX7_generate 304 = .ok (.iload_n 2, 1) := by decide +kernel
theorem dX7_generate_305 : decode cX7_generate 305 = .ok (.iaload, 1) := by decide +kernel
theorem dX7_generate_306 : decode cX7_generate 306 = .ok (.invokevirtual 263, 3) := by decide +kernel
theorem dX7_generate_309 : decode cX7_generate 309 = .ok (.aload_n 0, 1) := by decide +kernel
theorem dX7_generate_310 : decode cX7_generate 310 = .ok (.bipush 14, 2) := by decide +kernel
theorem dX7_generate_312 : decode cX7_generate 312 = .ok (.iconst 0, 1) := by decide +kernel
theorem dX7_generate_313 : decode cX7_generate 313 = .ok (.invokevirtual 260, 3) := by decide +kernel
theorem dX7_generate_316 : decode cX7_generate 316 = .ok (.aload_n 0, 1) := by decide +kernel
