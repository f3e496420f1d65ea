theorem dX12_init_0 : decode cX12_init 0 = .ok (.aload_n 0, 1) := by decide +kernel
theorem dX12_init_1 : decode cX12_init 1 = .ok (.invokespecial 1, 3) := by decide +kernel
theorem dX12_init_4 : decode cX12_init 4 = .ok (.aload_n 0, 1) := by decide +kernel
theorem dX12_init_5 : decode cX12_init 5 = .ok (.ldc2_w 7, 3) := by decide +kernel
theorem dX12_init_8 : decode cX12_init 8 = .ok (.putfield 9, 3) := by decide +kernel
theorem dX12_init_11 : decode cX12_init 11 = .ok (.aload_n 0, 1) := by decide +kernel
theorem dX12_init_12 : decode cX12_init 12 = .ok (.iconst (-1), 1) := by decide +kernel
theorem dX12_init_13 : decode cX12_init 13 = .ok (.putfield 15, 3) := by decide +kernel
theorem dX12_init_16 : decode cX12_init 16 = .ok (.aload_n 0, 1) := by decide +kernel
theorem dX12_init_17 : decode cX12_init 17 = .ok (.bipush 80, 2) := by decide +kernel
theorem dX12_init_19 : decode cX12_init 19 = .ok (.newarray .long, 2) := by decide +kernel
theorem dX12_init_21 : decode cX12_init 21 = .ok (.putfield 19, 3) := by decide +kernel
theorem dX12_init_24 : decode cX12_init 24 = .ok (.aload_n 0, 1) := by decide +kernel
theorem dX12_init_25 : decode cX12_init 25 = .ok (.bipush 80, 2) := by decide +kernel
theorem dX12_init_27 : decode cX12_init 27 = .ok (.newarray .int, 2) := by decide +kernel
theorem dX12_init_29 : decode cX12_init 29 = .ok (.putfield 23, 3) := by decide +kernel
theorem dX12_init_32 : decode cX12_init 32 = .ok (.aload_n 0, 1) := by decide +kernel
theorem dX12_init_33 : decode cX12_init 33 = .ok (.bipush 80, 2) := by decide +kernel
theorem dX12_init_35 : decode cX12_init 35 = .ok (.newarray .int, 2) := by decide +kernel
theorem dX12_init_37 : decode cX12_init 37 = .ok (.putfield 27, 3) := by decide +kernel
theorem dX12_init_40 : decode cX12_init 40 = .ok (.aload_n 0, 1) := by decide +kernel
theorem dX12_init_41 : decode cX12_init 41 = .ok (.sipush 320, 3) := by decide +kernel
theorem dX12_init_44 : decode cX12_init 44 = .ok (.newarray .int, 2) := by decide +kernel
theorem dX12_init_46 : decode cX12_init 46 = .ok (.putfield 30, 3) := by decide +kernel
theorem dX12_init_49 : decode cX12_init 49 = .ok (.aload_n 0, 1) := by decide +kernel
theorem dX12_init_50 : decode cX12_init 50 = .ok (.bipush 80, 2) := by decide +kernel
theorem dX12_init_52 : decode cX12_init 52 = .ok (.newarray .boolean, 2) := by decide +kernel
theorem dX12_init_54 : decode cX12_init 54 = .ok (.putfield 33, 3) := by decide +kernel
theorem dX12_init_57 : decode cX12_init 57 = .ok (.aload_n 0, 1) := by decide +kernel
theorem dX12_init_58 : decode cX12_init 58 = .ok (.bipush 80, 2) := by decide +kernel
theorem dX12_init_60 : decode cX12_init 60 = .ok (.newarray .int, 2) := by decide +kernel
theorem dX12_init_62 : decode cX12_init 62 = .ok (.putfield 37, 3) := by decide +kernel
theorem dX12_init_65 : decode cX12_init 65 = .ok (.aload_n 0, 1) := by decide +kernel
theorem dX12_init_66 : decode cX12_init 66 = .ok (.bipush 80, 2) := by decide +kernel
theorem dX12_init_68 : decode cX12_init 68 = .ok (.newarray .int, 2) := by decide +kernel
theorem dX12_init_70 : decode cX12_init 70 = .ok (.putfield 40, 3) := by decide +kernel
theorem dX12_init_73 : decode cX12_init 73 = .ok (.aload_n 0, 1) := by decide +kernel
theorem dX12_init_74 : decode cX12_init 74 = .ok (.bipush 80, 2) := by decide +kernel
theorem dX12_init_76 : decode cX12_init 76 = .ok (.newarray .int, 2) := by decide +kernel
theorem dX12_init_78 : decode cX12_init 78 = .ok (.putfield 43, 3) := by decide +kernel
theorem dX12_init_81 : decode cX12_init 81 = .ok (.aload_n 0, 1) := by decide +kernel
theorem dX12_init_82 : decode cX12_init 82 = .ok (.bipush 40, 2) := by decide +kernel
theorem dX12_init_84 : decode cX12_init 84 = .ok (.newarray .boolean, 2) := by decide +kernel
theorem dX12_init_86 : decode cX12_init 86 = .ok (.putfield 46, 3) := by decide +kernel
theorem dX12_init_89 : decode cX12_init 89 = .ok (.aload_n 0, 1) := by decide +kernel
theorem dX12_init_90 : decode cX12_init 90 = .ok (.bipush 40, 2) := by decide +kernel
theorem dX12_init_92 : decode cX12_init 92 = .ok (.newarray .int, 2) := by decide +kernel
theorem dX12_init_94 : decode cX12_init 94 = .ok (.putfield 49, 3) := by decide +kernel
theorem dX12_init_97 : decode cX12_init 97 = .ok (.aload_n 0, 1) := by decide +kernel
theorem dX12_init_98 : decode cX12_init 98 = .ok (.bipush 50, 2) := by decide +kernel
theorem dX12_init_100 : decode cX12_init 100 = .ok (.putfield 52, 3) := by decide +kernel
theorem dX12_init_103 : decode cX12_init 103 = .ok (.aload_n 0, 1) := by decide +kernel
theorem dX12_init_104 : decode cX12_init 104 = .ok (.bipush 40, 2) := by decide +kernel
theorem dX12_init_106 : decode cX12_init 106 = .ok (.newarray .boolean, 2) := by decide +kernel
theorem dX12_init_108 : decode cX12_init 108 = .ok (.putfield 55, 3) := by decide +kernel
theorem dX12_init_111 : decode cX12_init 111 = .ok (.aload_n 0, 1) := by decide +kernel
theorem dX12_init_112 : decode cX12_init 112 = .ok (.bipush 40, 2) := by decide +kernel
theorem dX12_init_114 : decode cX12_init 114 = .ok (.newarray .long, 2) := by decide +kernel
theorem dX12_init_116 : decode cX12_init 116 = .ok (.putfield 58, 3) := by decide +kernel
theorem dX12_init_119 : decode cX12_init 119 = .ok (.aload_n 0, 1) := by decide +kernel
theorem dX12_init_120 : decode cX12_init 120 = .ok (.bipush 40, 2) := by decide +kernel
theorem dX12_init_122 : decode cX12_init 122 = .ok (.newarray .int, 2) := by decide +kernel
theorem dX12_init_124 : decode cX12_init 124 = .ok (.putfield 61, 3) := by decide +kernel
theorem dX12_init_127 : decode cX12_init 127 = .ok (.aload_n 0, 1) := by decide +kernel
theorem dX12_init_128 : decode cX12_init 128 = .ok (.bipush 40, 2) := by decide +kernel
theorem dX12_init_130 : decode cX12_init 130 = .ok (.newarray .int, 2) := by decide +kernel
theorem dX12_init_132 : decode cX12_init 132 = .ok (.putfield 64, 3) := by decide +kernel
theorem dX12_init_135 : decode cX12_init 135 = .ok (.aload_n 0, 1) := by decide +kernel
theorem dX12_init_136 : decode cX12_init 136 = .ok (.sipush 320, 3) := by decide +kernel
theorem dX12_init_139 : decode cX12_init 139 = .ok (.newarray .int, 2) := by decide +kernel
theorem dX12_init_141 : decode cX12_init 141 = .ok (.putfield 67, 3) := by decide +kernel
theorem dX12_init_144 : decode cX12_init 144 = .ok (.aload_n 0, 1) := by decide +kernel
theorem dX12_init_145 : decode cX12_init 145 = .ok (.sipush 240, 3) := by decide +kernel
theorem dX12_init_148 : decode cX12_init 148 = .ok (.newarray .int, 2) := by decide +kernel
theorem dX12_init_150 : decode cX12_init 150 = .ok (.putfield 70, 3) := by decide +kernel
theorem dX12_init_153 : decode cX12_init 153 = .ok (.aload_n 0, 1) := by decide +kernel
theorem dX12_init_154 : decode cX12_init 154 = .ok (.sipush 240, 3) := by decide +kernel
theorem dX12_init_157 : decode cX12_init 157 = .ok (.newarray .int, 2) := by decide +kernel
theorem dX12_init_159 : decode cX12_init 159 = .ok (.putfield 73, 3) := by decide +kernel
theorem dX12_init_162 : decode cX12_init 162 = .ok (.aload_n 0, 1) := by decide +kernel
theorem dX12_init_163 : decode cX12_init 163 = .ok (.iconst 2, 1) := by decide +kernel
theorem dX12_init_164 : decode cX12_init 164 = .ok (.newarray .int, 2) := by decide +kernel
theorem dX12_init_166 : decode cX12_init 166 = .ok (.putfield 76, 3) := by decide +kernel
theorem dX12_init_169 : decode cX12_init 169 = .ok (.aload_n 0, 1) := by decide +kernel
theorem dX12_init_170 : decode cX12_init 170 = .ok (.iconst 4, 1) := by decide +kernel
theorem dX12_init_171 : decode cX12_init 171 = .ok (.newarray .boolean, 2) := by decide +kernel
theorem dX12_init_173 : decode cX12_init 173 = .ok (.putfield 79, 3) := by decide +kernel
theorem dX12_init_176 : decode cX12_init 176 = .ok (.aload_n 0, 1) := by decide +kernel
theorem dX12_init_177 : decode cX12_init 177 = .ok (.iconst 4, 1) := by decide +kernel
theorem dX12_init_178 : decode cX12_init 178 = .ok (.newarray .int, 2) := by decide +kernel
theorem dX12_init_180 : decode cX12_init 180 = .ok (.putfield 82, 3) := by decide +kernel
theorem dX12_init_183 : decode cX12_init 183 = .ok (.aload_n 0, 1) := by decide +kernel
theorem dX12_init_184 : decode cX12_init 184 = .ok (.iconst 4, 1) := by decide +kernel
theorem dX12_init_185 : decode cX12_init 185 = .ok (.newarray .long, 2) := by decide +kernel
theorem dX12_init_187 : decode cX12_init 187 = .ok (.putfield 85, 3) := by decide +kernel
theorem dX12_init_190 : decode cX12_init 190 = .ok (.aload_n 0, 1) := by decide +kernel
theorem dX12_init_191 : decode cX12_init 191 = .ok (.iconst 4, 1) := by decide +kernel
theorem dX12_init_192 : decode cX12_init 192 = .ok (.newarray .int, 2) := by decide +kernel
theorem dX12_init_194 : decode cX12_init 194 = .ok (.putfield 88, 3) := by decide +kernel
theorem dX12_init_197 : decode cX12_init 197 = .ok (.aload_n 0, 1) := by decide +kernel
theorem dX12_init_198 : decode cX12_init 198 = .ok (.bipush 32, 2) := by decide +kernel
theorem dX12_init_200 : decode cX12_init 200 = .ok (.newarray .int, 2) := by decide +kernel
theorem dX12_init_202 : decode cX12_init 202 = .ok (.putfield 91, 3) := by decide +kernel
theorem dX12_init_205 : decode cX12_init 205 = .ok (.aload_n 0, 1) := by decide +kernel
theorem dX12_init_206 : decode cX12_init 206 = .ok (.iconst 4, 1) := by decide +kernel
theorem dX12_init_207 : decode cX12_init 207 = .ok (.newarray .int, 2) := by decide +kernel
theorem dX12_init_209 : decode cX12_init 209 = .ok (.putfield 94, 3) := by decide +kernel
theorem dX12_init_212 : decode cX12_init 212 = .ok (.aload_n 0, 1) := by decide +kernel
theorem dX12_init_213 : decode cX12_init 213 = .ok (.bipush 16, 2) := by decide +kernel
theorem dX12_init_215 : decode cX12_init 215 = .ok (.newarray .int, 2) := by decide +kernel
theorem dX12_init_217 : decode cX12_init 217 = .ok (.putfield 97, 3) := by decide +kernel
theorem dX12_init_220 : decode cX12_init 220 = .ok (.aload_n 0, 1) := by decide +kernel
theorem dX12_init_221 : decode cX12_init 221 = .ok (.bipush 6, 2) := by decide +kernel
theorem dX12_init_223 : decode cX12_init 223 = .ok (.newarray .int, 2) := by decide +kernel
theorem dX12_init_225 : decode cX12_init 225 = .ok (.putfield 100, 3) := by decide +kernel
theorem dX12_init_228 : decode cX12_init 228 = .ok (.aload_n 0, 1) := by decide +kernel
theorem dX12_init_229 : decode cX12_init 229 = .ok (.bipush 80, 2) := by decide +kernel
theorem dX12_init_231 : decode cX12_init 231 = .ok (.newarray .boolean, 2) := by decide +kernel
theorem dX12_init_233 : decode cX12_init 233 = .ok (.putfield 103, 3) := by decide +kernel
theorem dX12_init_236 : decode cX12_init 236 = .ok (.aload_n 0, 1) := by decide +kernel
theorem dX12_init_237 : decode cX12_init 237 = .ok (.sipush 1400, 3) := by decide +kernel
theorem dX12_init_240 : decode cX12_init 240 = .ok (.newarray .int, 2) := by decide +kernel
theorem dX12_init_242 : decode cX12_init 242 = .ok (.putfield 106, 3) := by decide +kernel
theorem dX12_init_245 : decode cX12_init 245 = .ok (.aload_n 0, 1) := by decide +kernel
theorem dX12_init_246 : decode cX12_init 246 = .ok (.bipush 80, 2) := by decide +kernel
theorem dX12_init_248 : decode cX12_init 248 = .ok (.newarray .boolean, 2) := by decide +kernel
theorem dX12_init_250 : decode cX12_init 250 = .ok (.putfield 109, 3) := by decide +kernel
theorem dX12_init_253 : decode cX12_init 253 = .ok (.aload_n 0, 1) := by decide +kernel
theorem dX12_init_254 : decode cX12_init 254 = .ok (.bipush 40, 2) := by decide +kernel
theorem dX12_init_256 : decode cX12_init 256 = .ok (.newarray .boolean, 2) := by decide +kernel
theorem dX12_init_258 : decode cX12_init 258 = .ok (.putfield 112, 3) := by decide +kernel
theorem dX12_init_261 : decode cX12_init 261 = .ok (.aload_n 0, 1) := by decide +kernel
theorem dX12_init_262 : decode cX12_init 262 = .ok (.bipush 80, 2) := by decide +kernel
theorem dX12_init_264 : decode cX12_init 264 = .ok (.newarray .int, 2) := by decide +kernel
theorem dX12_init_266 : decode cX12_init 266 = .ok (.putfield 115, 3) := by decide +kernel
theorem dX12_init_269 : decode cX12_init 269 = .ok (.aload_n 0, 1) := by decide +kernel
theorem dX12_init_270 : decode cX12_init 270 = .ok (.bipush 80, 2) := by decide +kernel
theorem dX12_init_272 : decode cX12_init 272 = .ok (.newarray .int, 2) := by decide +kernel
theorem dX12_init_274 : decode cX12_init 274 = .ok (.putfield 118, 3) := by decide +kernel
theorem dX12_init_277 : decode cX12_init 277 = .ok (.aload_n 0, 1) := by decide +kernel
theorem dX12_init_278 : decode cX12_init 278 = .ok (.bipush 80, 2) := by decide +kernel
theorem dX12_init_280 : decode cX12_init 280 = .ok (.newarray .int, 2) := by decide +kernel
theorem dX12_init_282 : decode cX12_init 282 = .ok (.putfield 121, 3) := by decide +kernel
theorem dX12_init_285 : decode cX12_init 285 = .ok (.aload_n 0, 1) := by decide +kernel
theorem dX12_init_286 : decode cX12_init 286 = .ok (.iload_n 1, 1) := by decide +kernel
theorem dX12_init_287 : decode cX12_init 287 = .ok (.bipush 20, 2) := by decide +kernel
theorem dX12_init_289 : decode cX12_init 289 = .ok (.if_icmp .ge 8, 3) := by decide +kernel
theorem dX12_init_292 : decode cX12_init 292 = .ok (.bipush 20, 2) := by decide +kernel
theorem dX12_init_294 : decode cX12_init 294 = .ok (.goto 17, 3) := by decide +kernel
theorem dX12_init_297 : decode cX12_init 297 = .ok (.iload_n 1, 1) := by decide +kernel
theorem dX12_init_298 : decode cX12_init 298 = .ok (.sipush 1000, 3) := by decide +kernel
theorem dX12_init_301 : decode cX12_init 301 = .ok (.if_icmp .le 9, 3) := by decide +kernel
theorem dX12_init_304 : decode cX12_init 304 = .ok (.sipush 1000, 3) := by decide +kernel
theorem dX12_init_307 : decode cX12_init 307 = .ok (.goto 4, 3) := by decide +kernel
theorem dX12_init_310 : decode cX12_init 310 = .ok (.iload_n 1, 1) := by decide +kernel
theorem dX12_init_311 : decode cX12_init 311 = .ok (.putfield 124, 3) := by decide +kernel
theorem dX12_init_314 : decode cX12_init 314 = .ok (.return_, 1) := by decide +kernel
theorem dX12_in_0 : decode cX12_in 0 = .ok (.lload_n 0, 1) := by decide +kernel
theorem dX12_in_1 : decode cX12_in 1 = .ok (.lload_n 2, 1) := by decide +kernel
theorem dX12_in_2 : decode cX12_in 2 = .ok (.lcmp, 1) := by decide +kernel
theorem dX12_in_3 : decode cX12_in 3 = .ok (.ifCond .lt 14, 3) := by decide +kernel
theorem dX12_in_6 : decode cX12_in 6 = .ok (.lload_n 0, 1) := by decide +kernel
theorem dX12_in_7 : decode cX12_in 7 = .ok (.lload 4, 2) := by decide +kernel
theorem dX12_in_9 : decode cX12_in 9 = .ok (.lcmp, 1) := by decide +kernel
theorem dX12_in_10 : decode cX12_in 10 = .ok (.ifCond .gt 7, 3) := by decide +kernel
theorem dX12_in_13 : decode cX12_in 13 = .ok (.iconst 1, 1) := by decide +kernel
theorem dX12_in_14 : decode cX12_in 14 = .ok (.goto 4, 3) := by decide +kernel
theorem dX12_in_17 : decode cX12_in 17 = .ok (.iconst 0, 1) := by decide +kernel
theorem dX12_in_18 : decode cX12_in 18 = .ok (.ireturn, 1) := by decide +kernel
theorem dX12_write_0 : decode cX12_write 0 = .ok (.aload_n 0, 1) := by decide +kernel
theorem dX12_write_1 : decode cX12_write 1 = .ok (.getfield 15, 3) := by decide +kernel
theorem dX12_write_4 : decode cX12_write 4 = .ok (.ifCond .ne 40, 3) := by decide +kernel
theorem dX12_write_7 : decode cX12_write 7 = .ok (.aload_n 0, 1) := by decide +kernel
theorem dX12_write_8 : decode cX12_write 8 = .ok (.iconst 1, 1) := by decide +kernel
theorem dX12_write_9 : decode cX12_write 9 = .ok (.putfield 127, 3) := by decide +kernel
theorem dX12_write_12 : decode cX12_write 12 = .ok (.aload_n 0, 1) := by decide +kernel
theorem dX12_write_13 : decode cX12_write 13 = .ok (.iconst (-1), 1) := by decide +kernel
theorem dX12_write_14 : decode cX12_write 14 = .ok (.putfield 15, 3) := by decide +kernel
theorem dX12_write_17 : decode cX12_write 17 = .ok (.aload_n 0, 1) := by decide +kernel
theorem dX12_write_18 : decode cX12_write 18 = .ok (.iconst 0, 1) := by decide +kernel
theorem dX12_write_19 : decode cX12_write 19 = .ok (.putfield 131, 3) := by decide +kernel
theorem dX12_write_22 : decode cX12_write 22 = .ok (.iconst 0, 1) := by decide +kernel
theorem dX12_write_23 : decode cX12_write 23 = .ok (.istore_n 1, 1) := by decide +kernel
theorem dX12_write_24 : decode cX12_write 24 = .ok (.iload_n 1, 1) := by decide +kernel
theorem dX12_write_25 : decode cX12_write 25 = .ok (.iconst 4, 1) := by decide +kernel
theorem dX12_write_26 : decode cX12_write 26 = .ok (.if_icmp .ge 16, 3) := by decide +kernel
theorem dX12_write_29 : decode cX12_write 29 = .ok (.aload_n 0, 1) := by decide +kernel
theorem dX12_write_30 : decode cX12_write 30 = .ok (.getfield 79, 3) := by decide +kernel
theorem dX12_write_33 : decode cX12_write 33 = .ok (.iload_n 1, 1) := by decide +kernel
theorem dX12_write_34 : decode cX12_write 34 = .ok (.iconst 0, 1) := by decide +kernel
theorem dX12_write_35 : decode cX12_write 35 = .ok (.bastore, 1) := by decide +kernel
theorem dX12_write_36 : decode cX12_write 36 = .ok (.iinc 1 1, 3) := by decide +kernel
theorem dX12_write_39 : decode cX12_write 39 = .ok (.goto (-15), 3) := by decide +kernel
theorem dX12_write_42 : decode cX12_write 42 = .ok (.iconst 0, 1) := by decide +kernel
theorem dX12_write_43 : decode cX12_write 43 = .ok (.ireturn, 1) := by decide +kernel
theorem dX12_write_44 : decode cX12_write 44 = .ok (.aload_n 0, 1) := by decide +kernel
theorem dX12_write_45 : decode cX12_write 45 = .ok (.aload_n 0, 1) := by decide +kernel
theorem dX12_write_46 : decode cX12_write 46 = .ok (.getfield 15, 3) := by decide +kernel
theorem dX12_write_49 : decode cX12_write 49 = .ok (.ifCond .le 12, 3) := by decide +kernel
theorem dX12_write_52 : decode cX12_write 52 = .ok (.aload_n 0, 1) := by decide +kernel
theorem dX12_write_53 : decode cX12_write 53 = .ok (.getfield 15, 3) := by decide +kernel
theorem dX12_write_56 : decode cX12_write 56 = .ok (.iconst 1, 1) := by decide +kernel
theorem dX12_write_57 : decode cX12_write 57 = .ok (.isub, 1) := by decide +kernel
theorem dX12_write_58 : decode cX12_write 58 = .ok (.goto 7, 3) := by decide +kernel
theorem dX12_write_61 : decode cX12_write 61 = .ok (.aload_n 0, 1) := by decide +kernel
theorem dX12_write_62 : decode cX12_write 62 = .ok (.getfield 15, 3) := by decide +kernel
theorem dX12_write_65 : decode cX12_write 65 = .ok (.putfield 15, 3) := by decide +kernel
theorem dX12_write_68 : decode cX12_write 68 = .ok (.aload_n 0, 1) := by decide +kernel
theorem dX12_write_69 : decode cX12_write 69 = .ok (.dup, 1) := by decide +kernel
theorem dX12_write_70 : decode cX12_write 70 = .ok (.getfield 134, 3) := by decide +kernel
theorem dX12_write_73 : decode cX12_write 73 = .ok (.iconst 1, 1) := by decide +kernel
theorem dX12_write_74 : decode cX12_write 74 = .ok (.iadd, 1) := by decide +kernel
theorem dX12_write_75 : decode cX12_write 75 = .ok (.putfield 134, 3) := by decide +kernel
theorem dX12_write_78 : decode cX12_write 78 = .ok (.iconst 1, 1) := by decide +kernel
theorem dX12_write_79 : decode cX12_write 79 = .ok (.ireturn, 1) := by decide +kernel
theorem dX12_tell_0 : decode cX12_tell 0 = .ok (.aload_n 0, 1) := by decide +kernel
theorem dX12_tell_1 : decode cX12_tell 1 = .ok (.getfield 70, 3) := by decide +kernel
theorem dX12_tell_4 : decode cX12_tell 4 = .ok (.aload_n 0, 1) := by decide +kernel
theorem dX12_tell_5 : decode cX12_tell 5 = .ok (.getfield 137, 3) := by decide +kernel
theorem dX12_tell_8 : decode cX12_tell 8 = .ok (.iload_n 1, 1) := by decide +kernel
theorem dX12_tell_9 : decode cX12_tell 9 = .ok (.iastore, 1) := by decide +kernel
theorem dX12_tell_10 : decode cX12_tell 10 = .ok (.aload_n 0, 1) := by decide +kernel
theorem dX12_tell_11 : decode cX12_tell 11 = .ok (.getfield 73, 3) := by decide +kernel
theorem dX12_tell_14 : decode cX12_tell 14 = .ok (.aload_n 0, 1) := by decide +kernel
theorem dX12_tell_15 : decode cX12_tell 15 = .ok (.getfield 137, 3) := by decide +kernel
theorem dX12_tell_18 : decode cX12_tell 18 = .ok (.iload_n 2, 1) := by decide +kernel
theorem dX12_tell_19 : decode cX12_tell 19 = .ok (.iastore, 1) := by decide +kernel
theorem dX12_tell_20 : decode cX12_tell 20 = .ok (.aload_n 0, 1) := by decide +kernel
theorem dX12_tell_21 : decode cX12_tell 21 = .ok (.dup, 1) := by decide +kernel
theorem dX12_tell_22 : decode cX12_tell 22 = .ok (.getfield 137, 3) := by decide +kernel
theorem dX12_tell_25 : decode cX12_tell 25 = .ok (.iconst 1, 1) := by decide +kernel
theorem dX12_tell_26 : decode cX12_tell 26 = .ok (.iadd, 1) := by decide +kernel
theorem dX12_tell_27 : decode cX12_tell 27 = .ok (.putfield 137, 3) := by decide +kernel
theorem dX12_tell_30 : decode cX12_tell 30 = .ok (.return_, 1) := by decide +kernel
theorem dX12_cut_0 : decode cX12_cut 0 = .ok (.aload_n 0, 1) := by decide +kernel
theorem dX12_cut_1 : decode cX12_cut 1 = .ok (.getfield 127, 3) := by decide +kernel
theorem dX12_cut_4 : decode cX12_cut 4 = .ok (.ifCond .eq 6, 3) := by decide +kernel
theorem dX12_cut_7 : decode cX12_cut 7 = .ok (.bipush (-106), 2) := by decide +kernel
theorem dX12_cut_9 : decode cX12_cut 9 = .ok (.ireturn, 1) := by decide +kernel
theorem dX12_cut_10 : decode cX12_cut 10 = .ok (.iload_n 1, 1) := by decide +kernel
theorem dX12_cut_11 : decode cX12_cut 11 = .ok (.i2l, 1) := by decide +kernel
theorem dX12_cut_12 : decode cX12_cut 12 = .ok (.ldc2_w 140, 3) := by decide +kernel
theorem dX12_cut_15 : decode cX12_cut 15 = .ok (.ldc2_w 142, 3) := by decide +kernel
theorem dX12_cut_18 : decode cX12_cut 18 = .ok (.invokestatic 144, 3) := by decide +kernel
theorem dX12_cut_21 : decode cX12_cut 21 = .ok (.ifCond .ne 6, 3) := by decide +kernel
theorem dX12_cut_24 : decode cX12_cut 24 = .ok (.bipush (-102), 2) := by decide +kernel
theorem dX12_cut_26 : decode cX12_cut 26 = .ok (.ireturn, 1) := by decide +kernel
theorem dX12_cut_27 : decode cX12_cut 27 = .ok (.aload_n 0, 1) := by decide +kernel
theorem dX12_cut_28 : decode cX12_cut 28 = .ok (.iload_n 1, 1) := by decide +kernel
theorem dX12_cut_29 : decode cX12_cut 29 = .ok (.putfield 15, 3) := by decide +kernel
theorem dX12_cut_32 : decode cX12_cut 32 = .ok (.iconst 1, 1) := by decide +kernel
theorem dX12_cut_33 : decode cX12_cut 33 = .ok (.ireturn, 1) := by decide +kernel
theorem dX12_open_0 : decode cX12_open 0 = .ok (.aload_n 0, 1) := by decide +kernel
theorem dX12_open_1 : decode cX12_open 1 = .ok (.getfield 127, 3) := by decide +kernel
theorem dX12_open_4 : decode cX12_open 4 = .ok (.ifCond .ne 6, 3) := by decide +kernel
theorem dX12_open_7 : decode cX12_open 7 = .ok (.bipush (-103), 2) := by decide +kernel
theorem dX12_open_9 : decode cX12_open 9 = .ok (.ireturn, 1) := by decide +kernel
theorem dX12_open_10 : decode cX12_open 10 = .ok (.aload_n 0, 1) := by decide +kernel
theorem dX12_open_11 : decode cX12_open 11 = .ok (.iconst 0, 1) := by decide +kernel
theorem dX12_open_12 : decode cX12_open 12 = .ok (.putfield 127, 3) := by decide +kernel
theorem dX12_open_15 : decode cX12_open 15 = .ok (.aload_n 0, 1) := by decide +kernel
theorem dX12_open_16 : decode cX12_open 16 = .ok (.iconst 2, 1) := by decide +kernel
theorem dX12_open_17 : decode cX12_open 17 = .ok (.invokevirtual 148, 3) := by decide +kernel
theorem dX12_open_20 : decode cX12_open 20 = .ok (.ireturn, 1) := by decide +kernel
theorem dX12_at_0 : decode cX12_at 0 = .ok (.aload_n 0, 1) := by decide +kernel
theorem dX12_at_1 : decode cX12_at 1 = .ok (.getfield 127, 3) := by decide +kernel
theorem dX12_at_4 : decode cX12_at 4 = .ok (.ifCond .eq 6, 3) := by decide +kernel
theorem dX12_at_7 : decode cX12_at 7 = .ok (.bipush (-106), 2) := by decide +kernel
theorem dX12_at_9 : decode cX12_at 9 = .ok (.ireturn, 1) := by decide +kernel
theorem dX12_at_10 : decode cX12_at 10 = .ok (.lload_n 1, 1) := by decide +kernel
theorem dX12_at_11 : decode cX12_at 11 = .ok (.aload_n 0, 1) := by decide +kernel
theorem dX12_at_12 : decode cX12_at 12 = .ok (.getfield 9, 3) := by decide +kernel
theorem dX12_at_15 : decode cX12_at 15 = .ok (.ldc2_w 152, 3) := by decide +kernel
theorem dX12_at_18 : decode cX12_at 18 = .ok (.invokestatic 144, 3) := by decide +kernel
theorem dX12_at_21 : decode cX12_at 21 = .ok (.ifCond .ne 6, 3) := by decide +kernel
theorem dX12_at_24 : decode cX12_at 24 = .ok (.bipush (-102), 2) := by decide +kernel
theorem dX12_at_26 : decode cX12_at 26 = .ok (.ireturn, 1) := by decide +kernel
theorem dX12_at_27 : decode cX12_at 27 = .ok (.aload_n 0, 1) := by decide +kernel
theorem dX12_at_28 : decode cX12_at 28 = .ok (.lload_n 1, 1) := by decide +kernel
theorem dX12_at_29 : decode cX12_at 29 = .ok (.putfield 9, 3) := by decide +kernel
theorem dX12_at_32 : decode cX12_at 32 = .ok (.iconst 1, 1) := by decide +kernel
theorem dX12_at_33 : decode cX12_at 33 = .ok (.ireturn, 1) := by decide +kernel
theorem dX12_isSaver_0 : decode cX12_isSaver 0 = .ok (.iload_n 1, 1) := by decide +kernel
theorem dX12_isSaver_1 : decode cX12_isSaver 1 = .ok (.i2l, 1) := by decide +kernel
theorem dX12_isSaver_2 : decode cX12_isSaver 2 = .ok (.lconst 0, 1) := by decide +kernel
theorem dX12_isSaver_3 : decode cX12_isSaver 3 = .ok (.ldc2_w 154, 3) := by decide +kernel
theorem dX12_isSaver_6 : decode cX12_isSaver 6 = .ok (.invokestatic 144, 3) := by decide +kernel
theorem dX12_isSaver_9 : decode cX12_isSaver 9 = .ok (.ifCond .eq 16, 3) := by decide +kernel
theorem dX12_isSaver_12 : decode cX12_isSaver 12 = .ok (.aload_n 0, 1) := by decide +kernel
theorem dX12_isSaver_13 : decode cX12_isSaver 13 = .ok (.getfield 79, 3) := by decide +kernel
theorem dX12_isSaver_16 : decode cX12_isSaver 16 = .ok (.iload_n 1, 1) := by decide +kernel
theorem dX12_isSaver_17 : decode cX12_isSaver 17 = .ok (.baload, 1) := by decide +kernel
theorem dX12_isSaver_18 : decode cX12_isSaver 18 = .ok (.ifCond .eq 7, 3) := by decide +kernel
theorem dX12_isSaver_21 : decode cX12_isSaver 21 = .ok (.iconst 1, 1) := by decide +kernel
theorem dX12_isSaver_22 : decode cX12_isSaver 22 = .ok (.goto 4, 3) := by decide +kernel
theorem dX12_isSaver_25 : decode cX12_isSaver 25 = .ok (.iconst 0, 1) := by decide +kernel
theorem dX12_isSaver_26 : decode cX12_isSaver 26 = .ok (.ireturn, 1) := by decide +kernel
theorem dX12_isDead_0 : decode cX12_isDead 0 = .ok (.aload_n 0, 1) := by decide +kernel
theorem dX12_isDead_1 : decode cX12_isDead 1 = .ok (.getfield 9, 3) := by decide +kernel
theorem dX12_isDead_4 : decode cX12_isDead 4 = .ok (.aload_n 0, 1) := by decide +kernel
theorem dX12_isDead_5 : decode cX12_isDead 5 = .ok (.getfield 85, 3) := by decide +kernel
theorem dX12_isDead_8 : decode cX12_isDead 8 = .ok (.iload_n 1, 1) := by decide +kernel
theorem dX12_isDead_9 : decode cX12_isDead 9 = .ok (.laload, 1) := by decide +kernel
theorem dX12_isDead_10 : decode cX12_isDead 10 = .ok (.lcmp, 1) := by decide +kernel
theorem dX12_isDead_11 : decode cX12_isDead 11 = .ok (.ifCond .le 7, 3) := by decide +kernel
theorem dX12_isDead_14 : decode cX12_isDead 14 = .ok (.iconst 1, 1) := by decide +kernel
theorem dX12_isDead_15 : decode cX12_isDead 15 = .ok (.goto 4, 3) := by decide +kernel
theorem dX12_isDead_18 : decode cX12_isDead 18 = .ok (.iconst 0, 1) := by decide +kernel
theorem dX12_isDead_19 : decode cX12_isDead 19 = .ok (.ireturn, 1) := by decide +kernel
theorem dX12_isBlock_0 : decode cX12_isBlock 0 = .ok (.iload_n 1, 1) := by decide +kernel
theorem dX12_isBlock_1 : decode cX12_isBlock 1 = .ok (.i2l, 1) := by decide +kernel
theorem dX12_isBlock_2 : decode cX12_isBlock 2 = .ok (.lconst 0, 1) := by decide +kernel
theorem dX12_isBlock_3 : decode cX12_isBlock 3 = .ok (.aload_n 0, 1) := by decide +kernel
theorem dX12_isBlock_4 : decode cX12_isBlock 4 = .ok (.getfield 156, 3) := by decide +kernel
theorem dX12_isBlock_7 : decode cX12_isBlock 7 = .ok (.iconst 1, 1) := by decide +kernel
theorem dX12_isBlock_8 : decode cX12_isBlock 8 = .ok (.isub, 1) := by decide +kernel
theorem dX12_isBlock_9 : decode cX12_isBlock 9 = .ok (.i2l, 1) := by decide +kernel
theorem dX12_isBlock_10 : decode cX12_isBlock 10 = .ok (.invokestatic 144, 3) := by decide +kernel
theorem dX12_isBlock_13 : decode cX12_isBlock 13 = .ok (.ifCond .eq 16, 3) := by decide +kernel
theorem dX12_isBlock_16 : decode cX12_isBlock 16 = .ok (.aload_n 0, 1) := by decide +kernel
theorem dX12_isBlock_17 : decode cX12_isBlock 17 = .ok (.getfield 33, 3) := by decide +kernel
theorem dX12_isBlock_20 : decode cX12_isBlock 20 = .ok (.iload_n 1, 1) := by decide +kernel
theorem dX12_isBlock_21 : decode cX12_isBlock 21 = .ok (.baload, 1) := by decide +kernel
theorem dX12_isBlock_22 : decode cX12_isBlock 22 = .ok (.ifCond .eq 7, 3) := by decide +kernel
theorem dX12_isBlock_25 : decode cX12_isBlock 25 = .ok (.iconst 1, 1) := by decide +kernel
theorem dX12_isBlock_26 : decode cX12_isBlock 26 = .ok (.goto 4, 3) := by decide +kernel
theorem dX12_isBlock_29 : decode cX12_isBlock 29 = .ok (.iconst 0, 1) := by decide +kernel
theorem dX12_isBlock_30 : decode cX12_isBlock 30 = .ok (.ireturn, 1) := by decide +kernel
theorem dX12_uses_0 : decode cX12_uses 0 = .ok (.iconst 0, 1) := by decide +kernel
theorem dX12_uses_1 : decode cX12_uses 1 = .ok (.istore_n 3, 1) := by decide +kernel
theorem dX12_uses_2 : decode cX12_uses 2 = .ok (.iconst 0, 1) := by decide +kernel
theorem dX12_uses_3 : decode cX12_uses 3 = .ok (.istore 4, 2) := by decide +kernel
theorem dX12_uses_5 : decode cX12_uses 5 = .ok (.iload 4, 2) := by decide +kernel
theorem dX12_uses_7 : decode cX12_uses 7 = .ok (.aload_n 0, 1) := by decide +kernel
theorem dX12_uses_8 : decode cX12_uses 8 = .ok (.getfield 88, 3) := by decide +kernel
theorem dX12_uses_11 : decode cX12_uses 11 = .ok (.iload_n 1, 1) := by decide +kernel
theorem dX12_uses_12 : decode cX12_uses 12 = .ok (.iaload, 1) := by decide +kernel
theorem dX12_uses_13 : decode cX12_uses 13 = .ok (.if_icmp .ge 35, 3) := by decide +kernel
theorem dX12_uses_16 : decode cX12_uses 16 = .ok (.iload_n 3, 1) := by decide +kernel
theorem dX12_uses_17 : decode cX12_uses 17 = .ok (.ifCond .ne 19, 3) := by decide +kernel
theorem dX12_uses_20 : decode cX12_uses 20 = .ok (.aload_n 0, 1) := by decide +kernel
theorem dX12_uses_21 : decode cX12_uses 21 = .ok (.getfield 91, 3) := by decide +kernel
theorem dX12_uses_24 : decode cX12_uses 24 = .ok (.bipush 8, 2) := by decide +kernel
theorem dX12_uses_26 : decode cX12_uses 26 = .ok (.iload_n 1, 1) := by decide +kernel
theorem dX12_uses_27 : decode cX12_uses 27 = .ok (.imul, 1) := by decide +kernel
theorem dX12_uses_28 : decode cX12_uses 28 = .ok (.iload 4, 2) := by decide +kernel
theorem dX12_uses_30 : decode cX12_uses 30 = .ok (.iadd, 1) := by decide +kernel
theorem dX12_uses_31 : decode cX12_uses 31 = .ok (.iaload, 1) := by decide +kernel
theorem dX12_uses_32 : decode cX12_uses 32 = .ok (.iload_n 2, 1) := by decide +kernel
theorem dX12_uses_33 : decode cX12_uses 33 = .ok (.if_icmp .ne 7, 3) := by decide +kernel
theorem dX12_uses_36 : decode cX12_uses 36 = .ok (.iconst 1, 1) := by decide +kernel
theorem dX12_uses_37 : decode cX12_uses 37 = .ok (.goto 4, 3) := by decide +kernel
theorem dX12_uses_40 : decode cX12_uses 40 = .ok (.iconst 0, 1) := by decide +kernel
theorem dX12_uses_41 : decode cX12_uses 41 = .ok (.istore_n 3, 1) := by decide +kernel
theorem dX12_uses_42 : decode cX12_uses 42 = .ok (.iinc 4 1, 3) := by decide +kernel
theorem dX12_uses_45 : decode cX12_uses 45 = .ok (.goto (-40), 3) := by decide +kernel
theorem dX12_uses_48 : decode cX12_uses 48 = .ok (.iload_n 3, 1) := by decide +kernel
theorem dX12_uses_49 : decode cX12_uses 49 = .ok (.ireturn, 1) := by decide +kernel
theorem dX12_meet_0 : decode cX12_meet 0 = .ok (.aload_n 0, 1) := by decide +kernel
theorem dX12_meet_1 : decode cX12_meet 1 = .ok (.iload_n 1, 1) := by decide +kernel
theorem dX12_meet_2 : decode cX12_meet 2 = .ok (.invokevirtual 159, 3) := by decide +kernel
theorem dX12_meet_5 : decode cX12_meet 5 = .ok (.ifCond .eq 5, 3) := by decide +kernel
theorem dX12_meet_8 : decode cX12_meet 8 = .ok (.iconst 0, 1) := by decide +kernel
theorem dX12_meet_9 : decode cX12_meet 9 = .ok (.ireturn, 1) := by decide +kernel
theorem dX12_meet_10 : decode cX12_meet 10 = .ok (.aload_n 0, 1) := by decide +kernel
theorem dX12_meet_11 : decode cX12_meet 11 = .ok (.getfield 85, 3) := by decide +kernel
theorem dX12_meet_14 : decode cX12_meet 14 = .ok (.iload_n 1, 1) := by decide +kernel
theorem dX12_meet_15 : decode cX12_meet 15 = .ok (.aload_n 0, 1) := by decide +kernel
theorem dX12_meet_16 : decode cX12_meet 16 = .ok (.getfield 9, 3) := by decide +kernel
theorem dX12_meet_19 : decode cX12_meet 19 = .ok (.aload_n 0, 1) := by decide +kernel
theorem dX12_meet_20 : decode cX12_meet 20 = .ok (.getfield 82, 3) := by decide +kernel
theorem dX12_meet_23 : decode cX12_meet 23 = .ok (.iload_n 1, 1) := by decide +kernel
theorem dX12_meet_24 : decode cX12_meet 24 = .ok (.iaload, 1) := by decide +kernel
theorem dX12_meet_25 : decode cX12_meet 25 = .ok (.i2l, 1) := by decide +kernel
theorem dX12_meet_26 : decode cX12_meet 26 = .ok (.ladd, 1) := by decide +kernel
theorem dX12_meet_27 : decode cX12_meet 27 = .ok (.lastore, 1) := by decide +kernel
theorem dX12_meet_28 : decode cX12_meet 28 = .ok (.iconst 1, 1) := by decide +kernel
theorem dX12_meet_29 : decode cX12_meet 29 = .ok (.ireturn, 1) := by decide +kernel
theorem dX12_begin_0 : decode cX12_begin 0 = .ok (.aload_n 0, 1) := by decide +kernel
theorem dX12_begin_1 : decode cX12_begin 1 = .ok (.getfield 127, 3) := by decide +kernel
theorem dX12_begin_4 : decode cX12_begin 4 = .ok (.ifCond .eq 6, 3) := by decide +kernel
theorem dX12_begin_7 : decode cX12_begin 7 = .ok (.bipush (-106), 2) := by decide +kernel
theorem dX12_begin_9 : decode cX12_begin 9 = .ok (.ireturn, 1) := by decide +kernel
theorem dX12_begin_10 : decode cX12_begin 10 = .ok (.iload_n 1, 1) := by decide +kernel
theorem dX12_begin_11 : decode cX12_begin 11 = .ok (.i2l, 1) := by decide +kernel
theorem dX12_begin_12 : decode cX12_begin 12 = .ok (.lconst 1, 1) := by decide +kernel
theorem dX12_begin_13 : decode cX12_begin 13 = .ok (.ldc2_w 163, 3) := by decide +kernel
theorem dX12_begin_16 : decode cX12_begin 16 = .ok (.invokestatic 144, 3) := by decide +kernel
theorem dX12_begin_19 : decode cX12_begin 19 = .ok (.ifCond .ne 6, 3) := by decide +kernel
theorem dX12_begin_22 : decode cX12_begin 22 = .ok (.bipush (-102), 2) := by decide +kernel
theorem dX12_begin_24 : decode cX12_begin 24 = .ok (.ireturn, 1) := by decide +kernel
theorem dX12_begin_25 : decode cX12_begin 25 = .ok (.iconst 0, 1) := by decide +kernel
theorem dX12_begin_26 : decode cX12_begin 26 = .ok (.istore_n 2, 1) := by decide +kernel
theorem dX12_begin_27 : decode cX12_begin 27 = .ok (.iload_n 2, 1) := by decide +kernel
theorem dX12_begin_28 : decode cX12_begin 28 = .ok (.iconst 4, 1) := by decide +kernel
theorem dX12_begin_29 : decode cX12_begin 29 = .ok (.if_icmp .ge 18, 3) := by decide +kernel
theorem dX12_begin_32 : decode cX12_begin 32 = .ok (.aload_n 0, 1) := by decide +kernel
theorem dX12_begin_33 : decode cX12_begin 33 = .ok (.getfield 79, 3) := by decide +kernel
theorem dX12_begin_36 : decode cX12_begin 36 = .ok (.iload_n 2, 1) := by decide +kernel
theorem dX12_begin_37 : decode cX12_begin 37 = .ok (.baload, 1) := by decide +kernel
theorem dX12_begin_38 : decode cX12_begin 38 = .ok (.ifCond .eq 9, 3) := by decide +kernel
theorem dX12_begin_41 : decode cX12_begin 41 = .ok (.iinc 2 1, 3) := by decide +kernel
theorem dX12_begin_44 : decode cX12_begin 44 = .ok (.goto (-17), 3) := by decide +kernel
theorem dX12_begin_47 : decode cX12_begin 47 = .ok (.iload_n 2, 1) := by decide +kernel
theorem dX12_begin_48 : decode cX12_begin 48 = .ok (.iconst 4, 1) := by decide +kernel
theorem dX12_begin_49 : decode cX12_begin 49 = .ok (.if_icmp .ne 6, 3) := by decide +kernel
theorem dX12_begin_52 : decode cX12_begin 52 = .ok (.bipush (-104), 2) := by decide +kernel
theorem dX12_begin_54 : decode cX12_begin 54 = .ok (.ireturn, 1) := by decide +kernel
theorem dX12_begin_55 : decode cX12_begin 55 = .ok (.aload_n 0, 1) := by decide +kernel
theorem dX12_begin_56 : decode cX12_begin 56 = .ok (.getfield 79, 3) := by decide +kernel
theorem dX12_begin_59 : decode cX12_begin 59 = .ok (.iload_n 2, 1) := by decide +kernel
theorem dX12_begin_60 : decode cX12_begin 60 = .ok (.iconst 1, 1) := by decide +kernel
theorem dX12_begin_61 : decode cX12_begin 61 = .ok (.bastore, 1) := by decide +kernel
theorem dX12_begin_62 : decode cX12_begin 62 = .ok (.aload_n 0, 1) := by decide +kernel
theorem dX12_begin_63 : decode cX12_begin 63 = .ok (.getfield 82, 3) := by decide +kernel
theorem dX12_begin_66 : decode cX12_begin 66 = .ok (.iload_n 2, 1) := by decide +kernel
theorem dX12_begin_67 : decode cX12_begin 67 = .ok (.iload_n 1, 1) := by decide +kernel
theorem dX12_begin_68 : decode cX12_begin 68 = .ok (.iastore, 1) := by decide +kernel
theorem dX12_begin_69 : decode cX12_begin 69 = .ok (.aload_n 0, 1) := by decide +kernel
theorem dX12_begin_70 : decode cX12_begin 70 = .ok (.getfield 85, 3) := by decide +kernel
theorem dX12_begin_73 : decode cX12_begin 73 = .ok (.iload_n 2, 1) := by decide +kernel
theorem dX12_begin_74 : decode cX12_begin 74 = .ok (.aload_n 0, 1) := by decide +kernel
theorem dX12_begin_75 : decode cX12_begin 75 = .ok (.getfield 9, 3) := by decide +kernel
theorem dX12_begin_78 : decode cX12_begin 78 = .ok (.iload_n 1, 1) := by decide +kernel
theorem dX12_begin_79 : decode cX12_begin 79 = .ok (.i2l, 1) := by decide +kernel
theorem dX12_begin_80 : decode cX12_begin 80 = .ok (.ladd, 1) := by decide +kernel
theorem dX12_begin_81 : decode cX12_begin 81 = .ok (.lastore, 1) := by decide +kernel
theorem dX12_begin_82 : decode cX12_begin 82 = .ok (.aload_n 0, 1) := by decide +kernel
theorem dX12_begin_83 : decode cX12_begin 83 = .ok (.getfield 88, 3) := by decide +kernel
theorem dX12_begin_86 : decode cX12_begin 86 = .ok (.iload_n 2, 1) := by decide +kernel
theorem dX12_begin_87 : decode cX12_begin 87 = .ok (.iconst 0, 1) := by decide +kernel
theorem dX12_begin_88 : decode cX12_begin 88 = .ok (.iastore, 1) := by decide +kernel
theorem dX12_begin_89 : decode cX12_begin 89 = .ok (.aload_n 0, 1) := by decide +kernel
theorem dX12_begin_90 : decode cX12_begin 90 = .ok (.getfield 94, 3) := by decide +kernel
theorem dX12_begin_93 : decode cX12_begin 93 = .ok (.iload_n 2, 1) := by decide +kernel
theorem dX12_begin_94 : decode cX12_begin 94 = .ok (.iconst 0, 1) := by decide +kernel
theorem dX12_begin_95 : decode cX12_begin 95 = .ok (.iastore, 1) := by decide +kernel
theorem dX12_begin_96 : decode cX12_begin 96 = .ok (.iload_n 2, 1) := by decide +kernel
theorem dX12_begin_97 : decode cX12_begin 97 = .ok (.ireturn, 1) := by decide +kernel
theorem dX12_child_0 : decode cX12_child 0 = .ok (.aload_n 0, 1) := by decide +kernel
theorem dX12_child_1 : decode cX12_child 1 = .ok (.getfield 127, 3) := by decide +kernel
theorem dX12_child_4 : decode cX12_child 4 = .ok (.ifCond .eq 6, 3) := by decide +kernel
theorem dX12_child_7 : decode cX12_child 7 = .ok (.bipush (-106), 2) := by decide +kernel
theorem dX12_child_9 : decode cX12_child 9 = .ok (.ireturn, 1) := by decide +kernel
theorem dX12_child_10 : decode cX12_child 10 = .ok (.aload_n 0, 1) := by decide +kernel
theorem dX12_child_11 : decode cX12_child 11 = .ok (.iload_n 1, 1) := by decide +kernel
theorem dX12_child_12 : decode cX12_child 12 = .ok (.invokevirtual 165, 3) := by decide +kernel
theorem dX12_child_15 : decode cX12_child 15 = .ok (.ifCond .ne 6, 3) := by decide +kernel
theorem dX12_child_18 : decode cX12_child 18 = .ok (.bipush (-101), 2) := by decide +kernel
theorem dX12_child_20 : decode cX12_child 20 = .ok (.ireturn, 1) := by decide +kernel
theorem dX12_child_21 : decode cX12_child 21 = .ok (.aload_n 0, 1) := by decide +kernel
theorem dX12_child_22 : decode cX12_child 22 = .ok (.iload_n 1, 1) := by decide +kernel
theorem dX12_child_23 : decode cX12_child 23 = .ok (.invokevirtual 168, 3) := by decide +kernel
theorem dX12_child_26 : decode cX12_child 26 = .ok (.istore_n 3, 1) := by decide +kernel
theorem dX12_child_27 : decode cX12_child 27 = .ok (.aload_n 0, 1) := by decide +kernel
theorem dX12_child_28 : decode cX12_child 28 = .ok (.iload_n 2, 1) := by decide +kernel
theorem dX12_child_29 : decode cX12_child 29 = .ok (.invokevirtual 171, 3) := by decide +kernel
theorem dX12_child_32 : decode cX12_child 32 = .ok (.ifCond .ne 6, 3) := by decide +kernel
theorem dX12_child_35 : decode cX12_child 35 = .ok (.bipush (-101), 2) := by decide +kernel
theorem dX12_child_37 : decode cX12_child 37 = .ok (.ireturn, 1) := by decide +kernel
theorem dX12_child_38 : decode cX12_child 38 = .ok (.iload_n 3, 1) := by decide +kernel
theorem dX12_child_39 : decode cX12_child 39 = .ok (.ifCond .eq 12, 3) := by decide +kernel
theorem dX12_child_42 : decode cX12_child 42 = .ok (.aload_n 0, 1) := by decide +kernel
theorem dX12_child_43 : decode cX12_child 43 = .ok (.iload_n 1, 1) := by decide +kernel
theorem dX12_child_44 : decode cX12_child 44 = .ok (.iload_n 2, 1) := by decide +kernel
theorem dX12_child_45 : decode cX12_child 45 = .ok (.invokevirtual 174, 3) := by decide +kernel
theorem dX12_child_48 : decode cX12_child 48 = .ok (.ifCond .ne 6, 3) := by decide +kernel
theorem dX12_child_51 : decode cX12_child 51 = .ok (.bipush (-103), 2) := by decide +kernel
theorem dX12_child_53 : decode cX12_child 53 = .ok (.ireturn, 1) := by decide +kernel
theorem dX12_child_54 : decode cX12_child 54 = .ok (.aload_n 0, 1) := by decide +kernel
theorem dX12_child_55 : decode cX12_child 55 = .ok (.getfield 94, 3) := by decide +kernel
theorem dX12_child_58 : decode cX12_child 58 = .ok (.iload_n 1, 1) := by decide +kernel
theorem dX12_child_59 : decode cX12_child 59 = .ok (.iaload, 1) := by decide +kernel
theorem dX12_child_60 : decode cX12_child 60 = .ok (.iconst 4, 1) := by decide +kernel
theorem dX12_child_61 : decode cX12_child 61 = .ok (.if_icmp .ne 6, 3) := by decide +kernel
theorem dX12_child_64 : decode cX12_child 64 = .ok (.bipush (-104), 2) := by decide +kernel
theorem dX12_child_66 : decode cX12_child 66 = .ok (.ireturn, 1) := by decide +kernel
theorem dX12_child_67 : decode cX12_child 67 = .ok (.aload_n 0, 1) := by decide +kernel
theorem dX12_child_68 : decode cX12_child 68 = .ok (.getfield 97, 3) := by decide +kernel
theorem dX12_child_71 : decode cX12_child 71 = .ok (.iconst 4, 1) := by decide +kernel
theorem dX12_child_72 : decode cX12_child 72 = .ok (.iload_n 1, 1) := by decide +kernel
theorem dX12_child_73 : decode cX12_child 73 = .ok (.imul, 1) := by decide +kernel
theorem dX12_child_74 : decode cX12_child 74 = .ok (.aload_n 0, 1) := by decide +kernel
theorem dX12_child_75 : decode cX12_child 75 = .ok (.getfield 94, 3) := by decide +kernel
theorem dX12_child_78 : decode cX12_child 78 = .ok (.iload_n 1, 1) := by decide +kernel
theorem dX12_child_79 : decode cX12_child 79 = .ok (.iaload, 1) := by decide +kernel
theorem dX12_child_80 : decode cX12_child 80 = .ok (.iadd, 1) := by decide +kernel
theorem dX12_child_81 : decode cX12_child 81 = .ok (.iload_n 2, 1) := by decide +kernel
theorem dX12_child_82 : decode cX12_child 82 = .ok (.iastore, 1) := by decide +kernel
theorem dX12_child_83 : decode cX12_child 83 = .ok (.aload_n 0, 1) := by decide +kernel
theorem dX12_child_84 : decode cX12_child 84 = .ok (.getfield 94, 3) := by decide +kernel
theorem dX12_child_87 : decode cX12_child 87 = .ok (.iload_n 1, 1) := by decide +kernel
theorem dX12_child_88 : decode cX12_child 88 = .ok (.dup2, 1) := by decide +kernel
theorem dX12_child_89 : decode cX12_child 89 = .ok (.iaload, 1) := by decide +kernel
theorem dX12_child_90 : decode cX12_child 90 = .ok (.iconst 1, 1) := by decide +kernel
theorem dX12_child_91 : decode cX12_child 91 = .ok (.iadd, 1) := by decide +kernel
theorem dX12_child_92 : decode cX12_child 92 = .ok (.iastore, 1) := by decide +kernel
theorem dX12_child_93 : decode cX12_child 93 = .ok (.aload_n 0, 1) := by decide +kernel
theorem dX12_child_94 : decode cX12_child 94 = .ok (.getfield 94, 3) := by decide +kernel
theorem dX12_child_97 : decode cX12_child 97 = .ok (.iload_n 1, 1) := by decide +kernel
theorem dX12_child_98 : decode cX12_child 98 = .ok (.iaload, 1) := by decide +kernel
theorem dX12_child_99 : decode cX12_child 99 = .ok (.ireturn, 1) := by decide +kernel
theorem dX12_find_0 : decode cX12_find 0 = .ok (.iconst 0, 1) := by decide +kernel
theorem dX12_find_1 : decode cX12_find 1 = .ok (.istore 5, 2) := by decide +kernel
theorem dX12_find_3 : decode cX12_find 3 = .ok (.iload 5, 2) := by decide +kernel
theorem dX12_find_5 : decode cX12_find 5 = .ok (.aload_n 0, 1) := by decide +kernel
theorem dX12_find_6 : decode cX12_find 6 = .ok (.getfield 156, 3) := by decide +kernel
theorem dX12_find_9 : decode cX12_find 9 = .ok (.if_icmp .ge 133, 3) := by decide +kernel
theorem dX12_find_12 : decode cX12_find 12 = .ok (.aload_n 0, 1) := by decide +kernel
theorem dX12_find_13 : decode cX12_find 13 = .ok (.getfield 33, 3) := by decide +kernel
theorem dX12_find_16 : decode cX12_find 16 = .ok (.iload 5, 2) := by decide +kernel
theorem dX12_find_18 : decode cX12_find 18 = .ok (.baload, 1) := by decide +kernel
theorem dX12_find_19 : decode cX12_find 19 = .ok (.ifCond .eq 47, 3) := by decide +kernel
theorem dX12_find_22 : decode cX12_find 22 = .ok (.aload_n 0, 1) := by decide +kernel
theorem dX12_find_23 : decode cX12_find 23 = .ok (.getfield 19, 3) := by decide +kernel
theorem dX12_find_26 : decode cX12_find 26 = .ok (.iload 5, 2) := by decide +kernel
theorem dX12_find_28 : decode cX12_find 28 = .ok (.laload, 1) := by decide +kernel
theorem dX12_find_29 : decode cX12_find 29 = .ok (.lload_n 2, 1) := by decide +kernel
theorem dX12_find_30 : decode cX12_find 30 = .ok (.lcmp, 1) := by decide +kernel
theorem dX12_find_31 : decode cX12_find 31 = .ok (.ifCond .ne 35, 3) := by decide +kernel
theorem dX12_find_34 : decode cX12_find 34 = .ok (.aload_n 0, 1) := by decide +kernel
theorem dX12_find_35 : decode cX12_find 35 = .ok (.getfield 23, 3) := by decide +kernel
theorem dX12_find_38 : decode cX12_find 38 = .ok (.iload 5, 2) := by decide +kernel
theorem dX12_find_40 : decode cX12_find 40 = .ok (.iaload, 1) := by decide +kernel
theorem dX12_find_41 : decode cX12_find 41 = .ok (.iload 4, 2) := by decide +kernel
theorem dX12_find_43 : decode cX12_find 43 = .ok (.if_icmp .ne 23, 3) := by decide +kernel
theorem dX12_find_46 : decode cX12_find 46 = .ok (.aload_n 0, 1) := by decide +kernel
theorem dX12_find_47 : decode cX12_find 47 = .ok (.getfield 27, 3) := by decide +kernel
theorem dX12_find_50 : decode cX12_find 50 = .ok (.iload 5, 2) := by decide +kernel
theorem dX12_find_52 : decode cX12_find 52 = .ok (.iaload, 1) := by decide +kernel
theorem dX12_find_53 : decode cX12_find 53 = .ok (.aload_n 0, 1) := by decide +kernel
theorem dX12_find_54 : decode cX12_find 54 = .ok (.getfield 94, 3) := by decide +kernel
theorem dX12_find_57 : decode cX12_find 57 = .ok (.iload_n 1, 1) := by decide +kernel
theorem dX12_find_58 : decode cX12_find 58 = .ok (.iaload, 1) := by decide +kernel
theorem dX12_find_59 : decode cX12_find 59 = .ok (.if_icmp .ne 7, 3) := by decide +kernel
theorem dX12_find_62 : decode cX12_find 62 = .ok (.iconst 1, 1) := by decide +kernel
theorem dX12_find_63 : decode cX12_find 63 = .ok (.goto 4, 3) := by decide +kernel
theorem dX12_find_66 : decode cX12_find 66 = .ok (.iconst 0, 1) := by decide +kernel
theorem dX12_find_67 : decode cX12_find 67 = .ok (.istore 6, 2) := by decide +kernel
theorem dX12_find_69 : decode cX12_find 69 = .ok (.iconst 0, 1) := by decide +kernel
theorem dX12_find_70 : decode cX12_find 70 = .ok (.istore 7, 2) := by decide +kernel
theorem dX12_find_72 : decode cX12_find 72 = .ok (.iload 7, 2) := by decide +kernel
theorem dX12_find_74 : decode cX12_find 74 = .ok (.aload_n 0, 1) := by decide +kernel
theorem dX12_find_75 : decode cX12_find 75 = .ok (.getfield 27, 3) := by decide +kernel
theorem dX12_find_78 : decode cX12_find 78 = .ok (.iload 5, 2) := by decide +kernel
theorem dX12_find_80 : decode cX12_find 80 = .ok (.iaload, 1) := by decide +kernel
theorem dX12_find_81 : decode cX12_find 81 = .ok (.if_icmp .ge 47, 3) := by decide +kernel
theorem dX12_find_84 : decode cX12_find 84 = .ok (.iload 6, 2) := by decide +kernel
theorem dX12_find_86 : decode cX12_find 86 = .ok (.ifCond .eq 42, 3) := by decide +kernel
theorem dX12_find_89 : decode cX12_find 89 = .ok (.aload_n 0, 1) := by decide +kernel
theorem dX12_find_90 : decode cX12_find 90 = .ok (.getfield 30, 3) := by decide +kernel
theorem dX12_find_93 : decode cX12_find 93 = .ok (.iconst 4, 1) := by decide +kernel
theorem dX12_find_94 : decode cX12_find 94 = .ok (.iload 5, 2) := by decide +kernel
theorem dX12_find_96 : decode cX12_find 96 = .ok (.imul, 1) := by decide +kernel
theorem dX12_find_97 : decode cX12_find 97 = .ok (.iload 7, 2) := by decide +kernel
theorem dX12_find_99 : decode cX12_find 99 = .ok (.iadd, 1) := by decide +kernel
theorem dX12_find_100 : decode cX12_find 100 = .ok (.iaload, 1) := by decide +kernel
theorem dX12_find_101 : decode cX12_find 101 = .ok (.aload_n 0, 1) := by decide +kernel
theorem dX12_find_102 : decode cX12_find 102 = .ok (.getfield 97, 3) := by decide +kernel
theorem dX12_find_105 : decode cX12_find 105 = .ok (.iconst 4, 1) := by decide +kernel
theorem dX12_find_106 : decode cX12_find 106 = .ok (.iload_n 1, 1) := by decide +kernel
theorem dX12_find_107 : decode cX12_find 107 = .ok (.imul, 1) := by decide +kernel
theorem dX12_find_108 : decode cX12_find 108 = .ok (.iload 7, 2) := by decide +kernel
theorem dX12_find_110 : decode cX12_find 110 = .ok (.iadd, 1) := by decide +kernel
theorem dX12_find_111 : decode cX12_find 111 = .ok (.iaload, 1) := by decide +kernel
theorem dX12_find_112 : decode cX12_find 112 = .ok (.if_icmp .ne 7, 3) := by decide +kernel
theorem dX12_find_115 : decode cX12_find 115 = .ok (.iconst 1, 1) := by decide +kernel
theorem dX12_find_116 : decode cX12_find 116 = .ok (.goto 4, 3) := by decide +kernel
theorem dX12_find_119 : decode cX12_find 119 = .ok (.iconst 0, 1) := by decide +kernel
theorem dX12_find_120 : decode cX12_find 120 = .ok (.istore 6, 2) := by decide +kernel
theorem dX12_find_122 : decode cX12_find 122 = .ok (.iinc 7 1, 3) := by decide +kernel
theorem dX12_find_125 : decode cX12_find 125 = .ok (.goto (-53), 3) := by decide +kernel
theorem dX12_find_128 : decode cX12_find 128 = .ok (.iload 6, 2) := by decide +kernel
theorem dX12_find_130 : decode cX12_find 130 = .ok (.ifCond .eq 6, 3) := by decide +kernel
theorem dX12_find_133 : decode cX12_find 133 = .ok (.iload 5, 2) := by decide +kernel
theorem dX12_find_135 : decode cX12_find 135 = .ok (.ireturn, 1) := by decide +kernel
theorem dX12_find_136 : decode cX12_find 136 = .ok (.iinc 5 1, 3) := by decide +kernel
theorem dX12_find_139 : decode cX12_find 139 = .ok (.goto (-136), 3) := by decide +kernel
theorem dX12_find_142 : decode cX12_find 142 = .ok (.iconst (-1), 1) := by decide +kernel
theorem dX12_find_143 : decode cX12_find 143 = .ok (.ireturn, 1) := by decide +kernel
theorem dX12_fitsLatest_0 : decode cX12_fitsLatest 0 = .ok (.aload_n 0, 1) := by decide +kernel
theorem dX12_fitsLatest_1 : decode cX12_fitsLatest 1 = .ok (.getfield 178, 3) := by decide +kernel
theorem dX12_fitsLatest_4 : decode cX12_fitsLatest 4 = .ok (.ifCond .le 41, 3) := by decide +kernel
theorem dX12_fitsLatest_7 : decode cX12_fitsLatest 7 = .ok (.aload_n 0, 1) := by decide +kernel
theorem dX12_fitsLatest_8 : decode cX12_fitsLatest 8 = .ok (.getfield 46, 3) := by decide +kernel
theorem dX12_fitsLatest_11 : decode cX12_fitsLatest 11 = .ok (.aload_n 0, 1) := by decide +kernel
theorem dX12_fitsLatest_12 : decode cX12_fitsLatest 12 = .ok (.getfield 178, 3) := by decide +kernel
theorem dX12_fitsLatest_15 : decode cX12_fitsLatest 15 = .ok (.iconst 1, 1) := by decide +kernel
theorem dX12_fitsLatest_16 : decode cX12_fitsLatest 16 = .ok (.isub, 1) := by decide +kernel
theorem dX12_fitsLatest_17 : decode cX12_fitsLatest 17 = .ok (.baload, 1) := by decide +kernel
theorem dX12_fitsLatest_18 : decode cX12_fitsLatest 18 = .ok (.ifCond .ne 27, 3) := by decide +kernel
theorem dX12_fitsLatest_21 : decode cX12_fitsLatest 21 = .ok (.aload_n 0, 1) := by decide +kernel
theorem dX12_fitsLatest_22 : decode cX12_fitsLatest 22 = .ok (.getfield 49, 3) := by decide +kernel
theorem dX12_fitsLatest_25 : decode cX12_fitsLatest 25 = .ok (.aload_n 0, 1) := by decide +kernel
theorem dX12_fitsLatest_26 : decode cX12_fitsLatest 26 = .ok (.getfield 178, 3) := by decide +kernel
theorem dX12_fitsLatest_29 : decode cX12_fitsLatest 29 = .ok (.iconst 1, 1) := by decide +kernel
theorem dX12_fitsLatest_30 : decode cX12_fitsLatest 30 = .ok (.isub, 1) := by decide +kernel
theorem dX12_fitsLatest_31 : decode cX12_fitsLatest 31 = .ok (.iaload, 1) := by decide +kernel
theorem dX12_fitsLatest_32 : decode cX12_fitsLatest 32 = .ok (.iload_n 1, 1) := by decide +kernel
theorem dX12_fitsLatest_33 : decode cX12_fitsLatest 33 = .ok (.iadd, 1) := by decide +kernel
theorem dX12_fitsLatest_34 : decode cX12_fitsLatest 34 = .ok (.aload_n 0, 1) := by decide +kernel
theorem dX12_fitsLatest_35 : decode cX12_fitsLatest 35 = .ok (.getfield 124, 3) := by decide +kernel
theorem dX12_fitsLatest_38 : decode cX12_fitsLatest 38 = .ok (.if_icmp .gt 7, 3) := by decide +kernel
theorem dX12_fitsLatest_41 : decode cX12_fitsLatest 41 = .ok (.iconst 1, 1) := by decide +kernel
theorem dX12_fitsLatest_42 : decode cX12_fitsLatest 42 = .ok (.goto 4, 3) := by decide +kernel
theorem dX12_fitsLatest_45 : decode cX12_fitsLatest 45 = .ok (.iconst 0, 1) := by decide +kernel
theorem dX12_fitsLatest_46 : decode cX12_fitsLatest 46 = .ok (.ireturn, 1) := by decide +kernel
theorem dX12_use_0 : decode cX12_use 0 = .ok (.aload_n 0, 1) := by decide +kernel
theorem dX12_use_1 : decode cX12_use 1 = .ok (.iload_n 1, 1) := by decide +kernel
theorem dX12_use_2 : decode cX12_use 2 = .ok (.iload_n 2, 1) := by decide +kernel
theorem dX12_use_3 : decode cX12_use 3 = .ok (.invokevirtual 174, 3) := by decide +kernel
theorem dX12_use_6 : decode cX12_use 6 = .ok (.ifCond .ne 30, 3) := by decide +kernel
theorem dX12_use_9 : decode cX12_use 9 = .ok (.aload_n 0, 1) := by decide +kernel
theorem dX12_use_10 : decode cX12_use 10 = .ok (.getfield 91, 3) := by decide +kernel
theorem dX12_use_13 : decode cX12_use 13 = .ok (.bipush 8, 2) := by decide +kernel
theorem dX12_use_15 : decode cX12_use 15 = .ok (.iload_n 1, 1) := by decide +kernel
theorem dX12_use_16 : decode cX12_use 16 = .ok (.imul, 1) := by decide +kernel
theorem dX12_use_17 : decode cX12_use 17 = .ok (.aload_n 0, 1) := by decide +kernel
theorem dX12_use_18 : decode cX12_use 18 = .ok (.getfield 88, 3) := by decide +kernel
theorem dX12_use_21 : decode cX12_use 21 = .ok (.iload_n 1, 1) := by decide +kernel
theorem dX12_use_22 : decode cX12_use 22 = .ok (.iaload, 1) := by decide +kernel
theorem dX12_use_23 : decode cX12_use 23 = .ok (.iadd, 1) := by decide +kernel
theorem dX12_use_24 : decode cX12_use 24 = .ok (.iload_n 2, 1) := by decide +kernel
theorem dX12_use_25 : decode cX12_use 25 = .ok (.iastore, 1) := by decide +kernel
theorem dX12_use_26 : decode cX12_use 26 = .ok (.aload_n 0, 1) := by decide +kernel
theorem dX12_use_27 : decode cX12_use 27 = .ok (.getfield 88, 3) := by decide +kernel
theorem dX12_use_30 : decode cX12_use 30 = .ok (.iload_n 1, 1) := by decide +kernel
theorem dX12_use_31 : decode cX12_use 31 = .ok (.dup2, 1) := by decide +kernel
theorem dX12_use_32 : decode cX12_use 32 = .ok (.iaload, 1) := by decide +kernel
theorem dX12_use_33 : decode cX12_use 33 = .ok (.iconst 1, 1) := by decide +kernel
theorem dX12_use_34 : decode cX12_use 34 = .ok (.iadd, 1) := by decide +kernel
theorem dX12_use_35 : decode cX12_use 35 = .ok (.iastore, 1) := by decide +kernel
theorem dX12_use_36 : decode cX12_use 36 = .ok (.return_, 1) := by decide +kernel
theorem dX12_save_0 : decode cX12_save 0 = .ok (.aload_n 0, 1) := by decide +kernel
theorem dX12_save_1 : decode cX12_save 1 = .ok (.getfield 127, 3) := by decide +kernel
theorem dX12_save_4 : decode cX12_save 4 = .ok (.ifCond .eq 6, 3) := by decide +kernel
theorem dX12_save_7 : decode cX12_save 7 = .ok (.bipush (-106), 2) := by decide +kernel
theorem dX12_save_9 : decode cX12_save 9 = .ok (.ireturn, 1) := by decide +kernel
theorem dX12_save_10 : decode cX12_save 10 = .ok (.aload_n 0, 1) := by decide +kernel
theorem dX12_save_11 : decode cX12_save 11 = .ok (.iload_n 1, 1) := by decide +kernel
theorem dX12_save_12 : decode cX12_save 12 = .ok (.invokevirtual 165, 3) := by decide +kernel
theorem dX12_save_15 : decode cX12_save 15 = .ok (.ifCond .ne 6, 3) := by decide +kernel
theorem dX12_save_18 : decode cX12_save 18 = .ok (.bipush (-101), 2) := by decide +kernel
theorem dX12_save_20 : decode cX12_save 20 = .ok (.ireturn, 1) := by decide +kernel
theorem dX12_save_21 : decode cX12_save 21 = .ok (.aload_n 0, 1) := by decide +kernel
theorem dX12_save_22 : decode cX12_save 22 = .ok (.iload_n 1, 1) := by decide +kernel
theorem dX12_save_23 : decode cX12_save 23 = .ok (.invokevirtual 168, 3) := by decide +kernel
theorem dX12_save_26 : decode cX12_save 26 = .ok (.istore 5, 2) := by decide +kernel
theorem dX12_save_28 : decode cX12_save 28 = .ok (.iload 4, 2) := by decide +kernel
theorem dX12_save_30 : decode cX12_save 30 = .ok (.i2l, 1) := by decide +kernel
theorem dX12_save_31 : decode cX12_save 31 = .ok (.lconst 1, 1) := by decide +kernel
theorem dX12_save_32 : decode cX12_save 32 = .ok (.aload_n 0, 1) := by decide +kernel
theorem dX12_save_33 : decode cX12_save 33 = .ok (.getfield 124, 3) := by decide +kernel
theorem dX12_save_36 : decode cX12_save 36 = .ok (.i2l, 1) := by decide +kernel
theorem dX12_save_37 : decode cX12_save 37 = .ok (.invokestatic 144, 3) := by decide +kernel
theorem dX12_save_40 : decode cX12_save 40 = .ok (.ifCond .ne 6, 3) := by decide +kernel
theorem dX12_save_43 : decode cX12_save 43 = .ok (.bipush (-102), 2) := by decide +kernel
theorem dX12_save_45 : decode cX12_save 45 = .ok (.ireturn, 1) := by decide +kernel
theorem dX12_save_46 : decode cX12_save 46 = .ok (.iload 5, 2) := by decide +kernel
theorem dX12_save_48 : decode cX12_save 48 = .ok (.ifCond .ne 6, 3) := by decide +kernel
theorem dX12_save_51 : decode cX12_save 51 = .ok (.bipush (-103), 2) := by decide +kernel
theorem dX12_save_53 : decode cX12_save 53 = .ok (.ireturn, 1) := by decide +kernel
theorem dX12_save_54 : decode cX12_save 54 = .ok (.aload_n 0, 1) := by decide +kernel
theorem dX12_save_55 : decode cX12_save 55 = .ok (.iload_n 1, 1) := by decide +kernel
theorem dX12_save_56 : decode cX12_save 56 = .ok (.lload_n 2, 1) := by decide +kernel
theorem dX12_save_57 : decode cX12_save 57 = .ok (.iload 4, 2) := by decide +kernel
theorem dX12_save_59 : decode cX12_save 59 = .ok (.invokevirtual 181, 3) := by decide +kernel
theorem dX12_save_62 : decode cX12_save 62 = .ok (.istore 6, 2) := by decide +kernel
theorem dX12_save_64 : decode cX12_save 64 = .ok (.iload 6, 2) := by decide +kernel
theorem dX12_save_66 : decode cX12_save 66 = .ok (.ifCond .lt 50, 3) := by decide +kernel
theorem dX12_save_69 : decode cX12_save 69 = .ok (.aload_n 0, 1) := by decide +kernel
theorem dX12_save_70 : decode cX12_save 70 = .ok (.iload_n 1, 1) := by decide +kernel
theorem dX12_save_71 : decode cX12_save 71 = .ok (.iload 6, 2) := by decide +kernel
theorem dX12_save_73 : decode cX12_save 73 = .ok (.invokevirtual 174, 3) := by decide +kernel
theorem dX12_save_76 : decode cX12_save 76 = .ok (.ifCond .ne 17, 3) := by decide +kernel
theorem dX12_save_79 : decode cX12_save 79 = .ok (.aload_n 0, 1) := by decide +kernel
theorem dX12_save_80 : decode cX12_save 80 = .ok (.getfield 88, 3) := by decide +kernel
theorem dX12_save_83 : decode cX12_save 83 = .ok (.iload_n 1, 1) := by decide +kernel
theorem dX12_save_84 : decode cX12_save 84 = .ok (.iaload, 1) := by decide +kernel
theorem dX12_save_85 : decode cX12_save 85 = .ok (.bipush 8, 2) := by decide +kernel
theorem dX12_save_87 : decode cX12_save 87 = .ok (.if_icmp .ne 6, 3) := by decide +kernel
theorem dX12_save_90 : decode cX12_save 90 = .ok (.bipush (-104), 2) := by decide +kernel
theorem dX12_save_92 : decode cX12_save 92 = .ok (.ireturn, 1) := by decide +kernel
theorem dX12_save_93 : decode cX12_save 93 = .ok (.aload_n 0, 1) := by decide +kernel
theorem dX12_save_94 : decode cX12_save 94 = .ok (.iload_n 1, 1) := by decide +kernel
theorem dX12_save_95 : decode cX12_save 95 = .ok (.iload 6, 2) := by decide +kernel
theorem dX12_save_97 : decode cX12_save 97 = .ok (.invokevirtual 185, 3) := by decide +kernel
theorem dX12_save_100 : decode cX12_save 100 = .ok (.ifCond .ne 6, 3) := by decide +kernel
theorem dX12_save_103 : decode cX12_save 103 = .ok (.bipush (-105), 2) := by decide +kernel
theorem dX12_save_105 : decode cX12_save 105 = .ok (.ireturn, 1) := by decide +kernel
theorem dX12_save_106 : decode cX12_save 106 = .ok (.aload_n 0, 1) := by decide +kernel
theorem dX12_save_107 : decode cX12_save 107 = .ok (.getfield 94, 3) := by decide +kernel
theorem dX12_save_110 : decode cX12_save 110 = .ok (.iload_n 1, 1) := by decide +kernel
theorem dX12_save_111 : decode cX12_save 111 = .ok (.iconst 0, 1) := by decide +kernel
theorem dX12_save_112 : decode cX12_save 112 = .ok (.iastore, 1) := by decide +kernel
theorem dX12_save_113 : decode cX12_save 113 = .ok (.iload 6, 2) := by decide +kernel
theorem dX12_save_115 : decode cX12_save 115 = .ok (.ireturn, 1) := by decide +kernel
theorem dX12_save_116 : decode cX12_save 116 = .ok (.aload_n 0, 1) := by decide +kernel
theorem dX12_save_117 : decode cX12_save 117 = .ok (.getfield 88, 3) := by decide +kernel
theorem dX12_save_120 : decode cX12_save 120 = .ok (.iload_n 1, 1) := by decide +kernel
theorem dX12_save_121 : decode cX12_save 121 = .ok (.iaload, 1) := by decide +kernel
theorem dX12_save_122 : decode cX12_save 122 = .ok (.bipush 8, 2) := by decide +kernel
theorem dX12_save_124 : decode cX12_save 124 = .ok (.if_icmp .eq 30, 3) := by decide +kernel
theorem dX12_save_127 : decode cX12_save 127 = .ok (.aload_n 0, 1) := by decide +kernel
theorem dX12_save_128 : decode cX12_save 128 = .ok (.getfield 156, 3) := by decide +kernel
theorem dX12_save_131 : decode cX12_save 131 = .ok (.bipush 80, 2) := by decide +kernel
theorem dX12_save_133 : decode cX12_save 133 = .ok (.if_icmp .eq 21, 3) := by decide +kernel
theorem dX12_save_136 : decode cX12_save 136 = .ok (.aload_n 0, 1) := by decide +kernel
theorem dX12_save_137 : decode cX12_save 137 = .ok (.iload 4, 2) := by decide +kernel
theorem dX12_save_139 : decode cX12_save 139 = .ok (.invokevirtual 188, 3) := by decide +kernel
theorem dX12_save_142 : decode cX12_save 142 = .ok (.ifCond .ne 15, 3) := by decide +kernel
theorem dX12_save_145 : decode cX12_save 145 = .ok (.aload_n 0, 1) := by decide +kernel
theorem dX12_save_146 : decode cX12_save 146 = .ok (.getfield 178, 3) := by decide +kernel
theorem dX12_save_149 : decode cX12_save 149 = .ok (.bipush 40, 2) := by decide +kernel
theorem dX12_save_151 : decode cX12_save 151 = .ok (.if_icmp .ne 6, 3) := by decide +kernel
theorem dX12_save_154 : decode cX12_save 154 = .ok (.bipush (-104), 2) := by decide +kernel
theorem dX12_save_156 : decode cX12_save 156 = .ok (.ireturn, 1) := by decide +kernel
theorem dX12_save_157 : decode cX12_save 157 = .ok (.aload_n 0, 1) := by decide +kernel
theorem dX12_save_158 : decode cX12_save 158 = .ok (.invokevirtual 191, 3) := by decide +kernel
theorem dX12_save_161 : decode cX12_save 161 = .ok (.ifCond .ne 6, 3) := by decide +kernel
theorem dX12_save_164 : decode cX12_save 164 = .ok (.bipush (-105), 2) := by decide +kernel
theorem dX12_save_166 : decode cX12_save 166 = .ok (.ireturn, 1) := by decide +kernel
theorem dX12_save_167 : decode cX12_save 167 = .ok (.aload_n 0, 1) := by decide +kernel
theorem dX12_save_168 : decode cX12_save 168 = .ok (.iload_n 1, 1) := by decide +kernel
theorem dX12_save_169 : decode cX12_save 169 = .ok (.lload_n 2, 1) := by decide +kernel
theorem dX12_save_170 : decode cX12_save 170 = .ok (.iload 4, 2) := by decide +kernel
theorem dX12_save_172 : decode cX12_save 172 = .ok (.invokevirtual 195, 3) := by decide +kernel
theorem dX12_save_175 : decode cX12_save 175 = .ok (.ireturn, 1) := by decide +kernel
theorem dX12_made_0 : decode cX12_made 0 = .ok (.aload_n 0, 1) := by decide +kernel
theorem dX12_made_1 : decode cX12_made 1 = .ok (.getfield 156, 3) := by decide +kernel
theorem dX12_made_4 : decode cX12_made 4 = .ok (.istore 5, 2) := by decide +kernel
theorem dX12_made_6 : decode cX12_made 6 = .ok (.aload_n 0, 1) := by decide +kernel
theorem dX12_made_7 : decode cX12_made 7 = .ok (.iload 4, 2) := by decide +kernel
theorem dX12_made_9 : decode cX12_made 9 = .ok (.invokevirtual 188, 3) := by decide +kernel
theorem dX12_made_12 : decode cX12_made 12 = .ok (.ifCond .ne 33, 3) := by decide +kernel
theorem dX12_made_15 : decode cX12_made 15 = .ok (.aload_n 0, 1) := by decide +kernel
theorem dX12_made_16 : decode cX12_made 16 = .ok (.getfield 49, 3) := by decide +kernel
theorem dX12_made_19 : decode cX12_made 19 = .ok (.aload_n 0, 1) := by decide +kernel
theorem dX12_made_20 : decode cX12_made 20 = .ok (.getfield 178, 3) := by decide +kernel
theorem dX12_made_23 : decode cX12_made 23 = .ok (.iconst 0, 1) := by decide +kernel
theorem dX12_made_24 : decode cX12_made 24 = .ok (.iastore, 1) := by decide +kernel
theorem dX12_made_25 : decode cX12_made 25 = .ok (.aload_n 0, 1) := by decide +kernel
theorem dX12_made_26 : decode cX12_made 26 = .ok (.getfield 46, 3) := by decide +kernel
theorem dX12_made_29 : decode cX12_made 29 = .ok (.aload_n 0, 1) := by decide +kernel
theorem dX12_made_30 : decode cX12_made 30 = .ok (.getfield 178, 3) := by decide +kernel
theorem dX12_made_33 : decode cX12_made 33 = .ok (.iconst 0, 1) := by decide +kernel
theorem dX12_made_34 : decode cX12_made 34 = .ok (.bastore, 1) := by decide +kernel
theorem dX12_made_35 : decode cX12_made 35 = .ok (.aload_n 0, 1) := by decide +kernel
theorem dX12_made_36 : decode cX12_made 36 = .ok (.dup, 1) := by decide +kernel
theorem dX12_made_37 : decode cX12_made 37 = .ok (.getfield 178, 3) := by decide +kernel
theorem dX12_made_40 : decode cX12_made 40 = .ok (.iconst 1, 1) := by decide +kernel
theorem dX12_made_41 : decode cX12_made 41 = .ok (.iadd, 1) := by decide +kernel
theorem dX12_made_42 : decode cX12_made 42 = .ok (.putfield 178, 3) := by decide +kernel
theorem dX12_made_45 : decode cX12_made 45 = .ok (.aload_n 0, 1) := by decide +kernel
theorem dX12_made_46 : decode cX12_made 46 = .ok (.getfield 19, 3) := by decide +kernel
theorem dX12_made_49 : decode cX12_made 49 = .ok (.iload 5, 2) := by decide +kernel
theorem dX12_made_51 : decode cX12_made 51 = .ok (.lload_n 2, 1) := by decide +kernel
theorem dX12_made_52 : decode cX12_made 52 = .ok (.lastore, 1) := by decide +kernel
theorem dX12_made_53 : decode cX12_made 53 = .ok (.aload_n 0, 1) := by decide +kernel
theorem dX12_made_54 : decode cX12_made 54 = .ok (.getfield 23, 3) := by decide +kernel
theorem dX12_made_57 : decode cX12_made 57 = .ok (.iload 5, 2) := by decide +kernel
theorem dX12_made_59 : decode cX12_made 59 = .ok (.iload 4, 2) := by decide +kernel
theorem dX12_made_61 : decode cX12_made 61 = .ok (.iastore, 1) := by decide +kernel
theorem dX12_made_62 : decode cX12_made 62 = .ok (.aload_n 0, 1) := by decide +kernel
theorem dX12_made_63 : decode cX12_made 63 = .ok (.getfield 27, 3) := by decide +kernel
theorem dX12_made_66 : decode cX12_made 66 = .ok (.iload 5, 2) := by decide +kernel
theorem dX12_made_68 : decode cX12_made 68 = .ok (.aload_n 0, 1) := by decide +kernel
theorem dX12_made_69 : decode cX12_made 69 = .ok (.getfield 94, 3) := by decide +kernel
theorem dX12_made_72 : decode cX12_made 72 = .ok (.iload_n 1, 1) := by decide +kernel
theorem dX12_made_73 : decode cX12_made 73 = .ok (.iaload, 1) := by decide +kernel
theorem dX12_made_74 : decode cX12_made 74 = .ok (.iastore, 1) := by decide +kernel
theorem dX12_made_75 : decode cX12_made 75 = .ok (.iconst 0, 1) := by decide +kernel
theorem dX12_made_76 : decode cX12_made 76 = .ok (.istore 6, 2) := by decide +kernel
theorem dX12_made_78 : decode cX12_made 78 = .ok (.iload 6, 2) := by decide +kernel
theorem dX12_made_80 : decode cX12_made 80 = .ok (.aload_n 0, 1) := by decide +kernel
theorem dX12_made_81 : decode cX12_made 81 = .ok (.getfield 94, 3) := by decide +kernel
theorem dX12_made_84 : decode cX12_made 84 = .ok (.iload_n 1, 1) := by decide +kernel
theorem dX12_made_85 : decode cX12_made 85 = .ok (.iaload, 1) := by decide +kernel
theorem dX12_made_86 : decode cX12_made 86 = .ok (.if_icmp .ge 32, 3) := by decide +kernel
theorem dX12_made_89 : decode cX12_made 89 = .ok (.aload_n 0, 1) := by decide +kernel
theorem dX12_made_90 : decode cX12_made 90 = .ok (.getfield 30, 3) := by decide +kernel
theorem dX12_made_93 : decode cX12_made 93 = .ok (.iconst 4, 1) := by decide +kernel
theorem dX12_made_94 : decode cX12_made 94 = .ok (.iload 5, 2) := by decide +kernel
theorem dX12_made_96 : decode cX12_made 96 = .ok (.imul, 1) := by decide +kernel
theorem dX12_made_97 : decode cX12_made 97 = .ok (.iload 6, 2) := by decide +kernel
theorem dX12_made_99 : decode cX12_made 99 = .ok (.iadd, 1) := by decide +kernel
theorem dX12_made_100 : decode cX12_made 100 = .ok (.aload_n 0, 1) := by decide +kernel
theorem dX12_made_101 : decode cX12_made 101 = .ok (.getfield 97, 3) := by decide +kernel
theorem dX12_made_104 : decode cX12_made 104 = .ok (.iconst 4, 1) := by decide +kernel
theorem dX12_made_105 : decode cX12_made 105 = .ok (.iload_n 1, 1) := by decide +kernel
theorem dX12_made_106 : decode cX12_made 106 = .ok (.imul, 1) := by decide +kernel
theorem dX12_made_107 : decode cX12_made 107 = .ok (.iload 6, 2) := by decide +kernel
theorem dX12_made_109 : decode cX12_made 109 = .ok (.iadd, 1) := by decide +kernel
theorem dX12_made_110 : decode cX12_made 110 = .ok (.iaload, 1) := by decide +kernel
theorem dX12_made_111 : decode cX12_made 111 = .ok (.iastore, 1) := by decide +kernel
theorem dX12_made_112 : decode cX12_made 112 = .ok (.iinc 6 1, 3) := by decide +kernel
theorem dX12_made_115 : decode cX12_made 115 = .ok (.goto (-37), 3) := by decide +kernel
theorem dX12_made_118 : decode cX12_made 118 = .ok (.aload_n 0, 1) := by decide +kernel
theorem dX12_made_119 : decode cX12_made 119 = .ok (.getfield 33, 3) := by decide +kernel
theorem dX12_made_122 : decode cX12_made 122 = .ok (.iload 5, 2) := by decide +kernel
theorem dX12_made_124 : decode cX12_made 124 = .ok (.iconst 1, 1) := by decide +kernel
theorem dX12_made_125 : decode cX12_made 125 = .ok (.bastore, 1) := by decide +kernel
theorem dX12_made_126 : decode cX12_made 126 = .ok (.aload_n 0, 1) := by decide +kernel
theorem dX12_made_127 : decode cX12_made 127 = .ok (.getfield 43, 3) := by decide +kernel
theorem dX12_made_130 : decode cX12_made 130 = .ok (.iload 5, 2) := by decide +kernel
theorem dX12_made_132 : decode cX12_made 132 = .ok (.iconst 0, 1) := by decide +kernel
theorem dX12_made_133 : decode cX12_made 133 = .ok (.iastore, 1) := by decide +kernel
theorem dX12_made_134 : decode cX12_made 134 = .ok (.aload_n 0, 1) := by decide +kernel
theorem dX12_made_135 : decode cX12_made 135 = .ok (.getfield 103, 3) := by decide +kernel
theorem dX12_made_138 : decode cX12_made 138 = .ok (.iload 5, 2) := by decide +kernel
theorem dX12_made_140 : decode cX12_made 140 = .ok (.iconst 0, 1) := by decide +kernel
theorem dX12_made_141 : decode cX12_made 141 = .ok (.bastore, 1) := by decide +kernel
theorem dX12_made_142 : decode cX12_made 142 = .ok (.aload_n 0, 1) := by decide +kernel
theorem dX12_made_143 : decode cX12_made 143 = .ok (.getfield 37, 3) := by decide +kernel
theorem dX12_made_146 : decode cX12_made 146 = .ok (.iload 5, 2) := by decide +kernel
theorem dX12_made_148 : decode cX12_made 148 = .ok (.aload_n 0, 1) := by decide +kernel
theorem dX12_made_149 : decode cX12_made 149 = .ok (.getfield 178, 3) := by decide +kernel
theorem dX12_made_152 : decode cX12_made 152 = .ok (.iconst 1, 1) := by decide +kernel
theorem dX12_made_153 : decode cX12_made 153 = .ok (.isub, 1) := by decide +kernel
theorem dX12_made_154 : decode cX12_made 154 = .ok (.iastore, 1) := by decide +kernel
theorem dX12_made_155 : decode cX12_made 155 = .ok (.aload_n 0, 1) := by decide +kernel
theorem dX12_made_156 : decode cX12_made 156 = .ok (.getfield 40, 3) := by decide +kernel
theorem dX12_made_159 : decode cX12_made 159 = .ok (.iload 5, 2) := by decide +kernel
theorem dX12_made_161 : decode cX12_made 161 = .ok (.aload_n 0, 1) := by decide +kernel
theorem dX12_made_162 : decode cX12_made 162 = .ok (.getfield 49, 3) := by decide +kernel
theorem dX12_made_165 : decode cX12_made 165 = .ok (.aload_n 0, 1) := by decide +kernel
theorem dX12_made_166 : decode cX12_made 166 = .ok (.getfield 178, 3) := by decide +kernel
theorem dX12_made_169 : decode cX12_made 169 = .ok (.iconst 1, 1) := by decide +kernel
theorem dX12_made_170 : decode cX12_made 170 = .ok (.isub, 1) := by decide +kernel
theorem dX12_made_171 : decode cX12_made 171 = .ok (.iaload, 1) := by decide +kernel
theorem dX12_made_172 : decode cX12_made 172 = .ok (.iastore, 1) := by decide +kernel
theorem dX12_made_173 : decode cX12_made 173 = .ok (.aload_n 0, 1) := by decide +kernel
theorem dX12_made_174 : decode cX12_made 174 = .ok (.getfield 49, 3) := by decide +kernel
theorem dX12_made_177 : decode cX12_made 177 = .ok (.aload_n 0, 1) := by decide +kernel
theorem dX12_made_178 : decode cX12_made 178 = .ok (.getfield 178, 3) := by decide +kernel
theorem dX12_made_181 : decode cX12_made 181 = .ok (.iconst 1, 1) := by decide +kernel
theorem dX12_made_182 : decode cX12_made 182 = .ok (.isub, 1) := by decide +kernel
theorem dX12_made_183 : decode cX12_made 183 = .ok (.dup2, 1) := by decide +kernel
theorem dX12_made_184 : decode cX12_made 184 = .ok (.iaload, 1) := by decide +kernel
theorem dX12_made_185 : decode cX12_made 185 = .ok (.iload 4, 2) := by decide +kernel
theorem dX12_made_187 : decode cX12_made 187 = .ok (.iadd, 1) := by decide +kernel
theorem dX12_made_188 : decode cX12_made 188 = .ok (.iastore, 1) := by decide +kernel
theorem dX12_made_189 : decode cX12_made 189 = .ok (.aload_n 0, 1) := by decide +kernel
theorem dX12_made_190 : decode cX12_made 190 = .ok (.dup, 1) := by decide +kernel
theorem dX12_made_191 : decode cX12_made 191 = .ok (.getfield 156, 3) := by decide +kernel
theorem dX12_made_194 : decode cX12_made 194 = .ok (.iconst 1, 1) := by decide +kernel
theorem dX12_made_195 : decode cX12_made 195 = .ok (.iadd, 1) := by decide +kernel
theorem dX12_made_196 : decode cX12_made 196 = .ok (.putfield 156, 3) := by decide +kernel
theorem dX12_made_199 : decode cX12_made 199 = .ok (.aload_n 0, 1) := by decide +kernel
theorem dX12_made_200 : decode cX12_made 200 = .ok (.iconst 0, 1) := by decide +kernel
theorem dX12_made_201 : decode cX12_made 201 = .ok (.iload 5, 2) := by decide +kernel
theorem dX12_made_203 : decode cX12_made 203 = .ok (.invokevirtual 198, 3) := by decide +kernel
theorem dX12_made_206 : decode cX12_made 206 = .ok (.aload_n 0, 1) := by decide +kernel
theorem dX12_made_207 : decode cX12_made 207 = .ok (.iload_n 1, 1) := by decide +kernel
theorem dX12_made_208 : decode cX12_made 208 = .ok (.iload 5, 2) := by decide +kernel
theorem dX12_made_210 : decode cX12_made 210 = .ok (.invokevirtual 202, 3) := by decide +kernel
theorem dX12_made_213 : decode cX12_made 213 = .ok (.aload_n 0, 1) := by decide +kernel
theorem dX12_made_214 : decode cX12_made 214 = .ok (.getfield 94, 3) := by decide +kernel
theorem dX12_made_217 : decode cX12_made 217 = .ok (.iload_n 1, 1) := by decide +kernel
theorem dX12_made_218 : decode cX12_made 218 = .ok (.iconst 0, 1) := by decide +kernel
theorem dX12_made_219 : decode cX12_made 219 = .ok (.iastore, 1) := by decide +kernel
theorem dX12_made_220 : decode cX12_made 220 = .ok (.iload 5, 2) := by decide +kernel
theorem dX12_made_222 : decode cX12_made 222 = .ok (.ireturn, 1) := by decide +kernel
theorem dX12_reachFrom_0 : decode cX12_reachFrom 0 = .ok (.iconst 0, 1) := by decide +kernel
theorem dX12_reachFrom_1 : decode cX12_reachFrom 1 = .ok (.istore_n 2, 1) := by decide +kernel
theorem dX12_reachFrom_2 : decode cX12_reachFrom 2 = .ok (.iload_n 2, 1) := by decide +kernel
theorem dX12_reachFrom_3 : decode cX12_reachFrom 3 = .ok (.bipush 80, 2) := by decide +kernel
theorem dX12_reachFrom_5 : decode cX12_reachFrom 5 = .ok (.if_icmp .ge 25, 3) := by decide +kernel
theorem dX12_reachFrom_8 : decode cX12_reachFrom 8 = .ok (.aload_n 0, 1) := by decide +kernel
theorem dX12_reachFrom_9 : decode cX12_reachFrom 9 = .ok (.getfield 109, 3) := by decide +kernel
theorem dX12_reachFrom_12 : decode cX12_reachFrom 12 = .ok (.iload_n 2, 1) := by decide +kernel
theorem dX12_reachFrom_13 : decode cX12_reachFrom 13 = .ok (.iload_n 2, 1) := by decide +kernel
theorem dX12_reachFrom_14 : decode cX12_reachFrom 14 = .ok (.iload_n 1, 1) := by decide +kernel
theorem dX12_reachFrom_15 : decode cX12_reachFrom 15 = .ok (.if_icmp .ne 7, 3) := by decide +kernel
theorem dX12_reachFrom_18 : decode cX12_reachFrom 18 = .ok (.iconst 1, 1) := by decide +kernel
theorem dX12_reachFrom_19 : decode cX12_reachFrom 19 = .ok (.goto 4, 3) := by decide +kernel
theorem dX12_reachFrom_22 : decode cX12_reachFrom 22 = .ok (.iconst 0, 1) := by decide +kernel
theorem dX12_reachFrom_23 : decode cX12_reachFrom 23 = .ok (.bastore, 1) := by decide +kernel
theorem dX12_reachFrom_24 : decode cX12_reachFrom 24 = .ok (.iinc 2 1, 3) := by decide +kernel
theorem dX12_reachFrom_27 : decode cX12_reachFrom 27 = .ok (.goto (-25), 3) := by decide +kernel
theorem dX12_reachFrom_30 : decode cX12_reachFrom 30 = .ok (.iload_n 1, 1) := by decide +kernel
theorem dX12_reachFrom_31 : decode cX12_reachFrom 31 = .ok (.istore_n 2, 1) := by decide +kernel
theorem dX12_reachFrom_32 : decode cX12_reachFrom 32 = .ok (.iload_n 2, 1) := by decide +kernel
theorem dX12_reachFrom_33 : decode cX12_reachFrom 33 = .ok (.ifCond .lt 52, 3) := by decide +kernel
theorem dX12_reachFrom_36 : decode cX12_reachFrom 36 = .ok (.iconst 0, 1) := by decide +kernel
theorem dX12_reachFrom_37 : decode cX12_reachFrom 37 = .ok (.istore_n 3, 1) := by decide +kernel
theorem dX12_reachFrom_38 : decode cX12_reachFrom 38 = .ok (.iload_n 3, 1) := by decide +kernel
theorem dX12_reachFrom_39 : decode cX12_reachFrom 39 = .ok (.aload_n 0, 1) := by decide +kernel
theorem dX12_reachFrom_40 : decode cX12_reachFrom 40 = .ok (.getfield 27, 3) := by decide +kernel
theorem dX12_reachFrom_43 : decode cX12_reachFrom 43 = .ok (.iload_n 2, 1) := by decide +kernel
theorem dX12_reachFrom_44 : decode cX12_reachFrom 44 = .ok (.iaload, 1) := by decide +kernel
theorem dX12_reachFrom_45 : decode cX12_reachFrom 45 = .ok (.if_icmp .ge 34, 3) := by decide +kernel
theorem dX12_reachFrom_48 : decode cX12_reachFrom 48 = .ok (.aload_n 0, 1) := by decide +kernel
theorem dX12_reachFrom_49 : decode cX12_reachFrom 49 = .ok (.getfield 109, 3) := by decide +kernel
theorem dX12_reachFrom_52 : decode cX12_reachFrom 52 = .ok (.iload_n 2, 1) := by decide +kernel
theorem dX12_reachFrom_53 : decode cX12_reachFrom 53 = .ok (.baload, 1) := by decide +kernel
theorem dX12_reachFrom_54 : decode cX12_reachFrom 54 = .ok (.ifCond .eq 25, 3) := by decide +kernel
theorem dX12_reachFrom_57 : decode cX12_reachFrom 57 = .ok (.aload_n 0, 1) := by decide +kernel
theorem dX12_reachFrom_58 : decode cX12_reachFrom 58 = .ok (.getfield 109, 3) := by decide +kernel
theorem dX12_reachFrom_61 : decode cX12_reachFrom 61 = .ok (.aload_n 0, 1) := by decide +kernel
theorem dX12_reachFrom_62 : decode cX12_reachFrom 62 = .ok (.getfield 30, 3) := by decide +kernel
theorem dX12_reachFrom_65 : decode cX12_reachFrom 65 = .ok (.iconst 4, 1) := by decide +kernel
theorem dX12_reachFrom_66 : decode cX12_reachFrom 66 = .ok (.iload_n 2, 1) := by decide +kernel
theorem dX12_reachFrom_67 : decode cX12_reachFrom 67 = .ok (.imul, 1) := by decide +kernel
theorem dX12_reachFrom_68 : decode cX12_reachFrom 68 = .ok (.iload_n 3, 1) := by decide +kernel
theorem dX12_reachFrom_69 : decode cX12_reachFrom 69 = .ok (.iadd, 1) := by decide +kernel
theorem dX12_reachFrom_70 : decode cX12_reachFrom 70 = .ok (.iaload, 1) := by decide +kernel
theorem dX12_reachFrom_71 : decode cX12_reachFrom 71 = .ok (.iconst 1, 1) := by decide +kernel
theorem dX12_reachFrom_72 : decode cX12_reachFrom 72 = .ok (.bastore, 1) := by decide +kernel
theorem dX12_reachFrom_73 : decode cX12_reachFrom 73 = .ok (.iinc 3 1, 3) := by decide +kernel
theorem dX12_reachFrom_76 : decode cX12_reachFrom 76 = .ok (.goto (-38), 3) := by decide +kernel
theorem dX12_reachFrom_79 : decode cX12_reachFrom 79 = .ok (.iinc 2 (-1), 3) := by decide +kernel
theorem dX12_reachFrom_82 : decode cX12_reachFrom 82 = .ok (.goto (-50), 3) := by decide +kernel
theorem dX12_reachFrom_85 : decode cX12_reachFrom 85 = .ok (.return_, 1) := by decide +kernel
theorem dX12_taken_0 : decode cX12_taken 0 = .ok (.aload_n 0, 1) := by decide +kernel
theorem dX12_taken_1 : decode cX12_taken 1 = .ok (.iconst 0, 1) := by decide +kernel
theorem dX12_taken_2 : decode cX12_taken 2 = .ok (.putfield 205, 3) := by decide +kernel
theorem dX12_taken_5 : decode cX12_taken 5 = .ok (.aload_n 0, 1) := by decide +kernel
theorem dX12_taken_6 : decode cX12_taken 6 = .ok (.iload_n 2, 1) := by decide +kernel
theorem dX12_taken_7 : decode cX12_taken 7 = .ok (.invokevirtual 208, 3) := by decide +kernel
theorem dX12_taken_10 : decode cX12_taken 10 = .ok (.iconst 0, 1) := by decide +kernel
theorem dX12_taken_11 : decode cX12_taken 11 = .ok (.istore_n 3, 1) := by decide +kernel
theorem dX12_taken_12 : decode cX12_taken 12 = .ok (.iload_n 3, 1) := by decide +kernel
theorem dX12_taken_13 : decode cX12_taken 13 = .ok (.iload_n 2, 1) := by decide +kernel
theorem dX12_taken_14 : decode cX12_taken 14 = .ok (.if_icmp .gt 63, 3) := by decide +kernel
theorem dX12_taken_17 : decode cX12_taken 17 = .ok (.aload_n 0, 1) := by decide +kernel
theorem dX12_taken_18 : decode cX12_taken 18 = .ok (.getfield 109, 3) := by decide +kernel
theorem dX12_taken_21 : decode cX12_taken 21 = .ok (.iload_n 3, 1) := by decide +kernel
theorem dX12_taken_22 : decode cX12_taken 22 = .ok (.baload, 1) := by decide +kernel
theorem dX12_taken_23 : decode cX12_taken 23 = .ok (.ifCond .eq 48, 3) := by decide +kernel
theorem dX12_taken_26 : decode cX12_taken 26 = .ok (.aload_n 0, 1) := by decide +kernel
theorem dX12_taken_27 : decode cX12_taken 27 = .ok (.getfield 43, 3) := by decide +kernel
theorem dX12_taken_30 : decode cX12_taken 30 = .ok (.iload_n 3, 1) := by decide +kernel
theorem dX12_taken_31 : decode cX12_taken 31 = .ok (.iaload, 1) := by decide +kernel
theorem dX12_taken_32 : decode cX12_taken 32 = .ok (.ifCond .le 39, 3) := by decide +kernel
theorem dX12_taken_35 : decode cX12_taken 35 = .ok (.aload_n 0, 1) := by decide +kernel
theorem dX12_taken_36 : decode cX12_taken 36 = .ok (.invokevirtual 191, 3) := by decide +kernel
theorem dX12_taken_39 : decode cX12_taken 39 = .ok (.ifCond .ne 5, 3) := by decide +kernel
theorem dX12_taken_42 : decode cX12_taken 42 = .ok (.iconst 0, 1) := by decide +kernel
theorem dX12_taken_43 : decode cX12_taken 43 = .ok (.ireturn, 1) := by decide +kernel
theorem dX12_taken_44 : decode cX12_taken 44 = .ok (.aload_n 0, 1) := by decide +kernel
theorem dX12_taken_45 : decode cX12_taken 45 = .ok (.getfield 43, 3) := by decide +kernel
theorem dX12_taken_48 : decode cX12_taken 48 = .ok (.iload_n 3, 1) := by decide +kernel
theorem dX12_taken_49 : decode cX12_taken 49 = .ok (.iconst 0, 1) := by decide +kernel
theorem dX12_taken_50 : decode cX12_taken 50 = .ok (.iastore, 1) := by decide +kernel
theorem dX12_taken_51 : decode cX12_taken 51 = .ok (.aload_n 0, 1) := by decide +kernel
theorem dX12_taken_52 : decode cX12_taken 52 = .ok (.dup, 1) := by decide +kernel
theorem dX12_taken_53 : decode cX12_taken 53 = .ok (.getfield 212, 3) := by decide +kernel
theorem dX12_taken_56 : decode cX12_taken 56 = .ok (.iconst 1, 1) := by decide +kernel
theorem dX12_taken_57 : decode cX12_taken 57 = .ok (.iadd, 1) := by decide +kernel
theorem dX12_taken_58 : decode cX12_taken 58 = .ok (.putfield 212, 3) := by decide +kernel
theorem dX12_taken_61 : decode cX12_taken 61 = .ok (.aload_n 0, 1) := by decide +kernel
theorem dX12_taken_62 : decode cX12_taken 62 = .ok (.dup, 1) := by decide +kernel
theorem dX12_taken_63 : decode cX12_taken 63 = .ok (.getfield 205, 3) := by decide +kernel
theorem dX12_taken_66 : decode cX12_taken 66 = .ok (.iconst 1, 1) := by decide +kernel
theorem dX12_taken_67 : decode cX12_taken 67 = .ok (.iadd, 1) := by decide +kernel
theorem dX12_taken_68 : decode cX12_taken 68 = .ok (.putfield 205, 3) := by decide +kernel
theorem dX12_taken_71 : decode cX12_taken 71 = .ok (.iinc 3 1, 3) := by decide +kernel
theorem dX12_taken_74 : decode cX12_taken 74 = .ok (.goto (-62), 3) := by decide +kernel
theorem dX12_taken_77 : decode cX12_taken 77 = .ok (.iconst 0, 1) := by decide +kernel
theorem dX12_taken_78 : decode cX12_taken 78 = .ok (.istore_n 3, 1) := by decide +kernel
theorem dX12_taken_79 : decode cX12_taken 79 = .ok (.iload_n 3, 1) := by decide +kernel
theorem dX12_taken_80 : decode cX12_taken 80 = .ok (.iload_n 2, 1) := by decide +kernel
theorem dX12_taken_81 : decode cX12_taken 81 = .ok (.if_icmp .gt 54, 3) := by decide +kernel
theorem dX12_taken_84 : decode cX12_taken 84 = .ok (.aload_n 0, 1) := by decide +kernel
theorem dX12_taken_85 : decode cX12_taken 85 = .ok (.getfield 131, 3) := by decide +kernel
theorem dX12_taken_88 : decode cX12_taken 88 = .ok (.iconst 2, 1) := by decide +kernel
theorem dX12_taken_89 : decode cX12_taken 89 = .ok (.if_icmp .eq 11, 3) := by decide +kernel
theorem dX12_taken_92 : decode cX12_taken 92 = .ok (.aload_n 0, 1) := by decide +kernel
theorem dX12_taken_93 : decode cX12_taken 93 = .ok (.getfield 131, 3) := by decide +kernel
theorem dX12_taken_96 : decode cX12_taken 96 = .ok (.iconst 3, 1) := by decide +kernel
theorem dX12_taken_97 : decode cX12_taken 97 = .ok (.if_icmp .ne 38, 3) := by decide +kernel
theorem dX12_taken_100 : decode cX12_taken 100 = .ok (.aload_n 0, 1) := by decide +kernel
theorem dX12_taken_101 : decode cX12_taken 101 = .ok (.getfield 103, 3) := by decide +kernel
theorem dX12_taken_104 : decode cX12_taken 104 = .ok (.iload_n 3, 1) := by decide +kernel
theorem dX12_taken_105 : decode cX12_taken 105 = .ok (.aload_n 0, 1) := by decide +kernel
theorem dX12_taken_106 : decode cX12_taken 106 = .ok (.getfield 103, 3) := by decide +kernel
theorem dX12_taken_109 : decode cX12_taken 109 = .ok (.iload_n 3, 1) := by decide +kernel
theorem dX12_taken_110 : decode cX12_taken 110 = .ok (.baload, 1) := by decide +kernel
theorem dX12_taken_111 : decode cX12_taken 111 = .ok (.ifCond .ne 12, 3) := by decide +kernel
theorem dX12_taken_114 : decode cX12_taken 114 = .ok (.aload_n 0, 1) := by decide +kernel
theorem dX12_taken_115 : decode cX12_taken 115 = .ok (.getfield 109, 3) := by decide +kernel
theorem dX12_taken_118 : decode cX12_taken 118 = .ok (.iload_n 3, 1) := by decide +kernel
theorem dX12_taken_119 : decode cX12_taken 119 = .ok (.baload, 1) := by decide +kernel
theorem dX12_taken_120 : decode cX12_taken 120 = .ok (.ifCond .eq 7, 3) := by decide +kernel
theorem dX12_taken_123 : decode cX12_taken 123 = .ok (.iconst 1, 1) := by decide +kernel
theorem dX12_taken_124 : decode cX12_taken 124 = .ok (.goto 4, 3) := by decide +kernel
theorem dX12_taken_127 : decode cX12_taken 127 = .ok (.iconst 0, 1) := by decide +kernel
theorem dX12_taken_128 : decode cX12_taken 128 = .ok (.bastore, 1) := by decide +kernel
theorem dX12_taken_129 : decode cX12_taken 129 = .ok (.iinc 3 1, 3) := by decide +kernel
theorem dX12_taken_132 : decode cX12_taken 132 = .ok (.goto (-53), 3) := by decide +kernel
theorem dX12_taken_135 : decode cX12_taken 135 = .ok (.aload_n 0, 1) := by decide +kernel
theorem dX12_taken_136 : decode cX12_taken 136 = .ok (.getfield 131, 3) := by decide +kernel
theorem dX12_taken_139 : decode cX12_taken 139 = .ok (.iconst 1, 1) := by decide +kernel
theorem dX12_taken_140 : decode cX12_taken 140 = .ok (.if_icmp .ne 32, 3) := by decide +kernel
theorem dX12_taken_143 : decode cX12_taken 143 = .ok (.aload_n 0, 1) := by decide +kernel
theorem dX12_taken_144 : decode cX12_taken 144 = .ok (.getfield 103, 3) := by decide +kernel
theorem dX12_taken_147 : decode cX12_taken 147 = .ok (.iload_n 2, 1) := by decide +kernel
theorem dX12_taken_148 : decode cX12_taken 148 = .ok (.baload, 1) := by decide +kernel
theorem dX12_taken_149 : decode cX12_taken 149 = .ok (.ifCond .ne 23, 3) := by decide +kernel
theorem dX12_taken_152 : decode cX12_taken 152 = .ok (.aload_n 0, 1) := by decide +kernel
theorem dX12_taken_153 : decode cX12_taken 153 = .ok (.getfield 106, 3) := by decide +kernel
theorem dX12_taken_156 : decode cX12_taken 156 = .ok (.aload_n 0, 1) := by decide +kernel
theorem dX12_taken_157 : decode cX12_taken 157 = .ok (.getfield 215, 3) := by decide +kernel
theorem dX12_taken_160 : decode cX12_taken 160 = .ok (.iload_n 2, 1) := by decide +kernel
theorem dX12_taken_161 : decode cX12_taken 161 = .ok (.iastore, 1) := by decide +kernel
theorem dX12_taken_162 : decode cX12_taken 162 = .ok (.aload_n 0, 1) := by decide +kernel
theorem dX12_taken_163 : decode cX12_taken 163 = .ok (.dup, 1) := by decide +kernel
theorem dX12_taken_164 : decode cX12_taken 164 = .ok (.getfield 215, 3) := by decide +kernel
theorem dX12_taken_167 : decode cX12_taken 167 = .ok (.iconst 1, 1) := by decide +kernel
theorem dX12_taken_168 : decode cX12_taken 168 = .ok (.iadd, 1) := by decide +kernel
theorem dX12_taken_169 : decode cX12_taken 169 = .ok (.putfield 215, 3) := by decide +kernel
theorem dX12_taken_172 : decode cX12_taken 172 = .ok (.aload_n 0, 1) := by decide +kernel
theorem dX12_taken_173 : decode cX12_taken 173 = .ok (.iload_n 1, 1) := by decide +kernel
theorem dX12_taken_174 : decode cX12_taken 174 = .ok (.iload_n 2, 1) := by decide +kernel
theorem dX12_taken_175 : decode cX12_taken 175 = .ok (.invokevirtual 202, 3) := by decide +kernel
theorem dX12_taken_178 : decode cX12_taken 178 = .ok (.iconst 1, 1) := by decide +kernel
theorem dX12_taken_179 : decode cX12_taken 179 = .ok (.ireturn, 1) := by decide +kernel
theorem dX12_take_0 : decode cX12_take 0 = .ok (.aload_n 0, 1) := by decide +kernel
theorem dX12_take_1 : decode cX12_take 1 = .ok (.getfield 127, 3) := by decide +kernel
theorem dX12_take_4 : decode cX12_take 4 = .ok (.ifCond .eq 6, 3) := by decide +kernel
theorem dX12_take_7 : decode cX12_take 7 = .ok (.bipush (-106), 2) := by decide +kernel
theorem dX12_take_9 : decode cX12_take 9 = .ok (.ireturn, 1) := by decide +kernel
theorem dX12_take_10 : decode cX12_take 10 = .ok (.aload_n 0, 1) := by decide +kernel
theorem dX12_take_11 : decode cX12_take 11 = .ok (.iload_n 1, 1) := by decide +kernel
theorem dX12_take_12 : decode cX12_take 12 = .ok (.invokevirtual 165, 3) := by decide +kernel
theorem dX12_take_15 : decode cX12_take 15 = .ok (.ifCond .ne 6, 3) := by decide +kernel
theorem dX12_take_18 : decode cX12_take 18 = .ok (.bipush (-101), 2) := by decide +kernel
theorem dX12_take_20 : decode cX12_take 20 = .ok (.ireturn, 1) := by decide +kernel
theorem dX12_take_21 : decode cX12_take 21 = .ok (.aload_n 0, 1) := by decide +kernel
theorem dX12_take_22 : decode cX12_take 22 = .ok (.iload_n 1, 1) := by decide +kernel
theorem dX12_take_23 : decode cX12_take 23 = .ok (.invokevirtual 168, 3) := by decide +kernel
theorem dX12_take_26 : decode cX12_take 26 = .ok (.istore_n 3, 1) := by decide +kernel
theorem dX12_take_27 : decode cX12_take 27 = .ok (.aload_n 0, 1) := by decide +kernel
theorem dX12_take_28 : decode cX12_take 28 = .ok (.iload_n 2, 1) := by decide +kernel
theorem dX12_take_29 : decode cX12_take 29 = .ok (.invokevirtual 171, 3) := by decide +kernel
theorem dX12_take_32 : decode cX12_take 32 = .ok (.ifCond .ne 6, 3) := by decide +kernel
theorem dX12_take_35 : decode cX12_take 35 = .ok (.bipush (-101), 2) := by decide +kernel
theorem dX12_take_37 : decode cX12_take 37 = .ok (.ireturn, 1) := by decide +kernel
theorem dX12_take_38 : decode cX12_take 38 = .ok (.iload_n 3, 1) := by decide +kernel
theorem dX12_take_39 : decode cX12_take 39 = .ok (.ifCond .ne 6, 3) := by decide +kernel
theorem dX12_take_42 : decode cX12_take 42 = .ok (.bipush (-103), 2) := by decide +kernel
theorem dX12_take_44 : decode cX12_take 44 = .ok (.ireturn, 1) := by decide +kernel
theorem dX12_take_45 : decode cX12_take 45 = .ok (.aload_n 0, 1) := by decide +kernel
theorem dX12_take_46 : decode cX12_take 46 = .ok (.iload_n 1, 1) := by decide +kernel
theorem dX12_take_47 : decode cX12_take 47 = .ok (.iload_n 2, 1) := by decide +kernel
theorem dX12_take_48 : decode cX12_take 48 = .ok (.invokevirtual 174, 3) := by decide +kernel
theorem dX12_take_51 : decode cX12_take 51 = .ok (.ifCond .ne 17, 3) := by decide +kernel
theorem dX12_take_54 : decode cX12_take 54 = .ok (.aload_n 0, 1) := by decide +kernel
theorem dX12_take_55 : decode cX12_take 55 = .ok (.getfield 88, 3) := by decide +kernel
theorem dX12_take_58 : decode cX12_take 58 = .ok (.iload_n 1, 1) := by decide +kernel
theorem dX12_take_59 : decode cX12_take 59 = .ok (.iaload, 1) := by decide +kernel
theorem dX12_take_60 : decode cX12_take 60 = .ok (.bipush 8, 2) := by decide +kernel
theorem dX12_take_62 : decode cX12_take 62 = .ok (.if_icmp .ne 6, 3) := by decide +kernel
theorem dX12_take_65 : decode cX12_take 65 = .ok (.bipush (-104), 2) := by decide +kernel
theorem dX12_take_67 : decode cX12_take 67 = .ok (.ireturn, 1) := by decide +kernel
theorem dX12_take_68 : decode cX12_take 68 = .ok (.aload_n 0, 1) := by decide +kernel
theorem dX12_take_69 : decode cX12_take 69 = .ok (.iload_n 1, 1) := by decide +kernel
theorem dX12_take_70 : decode cX12_take 70 = .ok (.iload_n 2, 1) := by decide +kernel
theorem dX12_take_71 : decode cX12_take 71 = .ok (.invokevirtual 185, 3) := by decide +kernel
theorem dX12_take_74 : decode cX12_take 74 = .ok (.ifCond .ne 6, 3) := by decide +kernel
theorem dX12_take_77 : decode cX12_take 77 = .ok (.bipush (-105), 2) := by decide +kernel
theorem dX12_take_79 : decode cX12_take 79 = .ok (.ireturn, 1) := by decide +kernel
theorem dX12_take_80 : decode cX12_take 80 = .ok (.aload_n 0, 1) := by decide +kernel
theorem dX12_take_81 : decode cX12_take 81 = .ok (.getfield 205, 3) := by decide +kernel
theorem dX12_take_84 : decode cX12_take 84 = .ok (.ireturn, 1) := by decide +kernel
theorem dX12_commit_0 : decode cX12_commit 0 = .ok (.aload_n 0, 1) := by decide +kernel
theorem dX12_commit_1 : decode cX12_commit 1 = .ok (.getfield 127, 3) := by decide +kernel
theorem dX12_commit_4 : decode cX12_commit 4 = .ok (.ifCond .eq 6, 3) := by decide +kernel
theorem dX12_commit_7 : decode cX12_commit 7 = .ok (.bipush (-106), 2) := by decide +kernel
theorem dX12_commit_9 : decode cX12_commit 9 = .ok (.ireturn, 1) := by decide +kernel
theorem dX12_commit_10 : decode cX12_commit 10 = .ok (.aload_n 0, 1) := by decide +kernel
theorem dX12_commit_11 : decode cX12_commit 11 = .ok (.iload_n 1, 1) := by decide +kernel
theorem dX12_commit_12 : decode cX12_commit 12 = .ok (.invokevirtual 165, 3) := by decide +kernel
theorem dX12_commit_15 : decode cX12_commit 15 = .ok (.ifCond .ne 6, 3) := by decide +kernel
theorem dX12_commit_18 : decode cX12_commit 18 = .ok (.bipush (-101), 2) := by decide +kernel
theorem dX12_commit_20 : decode cX12_commit 20 = .ok (.ireturn, 1) := by decide +kernel
theorem dX12_commit_21 : decode cX12_commit 21 = .ok (.iload_n 2, 1) := by decide +kernel
theorem dX12_commit_22 : decode cX12_commit 22 = .ok (.i2l, 1) := by decide +kernel
theorem dX12_commit_23 : decode cX12_commit 23 = .ok (.lconst 0, 1) := by decide +kernel
theorem dX12_commit_24 : decode cX12_commit 24 = .ok (.ldc2_w 154, 3) := by decide +kernel
theorem dX12_commit_27 : decode cX12_commit 27 = .ok (.invokestatic 144, 3) := by decide +kernel
theorem dX12_commit_30 : decode cX12_commit 30 = .ok (.ifCond .ne 6, 3) := by decide +kernel
theorem dX12_commit_33 : decode cX12_commit 33 = .ok (.bipush (-102), 2) := by decide +kernel
theorem dX12_commit_35 : decode cX12_commit 35 = .ok (.ireturn, 1) := by decide +kernel
theorem dX12_commit_36 : decode cX12_commit 36 = .ok (.aload_n 0, 1) := by decide +kernel
theorem dX12_commit_37 : decode cX12_commit 37 = .ok (.iload_n 1, 1) := by decide +kernel
theorem dX12_commit_38 : decode cX12_commit 38 = .ok (.invokevirtual 159, 3) := by decide +kernel
theorem dX12_commit_41 : decode cX12_commit 41 = .ok (.ifCond .ne 12, 3) := by decide +kernel
theorem dX12_commit_44 : decode cX12_commit 44 = .ok (.aload_n 0, 1) := by decide +kernel
theorem dX12_commit_45 : decode cX12_commit 45 = .ok (.getfield 88, 3) := by decide +kernel
theorem dX12_commit_48 : decode cX12_commit 48 = .ok (.iload_n 1, 1) := by decide +kernel
theorem dX12_commit_49 : decode cX12_commit 49 = .ok (.iaload, 1) := by decide +kernel
theorem dX12_commit_50 : decode cX12_commit 50 = .ok (.ifCond .ne 6, 3) := by decide +kernel
theorem dX12_commit_53 : decode cX12_commit 53 = .ok (.bipush (-103), 2) := by decide +kernel
theorem dX12_commit_55 : decode cX12_commit 55 = .ok (.ireturn, 1) := by decide +kernel
theorem dX12_commit_56 : decode cX12_commit 56 = .ok (.aload_n 0, 1) := by decide +kernel
theorem dX12_commit_57 : decode cX12_commit 57 = .ok (.getfield 218, 3) := by decide +kernel
theorem dX12_commit_60 : decode cX12_commit 60 = .ok (.bipush 40, 2) := by decide +kernel
theorem dX12_commit_62 : decode cX12_commit 62 = .ok (.if_icmp .eq 12, 3) := by decide +kernel
theorem dX12_commit_65 : decode cX12_commit 65 = .ok (.aload_n 0, 1) := by decide +kernel
theorem dX12_commit_66 : decode cX12_commit 66 = .ok (.invokevirtual 221, 3) := by decide +kernel
theorem dX12_commit_69 : decode cX12_commit 69 = .ok (.bipush 10, 2) := by decide +kernel
theorem dX12_commit_71 : decode cX12_commit 71 = .ok (.if_icmp .ne 6, 3) := by decide +kernel
theorem dX12_commit_74 : decode cX12_commit 74 = .ok (.bipush (-104), 2) := by decide +kernel
theorem dX12_commit_76 : decode cX12_commit 76 = .ok (.ireturn, 1) := by decide +kernel
theorem dX12_commit_77 : decode cX12_commit 77 = .ok (.aload_n 0, 1) := by decide +kernel
theorem dX12_commit_78 : decode cX12_commit 78 = .ok (.invokevirtual 191, 3) := by decide +kernel
theorem dX12_commit_81 : decode cX12_commit 81 = .ok (.ifCond .ne 6, 3) := by decide +kernel
theorem dX12_commit_84 : decode cX12_commit 84 = .ok (.bipush (-105), 2) := by decide +kernel
theorem dX12_commit_86 : decode cX12_commit 86 = .ok (.ireturn, 1) := by decide +kernel
theorem dX12_commit_87 : decode cX12_commit 87 = .ok (.aload_n 0, 1) := by decide +kernel
theorem dX12_commit_88 : decode cX12_commit 88 = .ok (.getfield 218, 3) := by decide +kernel
theorem dX12_commit_91 : decode cX12_commit 91 = .ok (.istore_n 3, 1) := by decide +kernel
theorem dX12_commit_92 : decode cX12_commit 92 = .ok (.aload_n 0, 1) := by decide +kernel
theorem dX12_commit_93 : decode cX12_commit 93 = .ok (.getfield 55, 3) := by decide +kernel
theorem dX12_commit_96 : decode cX12_commit 96 = .ok (.iload_n 3, 1) := by decide +kernel
theorem dX12_commit_97 : decode cX12_commit 97 = .ok (.iconst 1, 1) := by decide +kernel
theorem dX12_commit_98 : decode cX12_commit 98 = .ok (.bastore, 1) := by decide +kernel
theorem dX12_commit_99 : decode cX12_commit 99 = .ok (.aload_n 0, 1) := by decide +kernel
theorem dX12_commit_100 : decode cX12_commit 100 = .ok (.getfield 58, 3) := by decide +kernel
theorem dX12_commit_103 : decode cX12_commit 103 = .ok (.iload_n 3, 1) := by decide +kernel
theorem dX12_commit_104 : decode cX12_commit 104 = .ok (.aload_n 0, 1) := by decide +kernel
theorem dX12_commit_105 : decode cX12_commit 105 = .ok (.getfield 9, 3) := by decide +kernel
theorem dX12_commit_108 : decode cX12_commit 108 = .ok (.lastore, 1) := by decide +kernel
theorem dX12_commit_109 : decode cX12_commit 109 = .ok (.aload_n 0, 1) := by decide +kernel
theorem dX12_commit_110 : decode cX12_commit 110 = .ok (.getfield 61, 3) := by decide +kernel
theorem dX12_commit_113 : decode cX12_commit 113 = .ok (.iload_n 3, 1) := by decide +kernel
theorem dX12_commit_114 : decode cX12_commit 114 = .ok (.iload_n 2, 1) := by decide +kernel
theorem dX12_commit_115 : decode cX12_commit 115 = .ok (.iastore, 1) := by decide +kernel
theorem dX12_commit_116 : decode cX12_commit 116 = .ok (.aload_n 0, 1) := by decide +kernel
theorem dX12_commit_117 : decode cX12_commit 117 = .ok (.getfield 64, 3) := by decide +kernel
theorem dX12_commit_120 : decode cX12_commit 120 = .ok (.iload_n 3, 1) := by decide +kernel
theorem dX12_commit_121 : decode cX12_commit 121 = .ok (.aload_n 0, 1) := by decide +kernel
theorem dX12_commit_122 : decode cX12_commit 122 = .ok (.getfield 88, 3) := by decide +kernel
theorem dX12_commit_125 : decode cX12_commit 125 = .ok (.iload_n 1, 1) := by decide +kernel
theorem dX12_commit_126 : decode cX12_commit 126 = .ok (.iaload, 1) := by decide +kernel
theorem dX12_commit_127 : decode cX12_commit 127 = .ok (.iastore, 1) := by decide +kernel
theorem dX12_commit_128 : decode cX12_commit 128 = .ok (.iconst 0, 1) := by decide +kernel
theorem dX12_commit_129 : decode cX12_commit 129 = .ok (.istore 4, 2) := by decide +kernel
theorem dX12_commit_131 : decode cX12_commit 131 = .ok (.iload 4, 2) := by decide +kernel
theorem dX12_commit_133 : decode cX12_commit 133 = .ok (.aload_n 0, 1) := by decide +kernel
theorem dX12_commit_134 : decode cX12_commit 134 = .ok (.getfield 88, 3) := by decide +kernel
theorem dX12_commit_137 : decode cX12_commit 137 = .ok (.iload_n 1, 1) := by decide +kernel
theorem dX12_commit_138 : decode cX12_commit 138 = .ok (.iaload, 1) := by decide +kernel
theorem dX12_commit_139 : decode cX12_commit 139 = .ok (.if_icmp .ge 33, 3) := by decide +kernel
theorem dX12_commit_142 : decode cX12_commit 142 = .ok (.aload_n 0, 1) := by decide +kernel
theorem dX12_commit_143 : decode cX12_commit 143 = .ok (.getfield 67, 3) := by decide +kernel
theorem dX12_commit_146 : decode cX12_commit 146 = .ok (.bipush 8, 2) := by decide +kernel
theorem dX12_commit_148 : decode cX12_commit 148 = .ok (.iload_n 3, 1) := by decide +kernel
theorem dX12_commit_149 : decode cX12_commit 149 = .ok (.imul, 1) := by decide +kernel
theorem dX12_commit_150 : decode cX12_commit 150 = .ok (.iload 4, 2) := by decide +kernel
theorem dX12_commit_152 : decode cX12_commit 152 = .ok (.iadd, 1) := by decide +kernel
theorem dX12_commit_153 : decode cX12_commit 153 = .ok (.aload_n 0, 1) := by decide +kernel
theorem dX12_commit_154 : decode cX12_commit 154 = .ok (.getfield 91, 3) := by decide +kernel
theorem dX12_commit_157 : decode cX12_commit 157 = .ok (.bipush 8, 2) := by decide +kernel
theorem dX12_commit_159 : decode cX12_commit 159 = .ok (.iload_n 1, 1) := by decide +kernel
theorem dX12_commit_160 : decode cX12_commit 160 = .ok (.imul, 1) := by decide +kernel
theorem dX12_commit_161 : decode cX12_commit 161 = .ok (.iload 4, 2) := by decide +kernel
theorem dX12_commit_163 : decode cX12_commit 163 = .ok (.iadd, 1) := by decide +kernel
theorem dX12_commit_164 : decode cX12_commit 164 = .ok (.iaload, 1) := by decide +kernel
theorem dX12_commit_165 : decode cX12_commit 165 = .ok (.iastore, 1) := by decide +kernel
theorem dX12_commit_166 : decode cX12_commit 166 = .ok (.iinc 4 1, 3) := by decide +kernel
theorem dX12_commit_169 : decode cX12_commit 169 = .ok (.goto (-38), 3) := by decide +kernel
theorem dX12_commit_172 : decode cX12_commit 172 = .ok (.aload_n 0, 1) := by decide +kernel
theorem dX12_commit_173 : decode cX12_commit 173 = .ok (.dup, 1) := by decide +kernel
theorem dX12_commit_174 : decode cX12_commit 174 = .ok (.getfield 218, 3) := by decide +kernel
theorem dX12_commit_177 : decode cX12_commit 177 = .ok (.iconst 1, 1) := by decide +kernel
theorem dX12_commit_178 : decode cX12_commit 178 = .ok (.iadd, 1) := by decide +kernel
theorem dX12_commit_179 : decode cX12_commit 179 = .ok (.putfield 218, 3) := by decide +kernel
theorem dX12_commit_182 : decode cX12_commit 182 = .ok (.aload_n 0, 1) := by decide +kernel
theorem dX12_commit_183 : decode cX12_commit 183 = .ok (.iconst 2, 1) := by decide +kernel
theorem dX12_commit_184 : decode cX12_commit 184 = .ok (.iload_n 3, 1) := by decide +kernel
theorem dX12_commit_185 : decode cX12_commit 185 = .ok (.invokevirtual 198, 3) := by decide +kernel
theorem dX12_commit_188 : decode cX12_commit 188 = .ok (.aload_n 0, 1) := by decide +kernel
theorem dX12_commit_189 : decode cX12_commit 189 = .ok (.getfield 79, 3) := by decide +kernel
theorem dX12_commit_192 : decode cX12_commit 192 = .ok (.iload_n 1, 1) := by decide +kernel
theorem dX12_commit_193 : decode cX12_commit 193 = .ok (.iconst 0, 1) := by decide +kernel
theorem dX12_commit_194 : decode cX12_commit 194 = .ok (.bastore, 1) := by decide +kernel
theorem dX12_commit_195 : decode cX12_commit 195 = .ok (.iload_n 3, 1) := by decide +kernel
theorem dX12_commit_196 : decode cX12_commit 196 = .ok (.ireturn, 1) := by decide +kernel
theorem dX12_give_0 : decode cX12_give 0 = .ok (.aload_n 0, 1) := by decide +kernel
theorem dX12_give_1 : decode cX12_give 1 = .ok (.getfield 127, 3) := by decide +kernel
theorem dX12_give_4 : decode cX12_give 4 = .ok (.ifCond .eq 6, 3) := by decide +kernel
theorem dX12_give_7 : decode cX12_give 7 = .ok (.bipush (-106), 2) := by decide +kernel
theorem dX12_give_9 : decode cX12_give 9 = .ok (.ireturn, 1) := by decide +kernel
theorem dX12_give_10 : decode cX12_give 10 = .ok (.aload_n 0, 1) := by decide +kernel
theorem dX12_give_11 : decode cX12_give 11 = .ok (.iload_n 1, 1) := by decide +kernel
theorem dX12_give_12 : decode cX12_give 12 = .ok (.invokevirtual 165, 3) := by decide +kernel
theorem dX12_give_15 : decode cX12_give 15 = .ok (.ifCond .ne 6, 3) := by decide +kernel
theorem dX12_give_18 : decode cX12_give 18 = .ok (.bipush (-101), 2) := by decide +kernel
theorem dX12_give_20 : decode cX12_give 20 = .ok (.ireturn, 1) := by decide +kernel
theorem dX12_give_21 : decode cX12_give 21 = .ok (.aload_n 0, 1) := by decide +kernel
theorem dX12_give_22 : decode cX12_give 22 = .ok (.getfield 79, 3) := by decide +kernel
theorem dX12_give_25 : decode cX12_give 25 = .ok (.iload_n 1, 1) := by decide +kernel
theorem dX12_give_26 : decode cX12_give 26 = .ok (.iconst 0, 1) := by decide +kernel
theorem dX12_give_27 : decode cX12_give 27 = .ok (.bastore, 1) := by decide +kernel
theorem dX12_give_28 : decode cX12_give 28 = .ok (.aload_n 0, 1) := by decide +kernel
theorem dX12_give_29 : decode cX12_give 29 = .ok (.getfield 88, 3) := by decide +kernel
theorem dX12_give_32 : decode cX12_give 32 = .ok (.iload_n 1, 1) := by decide +kernel
theorem dX12_give_33 : decode cX12_give 33 = .ok (.iaload, 1) := by decide +kernel
theorem dX12_give_34 : decode cX12_give 34 = .ok (.ireturn, 1) := by decide +kernel
theorem dX12_snapshotsThere_0 : decode cX12_snapshotsThere 0 = .ok (.iconst 0, 1) := by decide +kernel
theorem dX12_snapshotsThere_1 : decode cX12_snapshotsThere 1 = .ok (.istore_n 1, 1) := by decide +kernel
theorem dX12_snapshotsThere_2 : decode cX12_snapshotsThere 2 = .ok (.iconst 0, 1) := by decide +kernel
theorem dX12_snapshotsThere_3 : decode cX12_snapshotsThere 3 = .ok (.istore_n 2, 1) := by decide +kernel
theorem dX12_snapshotsThere_4 : decode cX12_snapshotsThere 4 = .ok (.iload_n 2, 1) := by decide +kernel
theorem dX12_snapshotsThere_5 : decode cX12_snapshotsThere 5 = .ok (.aload_n 0, 1) := by decide +kernel
theorem dX12_snapshotsThere_6 : decode cX12_snapshotsThere 6 = .ok (.getfield 218, 3) := by decide +kernel
theorem dX12_snapshotsThere_9 : decode cX12_snapshotsThere 9 = .ok (.if_icmp .ge 26, 3) := by decide +kernel
theorem dX12_snapshotsThere_12 : decode cX12_snapshotsThere 12 = .ok (.iload_n 1, 1) := by decide +kernel
theorem dX12_snapshotsThere_13 : decode cX12_snapshotsThere 13 = .ok (.aload_n 0, 1) := by decide +kernel
theorem dX12_snapshotsThere_14 : decode cX12_snapshotsThere 14 = .ok (.getfield 55, 3) := by decide +kernel
theorem dX12_snapshotsThere_17 : decode cX12_snapshotsThere 17 = .ok (.iload_n 2, 1) := by decide +kernel
theorem dX12_snapshotsThere_18 : decode cX12_snapshotsThere 18 = .ok (.baload, 1) := by decide +kernel
theorem dX12_snapshotsThere_19 : decode cX12_snapshotsThere 19 = .ok (.ifCond .eq 7, 3) := by decide +kernel
theorem dX12_snapshotsThere_22 : decode cX12_snapshotsThere 22 = .ok (.iconst 1, 1) := by decide +kernel
theorem dX12_snapshotsThere_23 : decode cX12_snapshotsThere 23 = .ok (.goto 4, 3) := by decide +kernel
theorem dX12_snapshotsThere_26 : decode cX12_snapshotsThere 26 = .ok (.iconst 0, 1) := by decide +kernel
theorem dX12_snapshotsThere_27 : decode cX12_snapshotsThere 27 = .ok (.iadd, 1) := by decide +kernel
theorem dX12_snapshotsThere_28 : decode cX12_snapshotsThere 28 = .ok (.istore_n 1, 1) := by decide +kernel
theorem dX12_snapshotsThere_29 : decode cX12_snapshotsThere 29 = .ok (.iinc 2 1, 3) := by decide +kernel
theorem dX12_snapshotsThere_32 : decode cX12_snapshotsThere 32 = .ok (.goto (-28), 3) := by decide +kernel
theorem dX12_snapshotsThere_35 : decode cX12_snapshotsThere 35 = .ok (.iload_n 1, 1) := by decide +kernel
theorem dX12_snapshotsThere_36 : decode cX12_snapshotsThere 36 = .ok (.ireturn, 1) := by decide +kernel
theorem dX12_isSnapshot_0 : decode cX12_isSnapshot 0 = .ok (.iload_n 1, 1) := by decide +kernel
theorem dX12_isSnapshot_1 : decode cX12_isSnapshot 1 = .ok (.i2l, 1) := by decide +kernel
theorem dX12_isSnapshot_2 : decode cX12_isSnapshot 2 = .ok (.lconst 0, 1) := by decide +kernel
theorem dX12_isSnapshot_3 : decode cX12_isSnapshot 3 = .ok (.aload_n 0, 1) := by decide +kernel
theorem dX12_isSnapshot_4 : decode cX12_isSnapshot 4 = .ok (.getfield 218, 3) := by decide +kernel
theorem dX12_isSnapshot_7 : decode cX12_isSnapshot 7 = .ok (.iconst 1, 1) := by decide +kernel
theorem dX12_isSnapshot_8 : decode cX12_isSnapshot 8 = .ok (.isub, 1) := by decide +kernel
theorem dX12_isSnapshot_9 : decode cX12_isSnapshot 9 = .ok (.i2l, 1) := by decide +kernel
theorem dX12_isSnapshot_10 : decode cX12_isSnapshot 10 = .ok (.invokestatic 144, 3) := by decide +kernel
theorem dX12_isSnapshot_13 : decode cX12_isSnapshot 13 = .ok (.ifCond .eq 16, 3) := by decide +kernel
theorem dX12_isSnapshot_16 : decode cX12_isSnapshot 16 = .ok (.aload_n 0, 1) := by decide +kernel
theorem dX12_isSnapshot_17 : decode cX12_isSnapshot 17 = .ok (.getfield 55, 3) := by decide +kernel
theorem dX12_isSnapshot_20 : decode cX12_isSnapshot 20 = .ok (.iload_n 1, 1) := by decide +kernel
theorem dX12_isSnapshot_21 : decode cX12_isSnapshot 21 = .ok (.baload, 1) := by decide +kernel
theorem dX12_isSnapshot_22 : decode cX12_isSnapshot 22 = .ok (.ifCond .eq 7, 3) := by decide +kernel
theorem dX12_isSnapshot_25 : decode cX12_isSnapshot 25 = .ok (.iconst 1, 1) := by decide +kernel
theorem dX12_isSnapshot_26 : decode cX12_isSnapshot 26 = .ok (.goto 4, 3) := by decide +kernel
theorem dX12_isSnapshot_29 : decode cX12_isSnapshot 29 = .ok (.iconst 0, 1) := by decide +kernel
theorem dX12_isSnapshot_30 : decode cX12_isSnapshot 30 = .ok (.ireturn, 1) := by decide +kernel
theorem dX12_goes_0 : decode cX12_goes 0 = .ok (.aload_n 0, 1) := by decide +kernel
theorem dX12_goes_1 : decode cX12_goes 1 = .ok (.invokevirtual 191, 3) := by decide +kernel
theorem dX12_goes_4 : decode cX12_goes 4 = .ok (.ifCond .ne 5, 3) := by decide +kernel
theorem dX12_goes_7 : decode cX12_goes 7 = .ok (.iconst 0, 1) := by decide +kernel
theorem dX12_goes_8 : decode cX12_goes 8 = .ok (.ireturn, 1) := by decide +kernel
theorem dX12_goes_9 : decode cX12_goes 9 = .ok (.aload_n 0, 1) := by decide +kernel
theorem dX12_goes_10 : decode cX12_goes 10 = .ok (.getfield 55, 3) := by decide +kernel
theorem dX12_goes_13 : decode cX12_goes 13 = .ok (.iload_n 1, 1) := by decide +kernel
theorem dX12_goes_14 : decode cX12_goes 14 = .ok (.iconst 0, 1) := by decide +kernel
theorem dX12_goes_15 : decode cX12_goes 15 = .ok (.bastore, 1) := by decide +kernel
theorem dX12_goes_16 : decode cX12_goes 16 = .ok (.aload_n 0, 1) := by decide +kernel
theorem dX12_goes_17 : decode cX12_goes 17 = .ok (.iconst 3, 1) := by decide +kernel
theorem dX12_goes_18 : decode cX12_goes 18 = .ok (.iload_n 1, 1) := by decide +kernel
theorem dX12_goes_19 : decode cX12_goes 19 = .ok (.invokevirtual 198, 3) := by decide +kernel
theorem dX12_goes_22 : decode cX12_goes 22 = .ok (.iconst 1, 1) := by decide +kernel
theorem dX12_goes_23 : decode cX12_goes 23 = .ok (.ireturn, 1) := by decide +kernel
theorem dX12_drop_0 : decode cX12_drop 0 = .ok (.aload_n 0, 1) := by decide +kernel
theorem dX12_drop_1 : decode cX12_drop 1 = .ok (.getfield 127, 3) := by decide +kernel
theorem dX12_drop_4 : decode cX12_drop 4 = .ok (.ifCond .eq 6, 3) := by decide +kernel
theorem dX12_drop_7 : decode cX12_drop 7 = .ok (.bipush (-106), 2) := by decide +kernel
theorem dX12_drop_9 : decode cX12_drop 9 = .ok (.ireturn, 1) := by decide +kernel
theorem dX12_drop_10 : decode cX12_drop 10 = .ok (.aload_n 0, 1) := by decide +kernel
theorem dX12_drop_11 : decode cX12_drop 11 = .ok (.iload_n 1, 1) := by decide +kernel
theorem dX12_drop_12 : decode cX12_drop 12 = .ok (.invokevirtual 225, 3) := by decide +kernel
theorem dX12_drop_15 : decode cX12_drop 15 = .ok (.ifCond .ne 6, 3) := by decide +kernel
theorem dX12_drop_18 : decode cX12_drop 18 = .ok (.bipush (-101), 2) := by decide +kernel
theorem dX12_drop_20 : decode cX12_drop 20 = .ok (.ireturn, 1) := by decide +kernel
theorem dX12_drop_21 : decode cX12_drop 21 = .ok (.aload_n 0, 1) := by decide +kernel
theorem dX12_drop_22 : decode cX12_drop 22 = .ok (.iload_n 1, 1) := by decide +kernel
theorem dX12_drop_23 : decode cX12_drop 23 = .ok (.invokevirtual 228, 3) := by decide +kernel
theorem dX12_drop_26 : decode cX12_drop 26 = .ok (.ifCond .eq 7, 3) := by decide +kernel
theorem dX12_drop_29 : decode cX12_drop 29 = .ok (.iconst 1, 1) := by decide +kernel
theorem dX12_drop_30 : decode cX12_drop 30 = .ok (.goto 5, 3) := by decide +kernel
theorem dX12_drop_33 : decode cX12_drop 33 = .ok (.bipush (-105), 2) := by decide +kernel
theorem dX12_drop_35 : decode cX12_drop 35 = .ok (.ireturn, 1) := by decide +kernel
theorem dX12_rule_0 : decode cX12_rule 0 = .ok (.aload_n 0, 1) := by decide +kernel
theorem dX12_rule_1 : decode cX12_rule 1 = .ok (.getfield 127, 3) := by decide +kernel
theorem dX12_rule_4 : decode cX12_rule 4 = .ok (.ifCond .eq 6, 3) := by decide +kernel
theorem dX12_rule_7 : decode cX12_rule 7 = .ok (.bipush (-106), 2) := by decide +kernel
theorem dX12_rule_9 : decode cX12_rule 9 = .ok (.ireturn, 1) := by decide +kernel
theorem dX12_rule_10 : decode cX12_rule 10 = .ok (.iload_n 1, 1) := by decide +kernel
theorem dX12_rule_11 : decode cX12_rule 11 = .ok (.i2l, 1) := by decide +kernel
theorem dX12_rule_12 : decode cX12_rule 12 = .ok (.lconst 0, 1) := by decide +kernel
theorem dX12_rule_13 : decode cX12_rule 13 = .ok (.ldc2_w 231, 3) := by decide +kernel
theorem dX12_rule_16 : decode cX12_rule 16 = .ok (.invokestatic 144, 3) := by decide +kernel
theorem dX12_rule_19 : decode cX12_rule 19 = .ok (.ifCond .eq 26, 3) := by decide +kernel
theorem dX12_rule_22 : decode cX12_rule 22 = .ok (.iload_n 2, 1) := by decide +kernel
theorem dX12_rule_23 : decode cX12_rule 23 = .ok (.i2l, 1) := by decide +kernel
theorem dX12_rule_24 : decode cX12_rule 24 = .ok (.lconst 0, 1) := by decide +kernel
theorem dX12_rule_25 : decode cX12_rule 25 = .ok (.iload_n 1, 1) := by decide +kernel
theorem dX12_rule_26 : decode cX12_rule 26 = .ok (.iconst 5, 1) := by decide +kernel
theorem dX12_rule_27 : decode cX12_rule 27 = .ok (.if_icmp .ne 9, 3) := by decide +kernel
theorem dX12_rule_30 : decode cX12_rule 30 = .ok (.ldc2_w 233, 3) := by decide +kernel
theorem dX12_rule_33 : decode cX12_rule 33 = .ok (.goto 6, 3) := by decide +kernel
theorem dX12_rule_36 : decode cX12_rule 36 = .ok (.ldc2_w 235, 3) := by decide +kernel
theorem dX12_rule_39 : decode cX12_rule 39 = .ok (.invokestatic 144, 3) := by decide +kernel
theorem dX12_rule_42 : decode cX12_rule 42 = .ok (.ifCond .ne 6, 3) := by decide +kernel
theorem dX12_rule_45 : decode cX12_rule 45 = .ok (.bipush (-102), 2) := by decide +kernel
theorem dX12_rule_47 : decode cX12_rule 47 = .ok (.ireturn, 1) := by decide +kernel
theorem dX12_rule_48 : decode cX12_rule 48 = .ok (.aload_n 0, 1) := by decide +kernel
theorem dX12_rule_49 : decode cX12_rule 49 = .ok (.getfield 100, 3) := by decide +kernel
theorem dX12_rule_52 : decode cX12_rule 52 = .ok (.iload_n 1, 1) := by decide +kernel
theorem dX12_rule_53 : decode cX12_rule 53 = .ok (.iaload, 1) := by decide +kernel
theorem dX12_rule_54 : decode cX12_rule 54 = .ok (.istore_n 3, 1) := by decide +kernel
theorem dX12_rule_55 : decode cX12_rule 55 = .ok (.aload_n 0, 1) := by decide +kernel
theorem dX12_rule_56 : decode cX12_rule 56 = .ok (.getfield 100, 3) := by decide +kernel
theorem dX12_rule_59 : decode cX12_rule 59 = .ok (.iload_n 1, 1) := by decide +kernel
theorem dX12_rule_60 : decode cX12_rule 60 = .ok (.iload_n 2, 1) := by decide +kernel
theorem dX12_rule_61 : decode cX12_rule 61 = .ok (.iastore, 1) := by decide +kernel
theorem dX12_rule_62 : decode cX12_rule 62 = .ok (.iload_n 3, 1) := by decide +kernel
theorem dX12_rule_63 : decode cX12_rule 63 = .ok (.ireturn, 1) := by decide +kernel
theorem dX12_behind_0 : decode cX12_behind 0 = .ok (.iconst (-1), 1) := by decide +kernel
theorem dX12_behind_1 : decode cX12_behind 1 = .ok (.istore_n 2, 1) := by decide +kernel
theorem dX12_behind_2 : decode cX12_behind 2 = .ok (.iconst 0, 1) := by decide +kernel
theorem dX12_behind_3 : decode cX12_behind 3 = .ok (.istore_n 3, 1) := by decide +kernel
theorem dX12_behind_4 : decode cX12_behind 4 = .ok (.iload_n 3, 1) := by decide +kernel
theorem dX12_behind_5 : decode cX12_behind 5 = .ok (.aload_n 0, 1) := by decide +kernel
theorem dX12_behind_6 : decode cX12_behind 6 = .ok (.getfield 218, 3) := by decide +kernel
theorem dX12_behind_9 : decode cX12_behind 9 = .ok (.if_icmp .ge 34, 3) := by decide +kernel
theorem dX12_behind_12 : decode cX12_behind 12 = .ok (.aload_n 0, 1) := by decide +kernel
theorem dX12_behind_13 : decode cX12_behind 13 = .ok (.getfield 55, 3) := by decide +kernel
theorem dX12_behind_16 : decode cX12_behind 16 = .ok (.iload_n 3, 1) := by decide +kernel
theorem dX12_behind_17 : decode cX12_behind 17 = .ok (.baload, 1) := by decide +kernel
theorem dX12_behind_18 : decode cX12_behind 18 = .ok (.ifCond .eq 17, 3) := by decide +kernel
theorem dX12_behind_21 : decode cX12_behind 21 = .ok (.iload_n 1, 1) := by decide +kernel
theorem dX12_behind_22 : decode cX12_behind 22 = .ok (.iconst (-1), 1) := by decide +kernel
theorem dX12_behind_23 : decode cX12_behind 23 = .ok (.if_icmp .eq 8, 3) := by decide +kernel
theorem dX12_behind_26 : decode cX12_behind 26 = .ok (.iload_n 3, 1) := by decide +kernel
theorem dX12_behind_27 : decode cX12_behind 27 = .ok (.iload_n 1, 1) := by decide +kernel
theorem dX12_behind_28 : decode cX12_behind 28 = .ok (.if_icmp .ge 7, 3) := by decide +kernel
theorem dX12_behind_31 : decode cX12_behind 31 = .ok (.iload_n 3, 1) := by decide +kernel
theorem dX12_behind_32 : decode cX12_behind 32 = .ok (.goto 4, 3) := by decide +kernel
theorem dX12_behind_35 : decode cX12_behind 35 = .ok (.iload_n 2, 1) := by decide +kernel
theorem dX12_behind_36 : decode cX12_behind 36 = .ok (.istore_n 2, 1) := by decide +kernel
theorem dX12_behind_37 : decode cX12_behind 37 = .ok (.iinc 3 1, 3) := by decide +kernel
theorem dX12_behind_40 : decode cX12_behind 40 = .ok (.goto (-36), 3) := by decide +kernel
theorem dX12_behind_43 : decode cX12_behind 43 = .ok (.iload_n 2, 1) := by decide +kernel
theorem dX12_behind_44 : decode cX12_behind 44 = .ok (.ireturn, 1) := by decide +kernel
theorem dX12_spanOf_0 : decode cX12_spanOf 0 = .ok (.lload_n 1, 1) := by decide +kernel
theorem dX12_spanOf_1 : decode cX12_spanOf 1 = .ok (.ldc2_w 237, 3) := by decide +kernel
theorem dX12_spanOf_4 : decode cX12_spanOf 4 = .ok (.invokestatic 239, 3) := by decide +kernel
theorem dX12_spanOf_7 : decode cX12_spanOf 7 = .ok (.lstore 4, 2) := by decide +kernel
theorem dX12_spanOf_9 : decode cX12_spanOf 9 = .ok (.iload_n 3, 1) := by decide +kernel
theorem dX12_spanOf_10 : decode cX12_spanOf 10 = .ok (.iconst 1, 1) := by decide +kernel
theorem dX12_spanOf_11 : decode cX12_spanOf 11 = .ok (.if_icmp .ne 8, 3) := by decide +kernel
theorem dX12_spanOf_14 : decode cX12_spanOf 14 = .ok (.lload 4, 2) := by decide +kernel
theorem dX12_spanOf_16 : decode cX12_spanOf 16 = .ok (.goto 57, 3) := by decide +kernel
theorem dX12_spanOf_19 : decode cX12_spanOf 19 = .ok (.iload_n 3, 1) := by decide +kernel
theorem dX12_spanOf_20 : decode cX12_spanOf 20 = .ok (.iconst 2, 1) := by decide +kernel
theorem dX12_spanOf_21 : decode cX12_spanOf 21 = .ok (.if_icmp .ne 18, 3) := by decide +kernel
theorem dX12_spanOf_24 : decode cX12_spanOf 24 = .ok (.lload 4, 2) := by decide +kernel
theorem dX12_spanOf_26 : decode cX12_spanOf 26 = .ok (.ldc2_w 154, 3) := by decide +kernel
theorem dX12_spanOf_29 : decode cX12_spanOf 29 = .ok (.ladd, 1) := by decide +kernel
theorem dX12_spanOf_30 : decode cX12_spanOf 30 = .ok (.ldc2_w 243, 3) := by decide +kernel
theorem dX12_spanOf_33 : decode cX12_spanOf 33 = .ok (.invokestatic 239, 3) := by decide +kernel
theorem dX12_spanOf_36 : decode cX12_spanOf 36 = .ok (.goto 37, 3) := by decide +kernel
theorem dX12_spanOf_39 : decode cX12_spanOf 39 = .ok (.iload_n 3, 1) := by decide +kernel
theorem dX12_spanOf_40 : decode cX12_spanOf 40 = .ok (.iconst 3, 1) := by decide +kernel
theorem dX12_spanOf_41 : decode cX12_spanOf 41 = .ok (.if_icmp .ne 25, 3) := by decide +kernel
theorem dX12_spanOf_44 : decode cX12_spanOf 44 = .ok (.ldc2_w 245, 3) := by decide +kernel
theorem dX12_spanOf_47 : decode cX12_spanOf 47 = .ok (.aload_n 0, 1) := by decide +kernel
theorem dX12_spanOf_48 : decode cX12_spanOf 48 = .ok (.lload_n 1, 1) := by decide +kernel
theorem dX12_spanOf_49 : decode cX12_spanOf 49 = .ok (.iconst 0, 1) := by decide +kernel
theorem dX12_spanOf_50 : decode cX12_spanOf 50 = .ok (.invokevirtual 247, 3) := by decide +kernel
theorem dX12_spanOf_53 : decode cX12_spanOf 53 = .ok (.i2l, 1) := by decide +kernel
theorem dX12_spanOf_54 : decode cX12_spanOf 54 = .ok (.lmul, 1) := by decide +kernel
theorem dX12_spanOf_55 : decode cX12_spanOf 55 = .ok (.aload_n 0, 1) := by decide +kernel
theorem dX12_spanOf_56 : decode cX12_spanOf 56 = .ok (.lload_n 1, 1) := by decide +kernel
theorem dX12_spanOf_57 : decode cX12_spanOf 57 = .ok (.iconst 1, 1) := by decide +kernel
theorem dX12_spanOf_58 : decode cX12_spanOf 58 = .ok (.invokevirtual 247, 3) := by decide +kernel
theorem dX12_spanOf_61 : decode cX12_spanOf 61 = .ok (.i2l, 1) := by decide +kernel
theorem dX12_spanOf_62 : decode cX12_spanOf 62 = .ok (.ladd, 1) := by decide +kernel
theorem dX12_spanOf_63 : decode cX12_spanOf 63 = .ok (.goto 10, 3) := by decide +kernel
theorem dX12_spanOf_66 : decode cX12_spanOf 66 = .ok (.aload_n 0, 1) := by decide +kernel
theorem dX12_spanOf_67 : decode cX12_spanOf 67 = .ok (.lload_n 1, 1) := by decide +kernel
theorem dX12_spanOf_68 : decode cX12_spanOf 68 = .ok (.iconst 0, 1) := by decide +kernel
theorem dX12_spanOf_69 : decode cX12_spanOf 69 = .ok (.invokevirtual 247, 3) := by decide +kernel
theorem dX12_spanOf_72 : decode cX12_spanOf 72 = .ok (.i2l, 1) := by decide +kernel
theorem dX12_spanOf_73 : decode cX12_spanOf 73 = .ok (.lreturn, 1) := by decide +kernel
theorem dX12_spanKeeps_0 : decode cX12_spanKeeps 0 = .ok (.iconst 0, 1) := by decide +kernel
theorem dX12_spanKeeps_1 : decode cX12_spanKeeps 1 = .ok (.istore_n 3, 1) := by decide +kernel
theorem dX12_spanKeeps_2 : decode cX12_spanKeeps 2 = .ok (.iconst (-1), 1) := by decide +kernel
theorem dX12_spanKeeps_3 : decode cX12_spanKeeps 3 = .ok (.istore 4, 2) := by decide +kernel
theorem dX12_spanKeeps_5 : decode cX12_spanKeeps 5 = .ok (.aload_n 0, 1) := by decide +kernel
theorem dX12_spanKeeps_6 : decode cX12_spanKeeps 6 = .ok (.iconst (-1), 1) := by decide +kernel
theorem dX12_spanKeeps_7 : decode cX12_spanKeeps 7 = .ok (.invokevirtual 251, 3) := by decide +kernel
theorem dX12_spanKeeps_10 : decode cX12_spanKeeps 10 = .ok (.istore 5, 2) := by decide +kernel
theorem dX12_spanKeeps_12 : decode cX12_spanKeeps 12 = .ok (.iload 5, 2) := by decide +kernel
theorem dX12_spanKeeps_14 : decode cX12_spanKeeps 14 = .ok (.iconst (-1), 1) := by decide +kernel
theorem dX12_spanKeeps_15 : decode cX12_spanKeeps 15 = .ok (.if_icmp .eq 73, 3) := by decide +kernel
theorem dX12_spanKeeps_18 : decode cX12_spanKeeps 18 = .ok (.iload_n 3, 1) := by decide +kernel
theorem dX12_spanKeeps_19 : decode cX12_spanKeeps 19 = .ok (.aload_n 0, 1) := by decide +kernel
theorem dX12_spanKeeps_20 : decode cX12_spanKeeps 20 = .ok (.getfield 100, 3) := by decide +kernel
theorem dX12_spanKeeps_23 : decode cX12_spanKeeps 23 = .ok (.iload_n 1, 1) := by decide +kernel
theorem dX12_spanKeeps_24 : decode cX12_spanKeeps 24 = .ok (.iaload, 1) := by decide +kernel
theorem dX12_spanKeeps_25 : decode cX12_spanKeeps 25 = .ok (.if_icmp .ge 63, 3) := by decide +kernel
theorem dX12_spanKeeps_28 : decode cX12_spanKeeps 28 = .ok (.iload 4, 2) := by decide +kernel
theorem dX12_spanKeeps_30 : decode cX12_spanKeeps 30 = .ok (.iconst (-1), 1) := by decide +kernel
theorem dX12_spanKeeps_31 : decode cX12_spanKeeps 31 = .ok (.if_icmp .eq 31, 3) := by decide +kernel
theorem dX12_spanKeeps_34 : decode cX12_spanKeeps 34 = .ok (.aload_n 0, 1) := by decide +kernel
theorem dX12_spanKeeps_35 : decode cX12_spanKeeps 35 = .ok (.aload_n 0, 1) := by decide +kernel
theorem dX12_spanKeeps_36 : decode cX12_spanKeeps 36 = .ok (.getfield 58, 3) := by decide +kernel
theorem dX12_spanKeeps_39 : decode cX12_spanKeeps 39 = .ok (.iload 5, 2) := by decide +kernel
theorem dX12_spanKeeps_41 : decode cX12_spanKeeps 41 = .ok (.laload, 1) := by decide +kernel
theorem dX12_spanKeeps_42 : decode cX12_spanKeeps 42 = .ok (.iload_n 1, 1) := by decide +kernel
theorem dX12_spanKeeps_43 : decode cX12_spanKeeps 43 = .ok (.invokevirtual 254, 3) := by decide +kernel
theorem dX12_spanKeeps_46 : decode cX12_spanKeeps 46 = .ok (.aload_n 0, 1) := by decide +kernel
theorem dX12_spanKeeps_47 : decode cX12_spanKeeps 47 = .ok (.aload_n 0, 1) := by decide +kernel
theorem dX12_spanKeeps_48 : decode cX12_spanKeeps 48 = .ok (.getfield 58, 3) := by decide +kernel
theorem dX12_spanKeeps_51 : decode cX12_spanKeeps 51 = .ok (.iload 4, 2) := by decide +kernel
theorem dX12_spanKeeps_53 : decode cX12_spanKeeps 53 = .ok (.laload, 1) := by decide +kernel
theorem dX12_spanKeeps_54 : decode cX12_spanKeeps 54 = .ok (.iload_n 1, 1) := by decide +kernel
theorem dX12_spanKeeps_55 : decode cX12_spanKeeps 55 = .ok (.invokevirtual 254, 3) := by decide +kernel
theorem dX12_spanKeeps_58 : decode cX12_spanKeeps 58 = .ok (.lcmp, 1) := by decide +kernel
theorem dX12_spanKeeps_59 : decode cX12_spanKeeps 59 = .ok (.ifCond .eq 18, 3) := by decide +kernel
theorem dX12_spanKeeps_62 : decode cX12_spanKeeps 62 = .ok (.iinc 3 1, 3) := by decide +kernel
theorem dX12_spanKeeps_65 : decode cX12_spanKeeps 65 = .ok (.iload 5, 2) := by decide +kernel
theorem dX12_spanKeeps_67 : decode cX12_spanKeeps 67 = .ok (.istore 4, 2) := by decide +kernel
theorem dX12_spanKeeps_69 : decode cX12_spanKeeps 69 = .ok (.iload 5, 2) := by decide +kernel
theorem dX12_spanKeeps_71 : decode cX12_spanKeeps 71 = .ok (.iload_n 2, 1) := by decide +kernel
theorem dX12_spanKeeps_72 : decode cX12_spanKeeps 72 = .ok (.if_icmp .ne 5, 3) := by decide +kernel
theorem dX12_spanKeeps_75 : decode cX12_spanKeeps 75 = .ok (.iconst 1, 1) := by decide +kernel
theorem dX12_spanKeeps_76 : decode cX12_spanKeeps 76 = .ok (.ireturn, 1) := by decide +kernel
theorem dX12_spanKeeps_77 : decode cX12_spanKeeps 77 = .ok (.aload_n 0, 1) := by decide +kernel
theorem dX12_spanKeeps_78 : decode cX12_spanKeeps 78 = .ok (.iload 5, 2) := by decide +kernel
theorem dX12_spanKeeps_80 : decode cX12_spanKeeps 80 = .ok (.invokevirtual 251, 3) := by decide +kernel
theorem dX12_spanKeeps_83 : decode cX12_spanKeeps 83 = .ok (.istore 5, 2) := by decide +kernel
theorem dX12_spanKeeps_85 : decode cX12_spanKeeps 85 = .ok (.goto (-73), 3) := by decide +kernel
theorem dX12_spanKeeps_88 : decode cX12_spanKeeps 88 = .ok (.iconst 0, 1) := by decide +kernel
theorem dX12_spanKeeps_89 : decode cX12_spanKeeps 89 = .ok (.ireturn, 1) := by decide +kernel
theorem dX12_keptBy_0 : decode cX12_keptBy 0 = .ok (.iconst 0, 1) := by decide +kernel
theorem dX12_keptBy_1 : decode cX12_keptBy 1 = .ok (.istore_n 2, 1) := by decide +kernel
theorem dX12_keptBy_2 : decode cX12_keptBy 2 = .ok (.aload_n 0, 1) := by decide +kernel
theorem dX12_keptBy_3 : decode cX12_keptBy 3 = .ok (.iconst (-1), 1) := by decide +kernel
theorem dX12_keptBy_4 : decode cX12_keptBy 4 = .ok (.invokevirtual 251, 3) := by decide +kernel
theorem dX12_keptBy_7 : decode cX12_keptBy 7 = .ok (.istore_n 3, 1) := by decide +kernel
theorem dX12_keptBy_8 : decode cX12_keptBy 8 = .ok (.iload_n 3, 1) := by decide +kernel
theorem dX12_keptBy_9 : decode cX12_keptBy 9 = .ok (.iload_n 1, 1) := by decide +kernel
theorem dX12_keptBy_10 : decode cX12_keptBy 10 = .ok (.if_icmp .eq 20, 3) := by decide +kernel
theorem dX12_keptBy_13 : decode cX12_keptBy 13 = .ok (.iload_n 3, 1) := by decide +kernel
theorem dX12_keptBy_14 : decode cX12_keptBy 14 = .ok (.iconst (-1), 1) := by decide +kernel
theorem dX12_keptBy_15 : decode cX12_keptBy 15 = .ok (.if_icmp .eq 15, 3) := by decide +kernel
theorem dX12_keptBy_18 : decode cX12_keptBy 18 = .ok (.iinc 2 1, 3) := by decide +kernel
theorem dX12_keptBy_21 : decode cX12_keptBy 21 = .ok (.aload_n 0, 1) := by decide +kernel
theorem dX12_keptBy_22 : decode cX12_keptBy 22 = .ok (.iload_n 3, 1) := by decide +kernel
theorem dX12_keptBy_23 : decode cX12_keptBy 23 = .ok (.invokevirtual 251, 3) := by decide +kernel
theorem dX12_keptBy_26 : decode cX12_keptBy 26 = .ok (.istore_n 3, 1) := by decide +kernel
theorem dX12_keptBy_27 : decode cX12_keptBy 27 = .ok (.goto (-19), 3) := by decide +kernel
theorem dX12_keptBy_30 : decode cX12_keptBy 30 = .ok (.iload_n 2, 1) := by decide +kernel
theorem dX12_keptBy_31 : decode cX12_keptBy 31 = .ok (.aload_n 0, 1) := by decide +kernel
theorem dX12_keptBy_32 : decode cX12_keptBy 32 = .ok (.getfield 100, 3) := by decide +kernel
theorem dX12_keptBy_35 : decode cX12_keptBy 35 = .ok (.iconst 0, 1) := by decide +kernel
theorem dX12_keptBy_36 : decode cX12_keptBy 36 = .ok (.iaload, 1) := by decide +kernel
theorem dX12_keptBy_37 : decode cX12_keptBy 37 = .ok (.if_icmp .ge 7, 3) := by decide +kernel
theorem dX12_keptBy_40 : decode cX12_keptBy 40 = .ok (.iconst 1, 1) := by decide +kernel
theorem dX12_keptBy_41 : decode cX12_keptBy 41 = .ok (.goto 4, 3) := by decide +kernel
theorem dX12_keptBy_44 : decode cX12_keptBy 44 = .ok (.iconst 0, 1) := by decide +kernel
theorem dX12_keptBy_45 : decode cX12_keptBy 45 = .ok (.istore_n 3, 1) := by decide +kernel
theorem dX12_keptBy_46 : decode cX12_keptBy 46 = .ok (.iconst 1, 1) := by decide +kernel
theorem dX12_keptBy_47 : decode cX12_keptBy 47 = .ok (.istore 4, 2) := by decide +kernel
theorem dX12_keptBy_49 : decode cX12_keptBy 49 = .ok (.iload 4, 2) := by decide +kernel
theorem dX12_keptBy_51 : decode cX12_keptBy 51 = .ok (.iconst 5, 1) := by decide +kernel
theorem dX12_keptBy_52 : decode cX12_keptBy 52 = .ok (.if_icmp .ge 30, 3) := by decide +kernel
theorem dX12_keptBy_55 : decode cX12_keptBy 55 = .ok (.iload_n 3, 1) := by decide +kernel
theorem dX12_keptBy_56 : decode cX12_keptBy 56 = .ok (.aload_n 0, 1) := by decide +kernel
theorem dX12_keptBy_57 : decode cX12_keptBy 57 = .ok (.iload 4, 2) := by decide +kernel
theorem dX12_keptBy_59 : decode cX12_keptBy 59 = .ok (.iload_n 1, 1) := by decide +kernel
theorem dX12_keptBy_60 : decode cX12_keptBy 60 = .ok (.invokevirtual 258, 3) := by decide +kernel
theorem dX12_keptBy_63 : decode cX12_keptBy 63 = .ok (.ifCond .eq 10, 3) := by decide +kernel
theorem dX12_keptBy_66 : decode cX12_keptBy 66 = .ok (.iconst 1, 1) := by decide +kernel
theorem dX12_keptBy_67 : decode cX12_keptBy 67 = .ok (.iload 4, 2) := by decide +kernel
theorem dX12_keptBy_69 : decode cX12_keptBy 69 = .ok (.ishl, 1) := by decide +kernel
theorem dX12_keptBy_70 : decode cX12_keptBy 70 = .ok (.goto 4, 3) := by decide +kernel
theorem dX12_keptBy_73 : decode cX12_keptBy 73 = .ok (.iconst 0, 1) := by decide +kernel
theorem dX12_keptBy_74 : decode cX12_keptBy 74 = .ok (.iadd, 1) := by decide +kernel
theorem dX12_keptBy_75 : decode cX12_keptBy 75 = .ok (.istore_n 3, 1) := by decide +kernel
theorem dX12_keptBy_76 : decode cX12_keptBy 76 = .ok (.iinc 4 1, 3) := by decide +kernel
theorem dX12_keptBy_79 : decode cX12_keptBy 79 = .ok (.goto (-30), 3) := by decide +kernel
theorem dX12_keptBy_82 : decode cX12_keptBy 82 = .ok (.iload_n 3, 1) := by decide +kernel
theorem dX12_keptBy_83 : decode cX12_keptBy 83 = .ok (.aload_n 0, 1) := by decide +kernel
theorem dX12_keptBy_84 : decode cX12_keptBy 84 = .ok (.getfield 100, 3) := by decide +kernel
theorem dX12_keptBy_87 : decode cX12_keptBy 87 = .ok (.iconst 5, 1) := by decide +kernel
theorem dX12_keptBy_88 : decode cX12_keptBy 88 = .ok (.iaload, 1) := by decide +kernel
theorem dX12_keptBy_89 : decode cX12_keptBy 89 = .ok (.aload_n 0, 1) := by decide +kernel
theorem dX12_keptBy_90 : decode cX12_keptBy 90 = .ok (.getfield 61, 3) := by decide +kernel
theorem dX12_keptBy_93 : decode cX12_keptBy 93 = .ok (.iload_n 1, 1) := by decide +kernel
theorem dX12_keptBy_94 : decode cX12_keptBy 94 = .ok (.iaload, 1) := by decide +kernel
theorem dX12_keptBy_95 : decode cX12_keptBy 95 = .ok (.ishr, 1) := by decide +kernel
theorem dX12_keptBy_96 : decode cX12_keptBy 96 = .ok (.iconst 1, 1) := by decide +kernel
theorem dX12_keptBy_97 : decode cX12_keptBy 97 = .ok (.iand, 1) := by decide +kernel
theorem dX12_keptBy_98 : decode cX12_keptBy 98 = .ok (.iconst 1, 1) := by decide +kernel
theorem dX12_keptBy_99 : decode cX12_keptBy 99 = .ok (.if_icmp .ne 8, 3) := by decide +kernel
theorem dX12_keptBy_102 : decode cX12_keptBy 102 = .ok (.bipush 32, 2) := by decide +kernel
theorem dX12_keptBy_104 : decode cX12_keptBy 104 = .ok (.goto 4, 3) := by decide +kernel
theorem dX12_keptBy_107 : decode cX12_keptBy 107 = .ok (.iconst 0, 1) := by decide +kernel
theorem dX12_keptBy_108 : decode cX12_keptBy 108 = .ok (.iadd, 1) := by decide +kernel
theorem dX12_keptBy_109 : decode cX12_keptBy 109 = .ok (.ireturn, 1) := by decide +kernel
theorem dX12_keeps_0 : decode cX12_keeps 0 = .ok (.aload_n 0, 1) := by decide +kernel
theorem dX12_keeps_1 : decode cX12_keeps 1 = .ok (.getfield 127, 3) := by decide +kernel
theorem dX12_keeps_4 : decode cX12_keeps 4 = .ok (.ifCond .eq 6, 3) := by decide +kernel
theorem dX12_keeps_7 : decode cX12_keeps 7 = .ok (.bipush (-106), 2) := by decide +kernel
theorem dX12_keeps_9 : decode cX12_keeps 9 = .ok (.ireturn, 1) := by decide +kernel
theorem dX12_keeps_10 : decode cX12_keeps 10 = .ok (.aload_n 0, 1) := by decide +kernel
theorem dX12_keeps_11 : decode cX12_keeps 11 = .ok (.iload_n 1, 1) := by decide +kernel
theorem dX12_keeps_12 : decode cX12_keeps 12 = .ok (.invokevirtual 225, 3) := by decide +kernel
theorem dX12_keeps_15 : decode cX12_keeps 15 = .ok (.ifCond .eq 11, 3) := by decide +kernel
theorem dX12_keeps_18 : decode cX12_keeps 18 = .ok (.aload_n 0, 1) := by decide +kernel
theorem dX12_keeps_19 : decode cX12_keeps 19 = .ok (.iload_n 1, 1) := by decide +kernel
theorem dX12_keeps_20 : decode cX12_keeps 20 = .ok (.invokevirtual 261, 3) := by decide +kernel
theorem dX12_keeps_23 : decode cX12_keeps 23 = .ok (.goto 5, 3) := by decide +kernel
theorem dX12_keeps_26 : decode cX12_keeps 26 = .ok (.bipush (-101), 2) := by decide +kernel
theorem dX12_keeps_28 : decode cX12_keeps 28 = .ok (.ireturn, 1) := by decide +kernel
theorem dX12_prune_0 : decode cX12_prune 0 = .ok (.aload_n 0, 1) := by decide +kernel
theorem dX12_prune_1 : decode cX12_prune 1 = .ok (.getfield 127, 3) := by decide +kernel
theorem dX12_prune_4 : decode cX12_prune 4 = .ok (.ifCond .eq 6, 3) := by decide +kernel
theorem dX12_prune_7 : decode cX12_prune 7 = .ok (.bipush (-106), 2) := by decide +kernel
theorem dX12_prune_9 : decode cX12_prune 9 = .ok (.ireturn, 1) := by decide +kernel
theorem dX12_prune_10 : decode cX12_prune 10 = .ok (.iconst 0, 1) := by decide +kernel
theorem dX12_prune_11 : decode cX12_prune 11 = .ok (.istore_n 2, 1) := by decide +kernel
theorem dX12_prune_12 : decode cX12_prune 12 = .ok (.iconst 0, 1) := by decide +kernel
theorem dX12_prune_13 : decode cX12_prune 13 = .ok (.istore_n 3, 1) := by decide +kernel
theorem dX12_prune_14 : decode cX12_prune 14 = .ok (.iconst 0, 1) := by decide +kernel
theorem dX12_prune_15 : decode cX12_prune 15 = .ok (.istore 4, 2) := by decide +kernel
theorem dX12_prune_17 : decode cX12_prune 17 = .ok (.iload 4, 2) := by decide +kernel
theorem dX12_prune_19 : decode cX12_prune 19 = .ok (.aload_n 0, 1) := by decide +kernel
theorem dX12_prune_20 : decode cX12_prune 20 = .ok (.getfield 218, 3) := by decide +kernel
theorem dX12_prune_23 : decode cX12_prune 23 = .ok (.if_icmp .ge 86, 3) := by decide +kernel
theorem dX12_prune_26 : decode cX12_prune 26 = .ok (.aload_n 0, 1) := by decide +kernel
theorem dX12_prune_27 : decode cX12_prune 27 = .ok (.getfield 112, 3) := by decide +kernel
theorem dX12_prune_30 : decode cX12_prune 30 = .ok (.iload 4, 2) := by decide +kernel
theorem dX12_prune_32 : decode cX12_prune 32 = .ok (.aload_n 0, 1) := by decide +kernel
theorem dX12_prune_33 : decode cX12_prune 33 = .ok (.getfield 55, 3) := by decide +kernel
theorem dX12_prune_36 : decode cX12_prune 36 = .ok (.iload 4, 2) := by decide +kernel
theorem dX12_prune_38 : decode cX12_prune 38 = .ok (.baload, 1) := by decide +kernel
theorem dX12_prune_39 : decode cX12_prune 39 = .ok (.ifCond .eq 16, 3) := by decide +kernel
theorem dX12_prune_42 : decode cX12_prune 42 = .ok (.aload_n 0, 1) := by decide +kernel
theorem dX12_prune_43 : decode cX12_prune 43 = .ok (.iload 4, 2) := by decide +kernel
theorem dX12_prune_45 : decode cX12_prune 45 = .ok (.invokevirtual 261, 3) := by decide +kernel
theorem dX12_prune_48 : decode cX12_prune 48 = .ok (.ifCond .ne 7, 3) := by decide +kernel
theorem dX12_prune_51 : decode cX12_prune 51 = .ok (.iconst 1, 1) := by decide +kernel
theorem dX12_prune_52 : decode cX12_prune 52 = .ok (.goto 4, 3) := by decide +kernel
theorem dX12_prune_55 : decode cX12_prune 55 = .ok (.iconst 0, 1) := by decide +kernel
theorem dX12_prune_56 : decode cX12_prune 56 = .ok (.bastore, 1) := by decide +kernel
theorem dX12_prune_57 : decode cX12_prune 57 = .ok (.iload_n 3, 1) := by decide +kernel
theorem dX12_prune_58 : decode cX12_prune 58 = .ok (.aload_n 0, 1) := by decide +kernel
theorem dX12_prune_59 : decode cX12_prune 59 = .ok (.getfield 112, 3) := by decide +kernel
theorem dX12_prune_62 : decode cX12_prune 62 = .ok (.iload 4, 2) := by decide +kernel
theorem dX12_prune_64 : decode cX12_prune 64 = .ok (.baload, 1) := by decide +kernel
theorem dX12_prune_65 : decode cX12_prune 65 = .ok (.ifCond .eq 7, 3) := by decide +kernel
theorem dX12_prune_68 : decode cX12_prune 68 = .ok (.iconst 1, 1) := by decide +kernel
theorem dX12_prune_69 : decode cX12_prune 69 = .ok (.goto 4, 3) := by decide +kernel
theorem dX12_prune_72 : decode cX12_prune 72 = .ok (.iconst 0, 1) := by decide +kernel
theorem dX12_prune_73 : decode cX12_prune 73 = .ok (.iadd, 1) := by decide +kernel
theorem dX12_prune_74 : decode cX12_prune 74 = .ok (.istore_n 3, 1) := by decide +kernel
theorem dX12_prune_75 : decode cX12_prune 75 = .ok (.iload_n 2, 1) := by decide +kernel
theorem dX12_prune_76 : decode cX12_prune 76 = .ok (.aload_n 0, 1) := by decide +kernel
theorem dX12_prune_77 : decode cX12_prune 77 = .ok (.getfield 55, 3) := by decide +kernel
theorem dX12_prune_80 : decode cX12_prune 80 = .ok (.iload 4, 2) := by decide +kernel
theorem dX12_prune_82 : decode cX12_prune 82 = .ok (.baload, 1) := by decide +kernel
theorem dX12_prune_83 : decode cX12_prune 83 = .ok (.ifCond .eq 17, 3) := by decide +kernel
theorem dX12_prune_86 : decode cX12_prune 86 = .ok (.aload_n 0, 1) := by decide +kernel
theorem dX12_prune_87 : decode cX12_prune 87 = .ok (.getfield 112, 3) := by decide +kernel
theorem dX12_prune_90 : decode cX12_prune 90 = .ok (.iload 4, 2) := by decide +kernel
theorem dX12_prune_92 : decode cX12_prune 92 = .ok (.baload, 1) := by decide +kernel
theorem dX12_prune_93 : decode cX12_prune 93 = .ok (.ifCond .ne 7, 3) := by decide +kernel
theorem dX12_prune_96 : decode cX12_prune 96 = .ok (.iconst 1, 1) := by decide +kernel
theorem dX12_prune_97 : decode cX12_prune 97 = .ok (.goto 4, 3) := by decide +kernel
theorem dX12_prune_100 : decode cX12_prune 100 = .ok (.iconst 0, 1) := by decide +kernel
theorem dX12_prune_101 : decode cX12_prune 101 = .ok (.iadd, 1) := by decide +kernel
theorem dX12_prune_102 : decode cX12_prune 102 = .ok (.istore_n 2, 1) := by decide +kernel
theorem dX12_prune_103 : decode cX12_prune 103 = .ok (.iinc 4 1, 3) := by decide +kernel
theorem dX12_prune_106 : decode cX12_prune 106 = .ok (.goto (-89), 3) := by decide +kernel
theorem dX12_prune_109 : decode cX12_prune 109 = .ok (.iload_n 3, 1) := by decide +kernel
theorem dX12_prune_110 : decode cX12_prune 110 = .ok (.ifCond .le 14, 3) := by decide +kernel
theorem dX12_prune_113 : decode cX12_prune 113 = .ok (.iload_n 2, 1) := by decide +kernel
theorem dX12_prune_114 : decode cX12_prune 114 = .ok (.ifCond .ne 10, 3) := by decide +kernel
theorem dX12_prune_117 : decode cX12_prune 117 = .ok (.iload_n 1, 1) := by decide +kernel
theorem dX12_prune_118 : decode cX12_prune 118 = .ok (.ifCond .ne 6, 3) := by decide +kernel
theorem dX12_prune_121 : decode cX12_prune 121 = .ok (.bipush (-103), 2) := by decide +kernel
theorem dX12_prune_123 : decode cX12_prune 123 = .ok (.ireturn, 1) := by decide +kernel
theorem dX12_prune_124 : decode cX12_prune 124 = .ok (.iconst 0, 1) := by decide +kernel
theorem dX12_prune_125 : decode cX12_prune 125 = .ok (.istore 4, 2) := by decide +kernel
theorem dX12_prune_127 : decode cX12_prune 127 = .ok (.iload 4, 2) := by decide +kernel
theorem dX12_prune_129 : decode cX12_prune 129 = .ok (.iload_n 3, 1) := by decide +kernel
theorem dX12_prune_130 : decode cX12_prune 130 = .ok (.if_icmp .ge 67, 3) := by decide +kernel
theorem dX12_prune_133 : decode cX12_prune 133 = .ok (.iconst (-1), 1) := by decide +kernel
theorem dX12_prune_134 : decode cX12_prune 134 = .ok (.istore 5, 2) := by decide +kernel
theorem dX12_prune_136 : decode cX12_prune 136 = .ok (.aload_n 0, 1) := by decide +kernel
theorem dX12_prune_137 : decode cX12_prune 137 = .ok (.iconst (-1), 1) := by decide +kernel
theorem dX12_prune_138 : decode cX12_prune 138 = .ok (.invokevirtual 251, 3) := by decide +kernel
theorem dX12_prune_141 : decode cX12_prune 141 = .ok (.istore 6, 2) := by decide +kernel
theorem dX12_prune_143 : decode cX12_prune 143 = .ok (.iload 6, 2) := by decide +kernel
theorem dX12_prune_145 : decode cX12_prune 145 = .ok (.iconst (-1), 1) := by decide +kernel
theorem dX12_prune_146 : decode cX12_prune 146 = .ok (.if_icmp .eq 33, 3) := by decide +kernel
theorem dX12_prune_149 : decode cX12_prune 149 = .ok (.aload_n 0, 1) := by decide +kernel
theorem dX12_prune_150 : decode cX12_prune 150 = .ok (.getfield 112, 3) := by decide +kernel
theorem dX12_prune_153 : decode cX12_prune 153 = .ok (.iload 6, 2) := by decide +kernel
theorem dX12_prune_155 : decode cX12_prune 155 = .ok (.baload, 1) := by decide +kernel
theorem dX12_prune_156 : decode cX12_prune 156 = .ok (.ifCond .eq 8, 3) := by decide +kernel
theorem dX12_prune_159 : decode cX12_prune 159 = .ok (.iload 6, 2) := by decide +kernel
theorem dX12_prune_161 : decode cX12_prune 161 = .ok (.goto 5, 3) := by decide +kernel
theorem dX12_prune_164 : decode cX12_prune 164 = .ok (.iload 5, 2) := by decide +kernel
theorem dX12_prune_166 : decode cX12_prune 166 = .ok (.istore 5, 2) := by decide +kernel
theorem dX12_prune_168 : decode cX12_prune 168 = .ok (.aload_n 0, 1) := by decide +kernel
theorem dX12_prune_169 : decode cX12_prune 169 = .ok (.iload 6, 2) := by decide +kernel
theorem dX12_prune_171 : decode cX12_prune 171 = .ok (.invokevirtual 251, 3) := by decide +kernel
theorem dX12_prune_174 : decode cX12_prune 174 = .ok (.istore 6, 2) := by decide +kernel
theorem dX12_prune_176 : decode cX12_prune 176 = .ok (.goto (-33), 3) := by decide +kernel
theorem dX12_prune_179 : decode cX12_prune 179 = .ok (.aload_n 0, 1) := by decide +kernel
theorem dX12_prune_180 : decode cX12_prune 180 = .ok (.iload 5, 2) := by decide +kernel
theorem dX12_prune_182 : decode cX12_prune 182 = .ok (.invokevirtual 228, 3) := by decide +kernel
theorem dX12_prune_185 : decode cX12_prune 185 = .ok (.ifCond .ne 6, 3) := by decide +kernel
theorem dX12_prune_188 : decode cX12_prune 188 = .ok (.bipush (-105), 2) := by decide +kernel
theorem dX12_prune_190 : decode cX12_prune 190 = .ok (.ireturn, 1) := by decide +kernel
theorem dX12_prune_191 : decode cX12_prune 191 = .ok (.iinc 4 1, 3) := by decide +kernel
theorem dX12_prune_194 : decode cX12_prune 194 = .ok (.goto (-67), 3) := by decide +kernel
theorem dX12_prune_197 : decode cX12_prune 197 = .ok (.iload_n 3, 1) := by decide +kernel
theorem dX12_prune_198 : decode cX12_prune 198 = .ok (.ireturn, 1) := by decide +kernel
theorem dX12_push_0 : decode cX12_push 0 = .ok (.aload_n 0, 1) := by decide +kernel
theorem dX12_push_1 : decode cX12_push 1 = .ok (.getfield 106, 3) := by decide +kernel
theorem dX12_push_4 : decode cX12_push 4 = .ok (.aload_n 0, 1) := by decide +kernel
theorem dX12_push_5 : decode cX12_push 5 = .ok (.getfield 215, 3) := by decide +kernel
theorem dX12_push_8 : decode cX12_push 8 = .ok (.iload_n 1, 1) := by decide +kernel
theorem dX12_push_9 : decode cX12_push 9 = .ok (.iastore, 1) := by decide +kernel
theorem dX12_push_10 : decode cX12_push 10 = .ok (.aload_n 0, 1) := by decide +kernel
theorem dX12_push_11 : decode cX12_push 11 = .ok (.dup, 1) := by decide +kernel
theorem dX12_push_12 : decode cX12_push 12 = .ok (.getfield 215, 3) := by decide +kernel
theorem dX12_push_15 : decode cX12_push 15 = .ok (.iconst 1, 1) := by decide +kernel
theorem dX12_push_16 : decode cX12_push 16 = .ok (.iadd, 1) := by decide +kernel
theorem dX12_push_17 : decode cX12_push 17 = .ok (.putfield 215, 3) := by decide +kernel
theorem dX12_push_20 : decode cX12_push 20 = .ok (.return_, 1) := by decide +kernel
theorem dX12_settle_0 : decode cX12_settle 0 = .ok (.aload_n 0, 1) := by decide +kernel
theorem dX12_settle_1 : decode cX12_settle 1 = .ok (.getfield 131, 3) := by decide +kernel
theorem dX12_settle_4 : decode cX12_settle 4 = .ok (.iconst 1, 1) := by decide +kernel
theorem dX12_settle_5 : decode cX12_settle 5 = .ok (.if_icmp .ne 24, 3) := by decide +kernel
theorem dX12_settle_8 : decode cX12_settle 8 = .ok (.aload_n 0, 1) := by decide +kernel
theorem dX12_settle_9 : decode cX12_settle 9 = .ok (.getfield 264, 3) := by decide +kernel
theorem dX12_settle_12 : decode cX12_settle 12 = .ok (.aload_n 0, 1) := by decide +kernel
theorem dX12_settle_13 : decode cX12_settle 13 = .ok (.getfield 215, 3) := by decide +kernel
theorem dX12_settle_16 : decode cX12_settle 16 = .ok (.if_icmp .ne 13, 3) := by decide +kernel
theorem dX12_settle_19 : decode cX12_settle 19 = .ok (.aload_n 0, 1) := by decide +kernel
theorem dX12_settle_20 : decode cX12_settle 20 = .ok (.iconst 2, 1) := by decide +kernel
theorem dX12_settle_21 : decode cX12_settle 21 = .ok (.putfield 131, 3) := by decide +kernel
theorem dX12_settle_24 : decode cX12_settle 24 = .ok (.aload_n 0, 1) := by decide +kernel
theorem dX12_settle_25 : decode cX12_settle 25 = .ok (.iconst 0, 1) := by decide +kernel
theorem dX12_settle_26 : decode cX12_settle 26 = .ok (.putfield 267, 3) := by decide +kernel
theorem dX12_settle_29 : decode cX12_settle 29 = .ok (.aload_n 0, 1) := by decide +kernel
theorem dX12_settle_30 : decode cX12_settle 30 = .ok (.getfield 131, 3) := by decide +kernel
theorem dX12_settle_33 : decode cX12_settle 33 = .ok (.iconst 2, 1) := by decide +kernel
theorem dX12_settle_34 : decode cX12_settle 34 = .ok (.if_icmp .ne 29, 3) := by decide +kernel
theorem dX12_settle_37 : decode cX12_settle 37 = .ok (.aload_n 0, 1) := by decide +kernel
theorem dX12_settle_38 : decode cX12_settle 38 = .ok (.getfield 267, 3) := by decide +kernel
theorem dX12_settle_41 : decode cX12_settle 41 = .ok (.aload_n 0, 1) := by decide +kernel
theorem dX12_settle_42 : decode cX12_settle 42 = .ok (.getfield 270, 3) := by decide +kernel
theorem dX12_settle_45 : decode cX12_settle 45 = .ok (.if_icmp .lt 18, 3) := by decide +kernel
theorem dX12_settle_48 : decode cX12_settle 48 = .ok (.aload_n 0, 1) := by decide +kernel
theorem dX12_settle_49 : decode cX12_settle 49 = .ok (.iconst 3, 1) := by decide +kernel
theorem dX12_settle_50 : decode cX12_settle 50 = .ok (.putfield 131, 3) := by decide +kernel
theorem dX12_settle_53 : decode cX12_settle 53 = .ok (.aload_n 0, 1) := by decide +kernel
theorem dX12_settle_54 : decode cX12_settle 54 = .ok (.aload_n 0, 1) := by decide +kernel
theorem dX12_settle_55 : decode cX12_settle 55 = .ok (.getfield 270, 3) := by decide +kernel
theorem dX12_settle_58 : decode cX12_settle 58 = .ok (.iconst 1, 1) := by decide +kernel
theorem dX12_settle_59 : decode cX12_settle 59 = .ok (.isub, 1) := by decide +kernel
theorem dX12_settle_60 : decode cX12_settle 60 = .ok (.putfield 267, 3) := by decide +kernel
theorem dX12_settle_63 : decode cX12_settle 63 = .ok (.aload_n 0, 1) := by decide +kernel
theorem dX12_settle_64 : decode cX12_settle 64 = .ok (.getfield 131, 3) := by decide +kernel
theorem dX12_settle_67 : decode cX12_settle 67 = .ok (.iconst 3, 1) := by decide +kernel
theorem dX12_settle_68 : decode cX12_settle 68 = .ok (.if_icmp .ne 28, 3) := by decide +kernel
theorem dX12_settle_71 : decode cX12_settle 71 = .ok (.aload_n 0, 1) := by decide +kernel
theorem dX12_settle_72 : decode cX12_settle 72 = .ok (.getfield 267, 3) := by decide +kernel
theorem dX12_settle_75 : decode cX12_settle 75 = .ok (.ifCond .ge 21, 3) := by decide +kernel
theorem dX12_settle_78 : decode cX12_settle 78 = .ok (.aload_n 0, 1) := by decide +kernel
theorem dX12_settle_79 : decode cX12_settle 79 = .ok (.iconst 4, 1) := by decide +kernel
theorem dX12_settle_80 : decode cX12_settle 80 = .ok (.putfield 131, 3) := by decide +kernel
theorem dX12_settle_83 : decode cX12_settle 83 = .ok (.aload_n 0, 1) := by decide +kernel
theorem dX12_settle_84 : decode cX12_settle 84 = .ok (.iconst 0, 1) := by decide +kernel
theorem dX12_settle_85 : decode cX12_settle 85 = .ok (.putfield 267, 3) := by decide +kernel
theorem dX12_settle_88 : decode cX12_settle 88 = .ok (.aload_n 0, 1) := by decide +kernel
theorem dX12_settle_89 : decode cX12_settle 89 = .ok (.aload_n 0, 1) := by decide +kernel
theorem dX12_settle_90 : decode cX12_settle 90 = .ok (.getfield 178, 3) := by decide +kernel
theorem dX12_settle_93 : decode cX12_settle 93 = .ok (.putfield 273, 3) := by decide +kernel
theorem dX12_settle_96 : decode cX12_settle 96 = .ok (.aload_n 0, 1) := by decide +kernel
theorem dX12_settle_97 : decode cX12_settle 97 = .ok (.getfield 131, 3) := by decide +kernel
theorem dX12_settle_100 : decode cX12_settle 100 = .ok (.iconst 4, 1) := by decide +kernel
theorem dX12_settle_101 : decode cX12_settle 101 = .ok (.if_icmp .ne 19, 3) := by decide +kernel
theorem dX12_settle_104 : decode cX12_settle 104 = .ok (.aload_n 0, 1) := by decide +kernel
theorem dX12_settle_105 : decode cX12_settle 105 = .ok (.getfield 267, 3) := by decide +kernel
theorem dX12_settle_108 : decode cX12_settle 108 = .ok (.aload_n 0, 1) := by decide +kernel
theorem dX12_settle_109 : decode cX12_settle 109 = .ok (.getfield 273, 3) := by decide +kernel
theorem dX12_settle_112 : decode cX12_settle 112 = .ok (.if_icmp .lt 8, 3) := by decide +kernel
theorem dX12_settle_115 : decode cX12_settle 115 = .ok (.aload_n 0, 1) := by decide +kernel
theorem dX12_settle_116 : decode cX12_settle 116 = .ok (.iconst 0, 1) := by decide +kernel
theorem dX12_settle_117 : decode cX12_settle 117 = .ok (.putfield 131, 3) := by decide +kernel
theorem dX12_settle_120 : decode cX12_settle 120 = .ok (.return_, 1) := by decide +kernel
theorem dX12_sweep_0 : decode cX12_sweep 0 = .ok (.aload_n 0, 1) := by decide +kernel
theorem dX12_sweep_1 : decode cX12_sweep 1 = .ok (.getfield 127, 3) := by decide +kernel
theorem dX12_sweep_4 : decode cX12_sweep 4 = .ok (.ifCond .eq 6, 3) := by decide +kernel
theorem dX12_sweep_7 : decode cX12_sweep 7 = .ok (.bipush (-106), 2) := by decide +kernel
theorem dX12_sweep_9 : decode cX12_sweep 9 = .ok (.ireturn, 1) := by decide +kernel
theorem dX12_sweep_10 : decode cX12_sweep 10 = .ok (.aload_n 0, 1) := by decide +kernel
theorem dX12_sweep_11 : decode cX12_sweep 11 = .ok (.getfield 131, 3) := by decide +kernel
theorem dX12_sweep_14 : decode cX12_sweep 14 = .ok (.ifCond .eq 6, 3) := by decide +kernel
theorem dX12_sweep_17 : decode cX12_sweep 17 = .ok (.bipush (-103), 2) := by decide +kernel
theorem dX12_sweep_19 : decode cX12_sweep 19 = .ok (.ireturn, 1) := by decide +kernel
theorem dX12_sweep_20 : decode cX12_sweep 20 = .ok (.aload_n 0, 1) := by decide +kernel
theorem dX12_sweep_21 : decode cX12_sweep 21 = .ok (.invokevirtual 191, 3) := by decide +kernel
theorem dX12_sweep_24 : decode cX12_sweep 24 = .ok (.ifCond .ne 6, 3) := by decide +kernel
theorem dX12_sweep_27 : decode cX12_sweep 27 = .ok (.bipush (-105), 2) := by decide +kernel
theorem dX12_sweep_29 : decode cX12_sweep 29 = .ok (.ireturn, 1) := by decide +kernel
theorem dX12_sweep_30 : decode cX12_sweep 30 = .ok (.aload_n 0, 1) := by decide +kernel
theorem dX12_sweep_31 : decode cX12_sweep 31 = .ok (.dup, 1) := by decide +kernel
theorem dX12_sweep_32 : decode cX12_sweep 32 = .ok (.getfield 276, 3) := by decide +kernel
theorem dX12_sweep_35 : decode cX12_sweep 35 = .ok (.iconst 1, 1) := by decide +kernel
theorem dX12_sweep_36 : decode cX12_sweep 36 = .ok (.iadd, 1) := by decide +kernel
theorem dX12_sweep_37 : decode cX12_sweep 37 = .ok (.putfield 276, 3) := by decide +kernel
theorem dX12_sweep_40 : decode cX12_sweep 40 = .ok (.aload_n 0, 1) := by decide +kernel
theorem dX12_sweep_41 : decode cX12_sweep 41 = .ok (.iconst 0, 1) := by decide +kernel
theorem dX12_sweep_42 : decode cX12_sweep 42 = .ok (.putfield 264, 3) := by decide +kernel
theorem dX12_sweep_45 : decode cX12_sweep 45 = .ok (.aload_n 0, 1) := by decide +kernel
theorem dX12_sweep_46 : decode cX12_sweep 46 = .ok (.iconst 0, 1) := by decide +kernel
theorem dX12_sweep_47 : decode cX12_sweep 47 = .ok (.putfield 215, 3) := by decide +kernel
theorem dX12_sweep_50 : decode cX12_sweep 50 = .ok (.iconst 0, 1) := by decide +kernel
theorem dX12_sweep_51 : decode cX12_sweep 51 = .ok (.istore_n 1, 1) := by decide +kernel
theorem dX12_sweep_52 : decode cX12_sweep 52 = .ok (.iload_n 1, 1) := by decide +kernel
theorem dX12_sweep_53 : decode cX12_sweep 53 = .ok (.bipush 80, 2) := by decide +kernel
theorem dX12_sweep_55 : decode cX12_sweep 55 = .ok (.if_icmp .ge 16, 3) := by decide +kernel
theorem dX12_sweep_58 : decode cX12_sweep 58 = .ok (.aload_n 0, 1) := by decide +kernel
theorem dX12_sweep_59 : decode cX12_sweep 59 = .ok (.getfield 103, 3) := by decide +kernel
theorem dX12_sweep_62 : decode cX12_sweep 62 = .ok (.iload_n 1, 1) := by decide +kernel
theorem dX12_sweep_63 : decode cX12_sweep 63 = .ok (.iconst 0, 1) := by decide +kernel
theorem dX12_sweep_64 : decode cX12_sweep 64 = .ok (.bastore, 1) := by decide +kernel
theorem dX12_sweep_65 : decode cX12_sweep 65 = .ok (.iinc 1 1, 3) := by decide +kernel
theorem dX12_sweep_68 : decode cX12_sweep 68 = .ok (.goto (-16), 3) := by decide +kernel
theorem dX12_sweep_71 : decode cX12_sweep 71 = .ok (.iconst 0, 1) := by decide +kernel
theorem dX12_sweep_72 : decode cX12_sweep 72 = .ok (.istore_n 1, 1) := by decide +kernel
theorem dX12_sweep_73 : decode cX12_sweep 73 = .ok (.iload_n 1, 1) := by decide +kernel
theorem dX12_sweep_74 : decode cX12_sweep 74 = .ok (.aload_n 0, 1) := by decide +kernel
theorem dX12_sweep_75 : decode cX12_sweep 75 = .ok (.getfield 218, 3) := by decide +kernel
theorem dX12_sweep_78 : decode cX12_sweep 78 = .ok (.if_icmp .ge 51, 3) := by decide +kernel
theorem dX12_sweep_81 : decode cX12_sweep 81 = .ok (.iconst 0, 1) := by decide +kernel
theorem dX12_sweep_82 : decode cX12_sweep 82 = .ok (.istore_n 2, 1) := by decide +kernel
theorem dX12_sweep_83 : decode cX12_sweep 83 = .ok (.iload_n 2, 1) := by decide +kernel
theorem dX12_sweep_84 : decode cX12_sweep 84 = .ok (.aload_n 0, 1) := by decide +kernel
theorem dX12_sweep_85 : decode cX12_sweep 85 = .ok (.getfield 64, 3) := by decide +kernel
theorem dX12_sweep_88 : decode cX12_sweep 88 = .ok (.iload_n 1, 1) := by decide +kernel
theorem dX12_sweep_89 : decode cX12_sweep 89 = .ok (.iaload, 1) := by decide +kernel
theorem dX12_sweep_90 : decode cX12_sweep 90 = .ok (.if_icmp .ge 33, 3) := by decide +kernel
theorem dX12_sweep_93 : decode cX12_sweep 93 = .ok (.aload_n 0, 1) := by decide +kernel
theorem dX12_sweep_94 : decode cX12_sweep 94 = .ok (.getfield 55, 3) := by decide +kernel
theorem dX12_sweep_97 : decode cX12_sweep 97 = .ok (.iload_n 1, 1) := by decide +kernel
theorem dX12_sweep_98 : decode cX12_sweep 98 = .ok (.baload, 1) := by decide +kernel
theorem dX12_sweep_99 : decode cX12_sweep 99 = .ok (.ifCond .eq 24, 3) := by decide +kernel
theorem dX12_sweep_102 : decode cX12_sweep 102 = .ok (.aload_n 0, 1) := by decide +kernel
theorem dX12_sweep_103 : decode cX12_sweep 103 = .ok (.aload_n 0, 1) := by decide +kernel
theorem dX12_sweep_104 : decode cX12_sweep 104 = .ok (.getfield 67, 3) := by decide +kernel
theorem dX12_sweep_107 : decode cX12_sweep 107 = .ok (.bipush 8, 2) := by decide +kernel
theorem dX12_sweep_109 : decode cX12_sweep 109 = .ok (.iload_n 1, 1) := by decide +kernel
theorem dX12_sweep_110 : decode cX12_sweep 110 = .ok (.imul, 1) := by decide +kernel
theorem dX12_sweep_111 : decode cX12_sweep 111 = .ok (.iload_n 2, 1) := by decide +kernel
theorem dX12_sweep_112 : decode cX12_sweep 112 = .ok (.iadd, 1) := by decide +kernel
theorem dX12_sweep_113 : decode cX12_sweep 113 = .ok (.iaload, 1) := by decide +kernel
theorem dX12_sweep_114 : decode cX12_sweep 114 = .ok (.invokevirtual 279, 3) := by decide +kernel
theorem dX12_sweep_117 : decode cX12_sweep 117 = .ok (.iinc 2 1, 3) := by decide +kernel
theorem dX12_sweep_120 : decode cX12_sweep 120 = .ok (.goto (-37), 3) := by decide +kernel
theorem dX12_sweep_123 : decode cX12_sweep 123 = .ok (.iinc 1 1, 3) := by decide +kernel
theorem dX12_sweep_126 : decode cX12_sweep 126 = .ok (.goto (-53), 3) := by decide +kernel
theorem dX12_sweep_129 : decode cX12_sweep 129 = .ok (.iconst 0, 1) := by decide +kernel
theorem dX12_sweep_130 : decode cX12_sweep 130 = .ok (.istore_n 1, 1) := by decide +kernel
theorem dX12_sweep_131 : decode cX12_sweep 131 = .ok (.iload_n 1, 1) := by decide +kernel
theorem dX12_sweep_132 : decode cX12_sweep 132 = .ok (.iconst 4, 1) := by decide +kernel
theorem dX12_sweep_133 : decode cX12_sweep 133 = .ok (.if_icmp .ge 79, 3) := by decide +kernel
theorem dX12_sweep_136 : decode cX12_sweep 136 = .ok (.aload_n 0, 1) := by decide +kernel
theorem dX12_sweep_137 : decode cX12_sweep 137 = .ok (.getfield 79, 3) := by decide +kernel
theorem dX12_sweep_140 : decode cX12_sweep 140 = .ok (.iload_n 1, 1) := by decide +kernel
theorem dX12_sweep_141 : decode cX12_sweep 141 = .ok (.aload_n 0, 1) := by decide +kernel
theorem dX12_sweep_142 : decode cX12_sweep 142 = .ok (.getfield 79, 3) := by decide +kernel
theorem dX12_sweep_145 : decode cX12_sweep 145 = .ok (.iload_n 1, 1) := by decide +kernel
theorem dX12_sweep_146 : decode cX12_sweep 146 = .ok (.baload, 1) := by decide +kernel
theorem dX12_sweep_147 : decode cX12_sweep 147 = .ok (.ifCond .eq 15, 3) := by decide +kernel
theorem dX12_sweep_150 : decode cX12_sweep 150 = .ok (.aload_n 0, 1) := by decide +kernel
theorem dX12_sweep_151 : decode cX12_sweep 151 = .ok (.iload_n 1, 1) := by decide +kernel
theorem dX12_sweep_152 : decode cX12_sweep 152 = .ok (.invokevirtual 159, 3) := by decide +kernel
theorem dX12_sweep_155 : decode cX12_sweep 155 = .ok (.ifCond .ne 7, 3) := by decide +kernel
theorem dX12_sweep_158 : decode cX12_sweep 158 = .ok (.iconst 1, 1) := by decide +kernel
theorem dX12_sweep_159 : decode cX12_sweep 159 = .ok (.goto 4, 3) := by decide +kernel
theorem dX12_sweep_162 : decode cX12_sweep 162 = .ok (.iconst 0, 1) := by decide +kernel
theorem dX12_sweep_163 : decode cX12_sweep 163 = .ok (.bastore, 1) := by decide +kernel
theorem dX12_sweep_164 : decode cX12_sweep 164 = .ok (.iconst 0, 1) := by decide +kernel
theorem dX12_sweep_165 : decode cX12_sweep 165 = .ok (.istore_n 2, 1) := by decide +kernel
theorem dX12_sweep_166 : decode cX12_sweep 166 = .ok (.iload_n 2, 1) := by decide +kernel
theorem dX12_sweep_167 : decode cX12_sweep 167 = .ok (.aload_n 0, 1) := by decide +kernel
theorem dX12_sweep_168 : decode cX12_sweep 168 = .ok (.getfield 88, 3) := by decide +kernel
theorem dX12_sweep_171 : decode cX12_sweep 171 = .ok (.iload_n 1, 1) := by decide +kernel
theorem dX12_sweep_172 : decode cX12_sweep 172 = .ok (.iaload, 1) := by decide +kernel
theorem dX12_sweep_173 : decode cX12_sweep 173 = .ok (.if_icmp .ge 33, 3) := by decide +kernel
theorem dX12_sweep_176 : decode cX12_sweep 176 = .ok (.aload_n 0, 1) := by decide +kernel
theorem dX12_sweep_177 : decode cX12_sweep 177 = .ok (.getfield 79, 3) := by decide +kernel
theorem dX12_sweep_180 : decode cX12_sweep 180 = .ok (.iload_n 1, 1) := by decide +kernel
theorem dX12_sweep_181 : decode cX12_sweep 181 = .ok (.baload, 1) := by decide +kernel
theorem dX12_sweep_182 : decode cX12_sweep 182 = .ok (.ifCond .eq 24, 3) := by decide +kernel
theorem dX12_sweep_185 : decode cX12_sweep 185 = .ok (.aload_n 0, 1) := by decide +kernel
theorem dX12_sweep_186 : decode cX12_sweep 186 = .ok (.aload_n 0, 1) := by decide +kernel
theorem dX12_sweep_187 : decode cX12_sweep 187 = .ok (.getfield 91, 3) := by decide +kernel
theorem dX12_sweep_190 : decode cX12_sweep 190 = .ok (.bipush 8, 2) := by decide +kernel
theorem dX12_sweep_192 : decode cX12_sweep 192 = .ok (.iload_n 1, 1) := by decide +kernel
theorem dX12_sweep_193 : decode cX12_sweep 193 = .ok (.imul, 1) := by decide +kernel
theorem dX12_sweep_194 : decode cX12_sweep 194 = .ok (.iload_n 2, 1) := by decide +kernel
theorem dX12_sweep_195 : decode cX12_sweep 195 = .ok (.iadd, 1) := by decide +kernel
theorem dX12_sweep_196 : decode cX12_sweep 196 = .ok (.iaload, 1) := by decide +kernel
theorem dX12_sweep_197 : decode cX12_sweep 197 = .ok (.invokevirtual 279, 3) := by decide +kernel
theorem dX12_sweep_200 : decode cX12_sweep 200 = .ok (.iinc 2 1, 3) := by decide +kernel
theorem dX12_sweep_203 : decode cX12_sweep 203 = .ok (.goto (-37), 3) := by decide +kernel
theorem dX12_sweep_206 : decode cX12_sweep 206 = .ok (.iinc 1 1, 3) := by decide +kernel
theorem dX12_sweep_209 : decode cX12_sweep 209 = .ok (.goto (-78), 3) := by decide +kernel
theorem dX12_sweep_212 : decode cX12_sweep 212 = .ok (.aload_n 0, 1) := by decide +kernel
theorem dX12_sweep_213 : decode cX12_sweep 213 = .ok (.aload_n 0, 1) := by decide +kernel
theorem dX12_sweep_214 : decode cX12_sweep 214 = .ok (.getfield 156, 3) := by decide +kernel
theorem dX12_sweep_217 : decode cX12_sweep 217 = .ok (.putfield 270, 3) := by decide +kernel
theorem dX12_sweep_220 : decode cX12_sweep 220 = .ok (.aload_n 0, 1) := by decide +kernel
theorem dX12_sweep_221 : decode cX12_sweep 221 = .ok (.iconst 1, 1) := by decide +kernel
theorem dX12_sweep_222 : decode cX12_sweep 222 = .ok (.putfield 131, 3) := by decide +kernel
theorem dX12_sweep_225 : decode cX12_sweep 225 = .ok (.aload_n 0, 1) := by decide +kernel
theorem dX12_sweep_226 : decode cX12_sweep 226 = .ok (.invokevirtual 282, 3) := by decide +kernel
theorem dX12_sweep_229 : decode cX12_sweep 229 = .ok (.aload_n 0, 1) := by decide +kernel
theorem dX12_sweep_230 : decode cX12_sweep 230 = .ok (.getfield 276, 3) := by decide +kernel
theorem dX12_sweep_233 : decode cX12_sweep 233 = .ok (.ireturn, 1) := by decide +kernel
theorem dX12_mark_0 : decode cX12_mark 0 = .ok (.aload_n 0, 1) := by decide +kernel
theorem dX12_mark_1 : decode cX12_mark 1 = .ok (.getfield 106, 3) := by decide +kernel
theorem dX12_mark_4 : decode cX12_mark 4 = .ok (.aload_n 0, 1) := by decide +kernel
theorem dX12_mark_5 : decode cX12_mark 5 = .ok (.getfield 264, 3) := by decide +kernel
theorem dX12_mark_8 : decode cX12_mark 8 = .ok (.iaload, 1) := by decide +kernel
theorem dX12_mark_9 : decode cX12_mark 9 = .ok (.istore_n 1, 1) := by decide +kernel
theorem dX12_mark_10 : decode cX12_mark 10 = .ok (.aload_n 0, 1) := by decide +kernel
theorem dX12_mark_11 : decode cX12_mark 11 = .ok (.dup, 1) := by decide +kernel
theorem dX12_mark_12 : decode cX12_mark 12 = .ok (.getfield 264, 3) := by decide +kernel
theorem dX12_mark_15 : decode cX12_mark 15 = .ok (.iconst 1, 1) := by decide +kernel
theorem dX12_mark_16 : decode cX12_mark 16 = .ok (.iadd, 1) := by decide +kernel
theorem dX12_mark_17 : decode cX12_mark 17 = .ok (.putfield 264, 3) := by decide +kernel
theorem dX12_mark_20 : decode cX12_mark 20 = .ok (.aload_n 0, 1) := by decide +kernel
theorem dX12_mark_21 : decode cX12_mark 21 = .ok (.getfield 103, 3) := by decide +kernel
theorem dX12_mark_24 : decode cX12_mark 24 = .ok (.iload_n 1, 1) := by decide +kernel
theorem dX12_mark_25 : decode cX12_mark 25 = .ok (.baload, 1) := by decide +kernel
theorem dX12_mark_26 : decode cX12_mark 26 = .ok (.ifCond .ne 42, 3) := by decide +kernel
theorem dX12_mark_29 : decode cX12_mark 29 = .ok (.aload_n 0, 1) := by decide +kernel
theorem dX12_mark_30 : decode cX12_mark 30 = .ok (.getfield 103, 3) := by decide +kernel
theorem dX12_mark_33 : decode cX12_mark 33 = .ok (.iload_n 1, 1) := by decide +kernel
theorem dX12_mark_34 : decode cX12_mark 34 = .ok (.iconst 1, 1) := by decide +kernel
theorem dX12_mark_35 : decode cX12_mark 35 = .ok (.bastore, 1) := by decide +kernel
theorem dX12_mark_36 : decode cX12_mark 36 = .ok (.iconst 0, 1) := by decide +kernel
theorem dX12_mark_37 : decode cX12_mark 37 = .ok (.istore_n 2, 1) := by decide +kernel
theorem dX12_mark_38 : decode cX12_mark 38 = .ok (.iload_n 2, 1) := by decide +kernel
theorem dX12_mark_39 : decode cX12_mark 39 = .ok (.aload_n 0, 1) := by decide +kernel
theorem dX12_mark_40 : decode cX12_mark 40 = .ok (.getfield 27, 3) := by decide +kernel
theorem dX12_mark_43 : decode cX12_mark 43 = .ok (.iload_n 1, 1) := by decide +kernel
theorem dX12_mark_44 : decode cX12_mark 44 = .ok (.iaload, 1) := by decide +kernel
theorem dX12_mark_45 : decode cX12_mark 45 = .ok (.if_icmp .ge 23, 3) := by decide +kernel
theorem dX12_mark_48 : decode cX12_mark 48 = .ok (.aload_n 0, 1) := by decide +kernel
theorem dX12_mark_49 : decode cX12_mark 49 = .ok (.aload_n 0, 1) := by decide +kernel
theorem dX12_mark_50 : decode cX12_mark 50 = .ok (.getfield 30, 3) := by decide +kernel
theorem dX12_mark_53 : decode cX12_mark 53 = .ok (.iconst 4, 1) := by decide +kernel
theorem dX12_mark_54 : decode cX12_mark 54 = .ok (.iload_n 1, 1) := by decide +kernel
theorem dX12_mark_55 : decode cX12_mark 55 = .ok (.imul, 1) := by decide +kernel
theorem dX12_mark_56 : decode cX12_mark 56 = .ok (.iload_n 2, 1) := by decide +kernel
theorem dX12_mark_57 : decode cX12_mark 57 = .ok (.iadd, 1) := by decide +kernel
theorem dX12_mark_58 : decode cX12_mark 58 = .ok (.iaload, 1) := by decide +kernel
theorem dX12_mark_59 : decode cX12_mark 59 = .ok (.invokevirtual 279, 3) := by decide +kernel
theorem dX12_mark_62 : decode cX12_mark 62 = .ok (.iinc 2 1, 3) := by decide +kernel
theorem dX12_mark_65 : decode cX12_mark 65 = .ok (.goto (-27), 3) := by decide +kernel
theorem dX12_mark_68 : decode cX12_mark 68 = .ok (.return_, 1) := by decide +kernel
theorem dX12_clear_0 : decode cX12_clear 0 = .ok (.aload_n 0, 1) := by decide +kernel
theorem dX12_clear_1 : decode cX12_clear 1 = .ok (.getfield 267, 3) := by decide +kernel
theorem dX12_clear_4 : decode cX12_clear 4 = .ok (.istore_n 1, 1) := by decide +kernel
theorem dX12_clear_5 : decode cX12_clear 5 = .ok (.aload_n 0, 1) := by decide +kernel
theorem dX12_clear_6 : decode cX12_clear 6 = .ok (.dup, 1) := by decide +kernel
theorem dX12_clear_7 : decode cX12_clear 7 = .ok (.getfield 267, 3) := by decide +kernel
theorem dX12_clear_10 : decode cX12_clear 10 = .ok (.iconst 1, 1) := by decide +kernel
theorem dX12_clear_11 : decode cX12_clear 11 = .ok (.iadd, 1) := by decide +kernel
theorem dX12_clear_12 : decode cX12_clear 12 = .ok (.putfield 267, 3) := by decide +kernel
theorem dX12_clear_15 : decode cX12_clear 15 = .ok (.aload_n 0, 1) := by decide +kernel
theorem dX12_clear_16 : decode cX12_clear 16 = .ok (.getfield 103, 3) := by decide +kernel
theorem dX12_clear_19 : decode cX12_clear 19 = .ok (.iload_n 1, 1) := by decide +kernel
theorem dX12_clear_20 : decode cX12_clear 20 = .ok (.baload, 1) := by decide +kernel
theorem dX12_clear_21 : decode cX12_clear 21 = .ok (.ifCond .eq 12, 3) := by decide +kernel
theorem dX12_clear_24 : decode cX12_clear 24 = .ok (.aload_n 0, 1) := by decide +kernel
theorem dX12_clear_25 : decode cX12_clear 25 = .ok (.getfield 43, 3) := by decide +kernel
theorem dX12_clear_28 : decode cX12_clear 28 = .ok (.iload_n 1, 1) := by decide +kernel
theorem dX12_clear_29 : decode cX12_clear 29 = .ok (.iaload, 1) := by decide +kernel
theorem dX12_clear_30 : decode cX12_clear 30 = .ok (.ifCond .ne 5, 3) := by decide +kernel
theorem dX12_clear_33 : decode cX12_clear 33 = .ok (.iconst 1, 1) := by decide +kernel
theorem dX12_clear_34 : decode cX12_clear 34 = .ok (.ireturn, 1) := by decide +kernel
theorem dX12_clear_35 : decode cX12_clear 35 = .ok (.aload_n 0, 1) := by decide +kernel
theorem dX12_clear_36 : decode cX12_clear 36 = .ok (.invokevirtual 191, 3) := by decide +kernel
theorem dX12_clear_39 : decode cX12_clear 39 = .ok (.ifCond .ne 5, 3) := by decide +kernel
theorem dX12_clear_42 : decode cX12_clear 42 = .ok (.iconst 0, 1) := by decide +kernel
theorem dX12_clear_43 : decode cX12_clear 43 = .ok (.ireturn, 1) := by decide +kernel
theorem dX12_clear_44 : decode cX12_clear 44 = .ok (.aload_n 0, 1) := by decide +kernel
theorem dX12_clear_45 : decode cX12_clear 45 = .ok (.getfield 43, 3) := by decide +kernel
theorem dX12_clear_48 : decode cX12_clear 48 = .ok (.iload_n 1, 1) := by decide +kernel
theorem dX12_clear_49 : decode cX12_clear 49 = .ok (.iconst 0, 1) := by decide +kernel
theorem dX12_clear_50 : decode cX12_clear 50 = .ok (.iastore, 1) := by decide +kernel
theorem dX12_clear_51 : decode cX12_clear 51 = .ok (.iconst 1, 1) := by decide +kernel
theorem dX12_clear_52 : decode cX12_clear 52 = .ok (.ireturn, 1) := by decide +kernel
theorem dX12_choose_0 : decode cX12_choose 0 = .ok (.aload_n 0, 1) := by decide +kernel
theorem dX12_choose_1 : decode cX12_choose 1 = .ok (.getfield 267, 3) := by decide +kernel
theorem dX12_choose_4 : decode cX12_choose 4 = .ok (.istore_n 1, 1) := by decide +kernel
theorem dX12_choose_5 : decode cX12_choose 5 = .ok (.aload_n 0, 1) := by decide +kernel
theorem dX12_choose_6 : decode cX12_choose 6 = .ok (.dup, 1) := by decide +kernel
theorem dX12_choose_7 : decode cX12_choose 7 = .ok (.getfield 267, 3) := by decide +kernel
theorem dX12_choose_10 : decode cX12_choose 10 = .ok (.iconst 1, 1) := by decide +kernel
theorem dX12_choose_11 : decode cX12_choose 11 = .ok (.isub, 1) := by decide +kernel
theorem dX12_choose_12 : decode cX12_choose 12 = .ok (.putfield 267, 3) := by decide +kernel
theorem dX12_choose_15 : decode cX12_choose 15 = .ok (.aload_n 0, 1) := by decide +kernel
theorem dX12_choose_16 : decode cX12_choose 16 = .ok (.getfield 33, 3) := by decide +kernel
theorem dX12_choose_19 : decode cX12_choose 19 = .ok (.iload_n 1, 1) := by decide +kernel
theorem dX12_choose_20 : decode cX12_choose 20 = .ok (.baload, 1) := by decide +kernel
theorem dX12_choose_21 : decode cX12_choose 21 = .ok (.ifCond .eq 12, 3) := by decide +kernel
theorem dX12_choose_24 : decode cX12_choose 24 = .ok (.aload_n 0, 1) := by decide +kernel
theorem dX12_choose_25 : decode cX12_choose 25 = .ok (.getfield 103, 3) := by decide +kernel
theorem dX12_choose_28 : decode cX12_choose 28 = .ok (.iload_n 1, 1) := by decide +kernel
theorem dX12_choose_29 : decode cX12_choose 29 = .ok (.baload, 1) := by decide +kernel
theorem dX12_choose_30 : decode cX12_choose 30 = .ok (.ifCond .eq 5, 3) := by decide +kernel
theorem dX12_choose_33 : decode cX12_choose 33 = .ok (.iconst 1, 1) := by decide +kernel
theorem dX12_choose_34 : decode cX12_choose 34 = .ok (.ireturn, 1) := by decide +kernel
theorem dX12_choose_35 : decode cX12_choose 35 = .ok (.aload_n 0, 1) := by decide +kernel
theorem dX12_choose_36 : decode cX12_choose 36 = .ok (.invokevirtual 191, 3) := by decide +kernel
theorem dX12_choose_39 : decode cX12_choose 39 = .ok (.ifCond .ne 5, 3) := by decide +kernel
theorem dX12_choose_42 : decode cX12_choose 42 = .ok (.iconst 0, 1) := by decide +kernel
theorem dX12_choose_43 : decode cX12_choose 43 = .ok (.ireturn, 1) := by decide +kernel
theorem dX12_choose_44 : decode cX12_choose 44 = .ok (.aload_n 0, 1) := by decide +kernel
theorem dX12_choose_45 : decode cX12_choose 45 = .ok (.getfield 43, 3) := by decide +kernel
theorem dX12_choose_48 : decode cX12_choose 48 = .ok (.iload_n 1, 1) := by decide +kernel
theorem dX12_choose_49 : decode cX12_choose 49 = .ok (.iaload, 1) := by decide +kernel
theorem dX12_choose_50 : decode cX12_choose 50 = .ok (.ifCond .le 7, 3) := by decide +kernel
theorem dX12_choose_53 : decode cX12_choose 53 = .ok (.iconst 1, 1) := by decide +kernel
theorem dX12_choose_54 : decode cX12_choose 54 = .ok (.goto 4, 3) := by decide +kernel
theorem dX12_choose_57 : decode cX12_choose 57 = .ok (.iconst 0, 1) := by decide +kernel
theorem dX12_choose_58 : decode cX12_choose 58 = .ok (.istore_n 2, 1) := by decide +kernel
theorem dX12_choose_59 : decode cX12_choose 59 = .ok (.aload_n 0, 1) := by decide +kernel
theorem dX12_choose_60 : decode cX12_choose 60 = .ok (.getfield 43, 3) := by decide +kernel
theorem dX12_choose_63 : decode cX12_choose 63 = .ok (.iload_n 1, 1) := by decide +kernel
theorem dX12_choose_64 : decode cX12_choose 64 = .ok (.iload_n 2, 1) := by decide +kernel
theorem dX12_choose_65 : decode cX12_choose 65 = .ok (.ifCond .eq 7, 3) := by decide +kernel
theorem dX12_choose_68 : decode cX12_choose 68 = .ok (.iconst 0, 1) := by decide +kernel
theorem dX12_choose_69 : decode cX12_choose 69 = .ok (.goto 7, 3) := by decide +kernel
theorem dX12_choose_72 : decode cX12_choose 72 = .ok (.aload_n 0, 1) := by decide +kernel
theorem dX12_choose_73 : decode cX12_choose 73 = .ok (.getfield 276, 3) := by decide +kernel
theorem dX12_choose_76 : decode cX12_choose 76 = .ok (.iastore, 1) := by decide +kernel
theorem dX12_choose_77 : decode cX12_choose 77 = .ok (.iload_n 2, 1) := by decide +kernel
theorem dX12_choose_78 : decode cX12_choose 78 = .ok (.ifCond .eq 26, 3) := by decide +kernel
theorem dX12_choose_81 : decode cX12_choose 81 = .ok (.aload_n 0, 1) := by decide +kernel
theorem dX12_choose_82 : decode cX12_choose 82 = .ok (.getfield 33, 3) := by decide +kernel
theorem dX12_choose_85 : decode cX12_choose 85 = .ok (.iload_n 1, 1) := by decide +kernel
theorem dX12_choose_86 : decode cX12_choose 86 = .ok (.iconst 0, 1) := by decide +kernel
theorem dX12_choose_87 : decode cX12_choose 87 = .ok (.bastore, 1) := by decide +kernel
theorem dX12_choose_88 : decode cX12_choose 88 = .ok (.aload_n 0, 1) := by decide +kernel
theorem dX12_choose_89 : decode cX12_choose 89 = .ok (.dup, 1) := by decide +kernel
theorem dX12_choose_90 : decode cX12_choose 90 = .ok (.getfield 285, 3) := by decide +kernel
theorem dX12_choose_93 : decode cX12_choose 93 = .ok (.iconst 1, 1) := by decide +kernel
theorem dX12_choose_94 : decode cX12_choose 94 = .ok (.iadd, 1) := by decide +kernel
theorem dX12_choose_95 : decode cX12_choose 95 = .ok (.putfield 285, 3) := by decide +kernel
theorem dX12_choose_98 : decode cX12_choose 98 = .ok (.aload_n 0, 1) := by decide +kernel
theorem dX12_choose_99 : decode cX12_choose 99 = .ok (.iconst 1, 1) := by decide +kernel
theorem dX12_choose_100 : decode cX12_choose 100 = .ok (.iload_n 1, 1) := by decide +kernel
theorem dX12_choose_101 : decode cX12_choose 101 = .ok (.invokevirtual 198, 3) := by decide +kernel
theorem dX12_choose_104 : decode cX12_choose 104 = .ok (.iconst 1, 1) := by decide +kernel
theorem dX12_choose_105 : decode cX12_choose 105 = .ok (.ireturn, 1) := by decide +kernel
theorem dX12_bytesIn_0 : decode cX12_bytesIn 0 = .ok (.iconst 0, 1) := by decide +kernel
theorem dX12_bytesIn_1 : decode cX12_bytesIn 1 = .ok (.istore_n 2, 1) := by decide +kernel
theorem dX12_bytesIn_2 : decode cX12_bytesIn 2 = .ok (.iconst 0, 1) := by decide +kernel
theorem dX12_bytesIn_3 : decode cX12_bytesIn 3 = .ok (.istore_n 3, 1) := by decide +kernel
theorem dX12_bytesIn_4 : decode cX12_bytesIn 4 = .ok (.iload_n 3, 1) := by decide +kernel
theorem dX12_bytesIn_5 : decode cX12_bytesIn 5 = .ok (.aload_n 0, 1) := by decide +kernel
theorem dX12_bytesIn_6 : decode cX12_bytesIn 6 = .ok (.getfield 156, 3) := by decide +kernel
theorem dX12_bytesIn_9 : decode cX12_bytesIn 9 = .ok (.if_icmp .ge 41, 3) := by decide +kernel
theorem dX12_bytesIn_12 : decode cX12_bytesIn 12 = .ok (.iload_n 2, 1) := by decide +kernel
theorem dX12_bytesIn_13 : decode cX12_bytesIn 13 = .ok (.aload_n 0, 1) := by decide +kernel
theorem dX12_bytesIn_14 : decode cX12_bytesIn 14 = .ok (.getfield 33, 3) := by decide +kernel
theorem dX12_bytesIn_17 : decode cX12_bytesIn 17 = .ok (.iload_n 3, 1) := by decide +kernel
theorem dX12_bytesIn_18 : decode cX12_bytesIn 18 = .ok (.baload, 1) := by decide +kernel
theorem dX12_bytesIn_19 : decode cX12_bytesIn 19 = .ok (.ifCond .eq 22, 3) := by decide +kernel
theorem dX12_bytesIn_22 : decode cX12_bytesIn 22 = .ok (.aload_n 0, 1) := by decide +kernel
theorem dX12_bytesIn_23 : decode cX12_bytesIn 23 = .ok (.getfield 37, 3) := by decide +kernel
theorem dX12_bytesIn_26 : decode cX12_bytesIn 26 = .ok (.iload_n 3, 1) := by decide +kernel
theorem dX12_bytesIn_27 : decode cX12_bytesIn 27 = .ok (.iaload, 1) := by decide +kernel
theorem dX12_bytesIn_28 : decode cX12_bytesIn 28 = .ok (.iload_n 1, 1) := by decide +kernel
theorem dX12_bytesIn_29 : decode cX12_bytesIn 29 = .ok (.if_icmp .ne 12, 3) := by decide +kernel
theorem dX12_bytesIn_32 : decode cX12_bytesIn 32 = .ok (.aload_n 0, 1) := by decide +kernel
theorem dX12_bytesIn_33 : decode cX12_bytesIn 33 = .ok (.getfield 23, 3) := by decide +kernel
theorem dX12_bytesIn_36 : decode cX12_bytesIn 36 = .ok (.iload_n 3, 1) := by decide +kernel
theorem dX12_bytesIn_37 : decode cX12_bytesIn 37 = .ok (.iaload, 1) := by decide +kernel
theorem dX12_bytesIn_38 : decode cX12_bytesIn 38 = .ok (.goto 4, 3) := by decide +kernel
theorem dX12_bytesIn_41 : decode cX12_bytesIn 41 = .ok (.iconst 0, 1) := by decide +kernel
theorem dX12_bytesIn_42 : decode cX12_bytesIn 42 = .ok (.iadd, 1) := by decide +kernel
theorem dX12_bytesIn_43 : decode cX12_bytesIn 43 = .ok (.istore_n 2, 1) := by decide +kernel
theorem dX12_bytesIn_44 : decode cX12_bytesIn 44 = .ok (.iinc 3 1, 3) := by decide +kernel
theorem dX12_bytesIn_47 : decode cX12_bytesIn 47 = .ok (.goto (-43), 3) := by decide +kernel
theorem dX12_bytesIn_50 : decode cX12_bytesIn 50 = .ok (.iload_n 2, 1) := by decide +kernel
theorem dX12_bytesIn_51 : decode cX12_bytesIn 51 = .ok (.ireturn, 1) := by decide +kernel
theorem dX12_blocksIn_0 : decode cX12_blocksIn 0 = .ok (.iconst 0, 1) := by decide +kernel
theorem dX12_blocksIn_1 : decode cX12_blocksIn 1 = .ok (.istore_n 2, 1) := by decide +kernel
theorem dX12_blocksIn_2 : decode cX12_blocksIn 2 = .ok (.iconst 0, 1) := by decide +kernel
theorem dX12_blocksIn_3 : decode cX12_blocksIn 3 = .ok (.istore_n 3, 1) := by decide +kernel
theorem dX12_blocksIn_4 : decode cX12_blocksIn 4 = .ok (.iload_n 3, 1) := by decide +kernel
theorem dX12_blocksIn_5 : decode cX12_blocksIn 5 = .ok (.aload_n 0, 1) := by decide +kernel
theorem dX12_blocksIn_6 : decode cX12_blocksIn 6 = .ok (.getfield 156, 3) := by decide +kernel
theorem dX12_blocksIn_9 : decode cX12_blocksIn 9 = .ok (.if_icmp .ge 36, 3) := by decide +kernel
theorem dX12_blocksIn_12 : decode cX12_blocksIn 12 = .ok (.iload_n 2, 1) := by decide +kernel
theorem dX12_blocksIn_13 : decode cX12_blocksIn 13 = .ok (.aload_n 0, 1) := by decide +kernel
theorem dX12_blocksIn_14 : decode cX12_blocksIn 14 = .ok (.getfield 33, 3) := by decide +kernel
theorem dX12_blocksIn_17 : decode cX12_blocksIn 17 = .ok (.iload_n 3, 1) := by decide +kernel
theorem dX12_blocksIn_18 : decode cX12_blocksIn 18 = .ok (.baload, 1) := by decide +kernel
theorem dX12_blocksIn_19 : decode cX12_blocksIn 19 = .ok (.ifCond .eq 17, 3) := by decide +kernel
theorem dX12_blocksIn_22 : decode cX12_blocksIn 22 = .ok (.aload_n 0, 1) := by decide +kernel
theorem dX12_blocksIn_23 : decode cX12_blocksIn 23 = .ok (.getfield 37, 3) := by decide +kernel
theorem dX12_blocksIn_26 : decode cX12_blocksIn 26 = .ok (.iload_n 3, 1) := by decide +kernel
theorem dX12_blocksIn_27 : decode cX12_blocksIn 27 = .ok (.iaload, 1) := by decide +kernel
theorem dX12_blocksIn_28 : decode cX12_blocksIn 28 = .ok (.iload_n 1, 1) := by decide +kernel
theorem dX12_blocksIn_29 : decode cX12_blocksIn 29 = .ok (.if_icmp .ne 7, 3) := by decide +kernel
theorem dX12_blocksIn_32 : decode cX12_blocksIn 32 = .ok (.iconst 1, 1) := by decide +kernel
theorem dX12_blocksIn_33 : decode cX12_blocksIn 33 = .ok (.goto 4, 3) := by decide +kernel
theorem dX12_blocksIn_36 : decode cX12_blocksIn 36 = .ok (.iconst 0, 1) := by decide +kernel
theorem dX12_blocksIn_37 : decode cX12_blocksIn 37 = .ok (.iadd, 1) := by decide +kernel
theorem dX12_blocksIn_38 : decode cX12_blocksIn 38 = .ok (.istore_n 2, 1) := by decide +kernel
theorem dX12_blocksIn_39 : decode cX12_blocksIn 39 = .ok (.iinc 3 1, 3) := by decide +kernel
theorem dX12_blocksIn_42 : decode cX12_blocksIn 42 = .ok (.goto (-38), 3) := by decide +kernel
theorem dX12_blocksIn_45 : decode cX12_blocksIn 45 = .ok (.iload_n 2, 1) := by decide +kernel
theorem dX12_blocksIn_46 : decode cX12_blocksIn 46 = .ok (.ireturn, 1) := by decide +kernel
theorem dX12_packStep_0 : decode cX12_packStep 0 = .ok (.aload_n 0, 1) := by decide +kernel
theorem dX12_packStep_1 : decode cX12_packStep 1 = .ok (.getfield 267, 3) := by decide +kernel
theorem dX12_packStep_4 : decode cX12_packStep 4 = .ok (.istore_n 1, 1) := by decide +kernel
theorem dX12_packStep_5 : decode cX12_packStep 5 = .ok (.aload_n 0, 1) := by decide +kernel
theorem dX12_packStep_6 : decode cX12_packStep 6 = .ok (.dup, 1) := by decide +kernel
theorem dX12_packStep_7 : decode cX12_packStep 7 = .ok (.getfield 267, 3) := by decide +kernel
theorem dX12_packStep_10 : decode cX12_packStep 10 = .ok (.iconst 1, 1) := by decide +kernel
theorem dX12_packStep_11 : decode cX12_packStep 11 = .ok (.iadd, 1) := by decide +kernel
theorem dX12_packStep_12 : decode cX12_packStep 12 = .ok (.putfield 267, 3) := by decide +kernel
theorem dX12_packStep_15 : decode cX12_packStep 15 = .ok (.aload_n 0, 1) := by decide +kernel
theorem dX12_packStep_16 : decode cX12_packStep 16 = .ok (.getfield 49, 3) := by decide +kernel
theorem dX12_packStep_19 : decode cX12_packStep 19 = .ok (.iload_n 1, 1) := by decide +kernel
theorem dX12_packStep_20 : decode cX12_packStep 20 = .ok (.iaload, 1) := by decide +kernel
theorem dX12_packStep_21 : decode cX12_packStep 21 = .ok (.aload_n 0, 1) := by decide +kernel
theorem dX12_packStep_22 : decode cX12_packStep 22 = .ok (.iload_n 1, 1) := by decide +kernel
theorem dX12_packStep_23 : decode cX12_packStep 23 = .ok (.invokevirtual 288, 3) := by decide +kernel
theorem dX12_packStep_26 : decode cX12_packStep 26 = .ok (.isub, 1) := by decide +kernel
theorem dX12_packStep_27 : decode cX12_packStep 27 = .ok (.istore_n 2, 1) := by decide +kernel
theorem dX12_packStep_28 : decode cX12_packStep 28 = .ok (.aload_n 0, 1) := by decide +kernel
theorem dX12_packStep_29 : decode cX12_packStep 29 = .ok (.getfield 46, 3) := by decide +kernel
theorem dX12_packStep_32 : decode cX12_packStep 32 = .ok (.iload_n 1, 1) := by decide +kernel
theorem dX12_packStep_33 : decode cX12_packStep 33 = .ok (.baload, 1) := by decide +kernel
theorem dX12_packStep_34 : decode cX12_packStep 34 = .ok (.ifCond .ne 32, 3) := by decide +kernel
theorem dX12_packStep_37 : decode cX12_packStep 37 = .ok (.iload_n 2, 1) := by decide +kernel
theorem dX12_packStep_38 : decode cX12_packStep 38 = .ok (.ifCond .eq 28, 3) := by decide +kernel
theorem dX12_packStep_41 : decode cX12_packStep 41 = .ok (.aload_n 0, 1) := by decide +kernel
theorem dX12_packStep_42 : decode cX12_packStep 42 = .ok (.getfield 52, 3) := by decide +kernel
theorem dX12_packStep_45 : decode cX12_packStep 45 = .ok (.ifCond .eq 21, 3) := by decide +kernel
theorem dX12_packStep_48 : decode cX12_packStep 48 = .ok (.bipush 100, 2) := by decide +kernel
theorem dX12_packStep_50 : decode cX12_packStep 50 = .ok (.iload_n 2, 1) := by decide +kernel
theorem dX12_packStep_51 : decode cX12_packStep 51 = .ok (.imul, 1) := by decide +kernel
theorem dX12_packStep_52 : decode cX12_packStep 52 = .ok (.aload_n 0, 1) := by decide +kernel
theorem dX12_packStep_53 : decode cX12_packStep 53 = .ok (.getfield 52, 3) := by decide +kernel
theorem dX12_packStep_56 : decode cX12_packStep 56 = .ok (.aload_n 0, 1) := by decide +kernel
theorem dX12_packStep_57 : decode cX12_packStep 57 = .ok (.getfield 49, 3) := by decide +kernel
theorem dX12_packStep_60 : decode cX12_packStep 60 = .ok (.iload_n 1, 1) := by decide +kernel
theorem dX12_packStep_61 : decode cX12_packStep 61 = .ok (.iaload, 1) := by decide +kernel
theorem dX12_packStep_62 : decode cX12_packStep 62 = .ok (.imul, 1) := by decide +kernel
theorem dX12_packStep_63 : decode cX12_packStep 63 = .ok (.if_icmp .ge 5, 3) := by decide +kernel
theorem dX12_packStep_66 : decode cX12_packStep 66 = .ok (.iconst 1, 1) := by decide +kernel
theorem dX12_packStep_67 : decode cX12_packStep 67 = .ok (.ireturn, 1) := by decide +kernel
theorem dX12_packStep_68 : decode cX12_packStep 68 = .ok (.aload_n 0, 1) := by decide +kernel
theorem dX12_packStep_69 : decode cX12_packStep 69 = .ok (.iload_n 1, 1) := by decide +kernel
theorem dX12_packStep_70 : decode cX12_packStep 70 = .ok (.invokevirtual 291, 3) := by decide +kernel
theorem dX12_packStep_73 : decode cX12_packStep 73 = .ok (.istore_n 3, 1) := by decide +kernel
theorem dX12_packStep_74 : decode cX12_packStep 74 = .ok (.aload_n 0, 1) := by decide +kernel
theorem dX12_packStep_75 : decode cX12_packStep 75 = .ok (.iload_n 1, 1) := by decide +kernel
theorem dX12_packStep_76 : decode cX12_packStep 76 = .ok (.iload_n 3, 1) := by decide +kernel
theorem dX12_packStep_77 : decode cX12_packStep 77 = .ok (.invokevirtual 294, 3) := by decide +kernel
theorem dX12_packStep_80 : decode cX12_packStep 80 = .ok (.istore 4, 2) := by decide +kernel
theorem dX12_packStep_82 : decode cX12_packStep 82 = .ok (.iload 4, 2) := by decide +kernel
theorem dX12_packStep_84 : decode cX12_packStep 84 = .ok (.bipush 40, 2) := by decide +kernel
theorem dX12_packStep_86 : decode cX12_packStep 86 = .ok (.if_icmp .le 5, 3) := by decide +kernel
theorem dX12_packStep_89 : decode cX12_packStep 89 = .ok (.iconst 1, 1) := by decide +kernel
theorem dX12_packStep_90 : decode cX12_packStep 90 = .ok (.ireturn, 1) := by decide +kernel
theorem dX12_packStep_91 : decode cX12_packStep 91 = .ok (.iconst 0, 1) := by decide +kernel
theorem dX12_packStep_92 : decode cX12_packStep 92 = .ok (.istore 5, 2) := by decide +kernel
theorem dX12_packStep_94 : decode cX12_packStep 94 = .ok (.iload 5, 2) := by decide +kernel
theorem dX12_packStep_96 : decode cX12_packStep 96 = .ok (.iload_n 3, 1) := by decide +kernel
theorem dX12_packStep_97 : decode cX12_packStep 97 = .ok (.if_icmp .gt 18, 3) := by decide +kernel
theorem dX12_packStep_100 : decode cX12_packStep 100 = .ok (.aload_n 0, 1) := by decide +kernel
theorem dX12_packStep_101 : decode cX12_packStep 101 = .ok (.invokevirtual 191, 3) := by decide +kernel
theorem dX12_packStep_104 : decode cX12_packStep 104 = .ok (.ifCond .ne 5, 3) := by decide +kernel
theorem dX12_packStep_107 : decode cX12_packStep 107 = .ok (.iconst 0, 1) := by decide +kernel
theorem dX12_packStep_108 : decode cX12_packStep 108 = .ok (.ireturn, 1) := by decide +kernel
theorem dX12_packStep_109 : decode cX12_packStep 109 = .ok (.iinc 5 1, 3) := by decide +kernel
theorem dX12_packStep_112 : decode cX12_packStep 112 = .ok (.goto (-18), 3) := by decide +kernel
theorem dX12_packStep_115 : decode cX12_packStep 115 = .ok (.aload_n 0, 1) := by decide +kernel
theorem dX12_packStep_116 : decode cX12_packStep 116 = .ok (.getfield 178, 3) := by decide +kernel
theorem dX12_packStep_119 : decode cX12_packStep 119 = .ok (.istore 5, 2) := by decide +kernel
theorem dX12_packStep_121 : decode cX12_packStep 121 = .ok (.iload 5, 2) := by decide +kernel
theorem dX12_packStep_123 : decode cX12_packStep 123 = .ok (.iload 4, 2) := by decide +kernel
theorem dX12_packStep_125 : decode cX12_packStep 125 = .ok (.if_icmp .ge 25, 3) := by decide +kernel
theorem dX12_packStep_128 : decode cX12_packStep 128 = .ok (.aload_n 0, 1) := by decide +kernel
theorem dX12_packStep_129 : decode cX12_packStep 129 = .ok (.getfield 49, 3) := by decide +kernel
theorem dX12_packStep_132 : decode cX12_packStep 132 = .ok (.iload 5, 2) := by decide +kernel
theorem dX12_packStep_134 : decode cX12_packStep 134 = .ok (.iconst 0, 1) := by decide +kernel
theorem dX12_packStep_135 : decode cX12_packStep 135 = .ok (.iastore, 1) := by decide +kernel
theorem dX12_packStep_136 : decode cX12_packStep 136 = .ok (.aload_n 0, 1) := by decide +kernel
theorem dX12_packStep_137 : decode cX12_packStep 137 = .ok (.getfield 46, 3) := by decide +kernel
theorem dX12_packStep_140 : decode cX12_packStep 140 = .ok (.iload 5, 2) := by decide +kernel
theorem dX12_packStep_142 : decode cX12_packStep 142 = .ok (.iconst 0, 1) := by decide +kernel
theorem dX12_packStep_143 : decode cX12_packStep 143 = .ok (.bastore, 1) := by decide +kernel
theorem dX12_packStep_144 : decode cX12_packStep 144 = .ok (.iinc 5 1, 3) := by decide +kernel
theorem dX12_packStep_147 : decode cX12_packStep 147 = .ok (.goto (-26), 3) := by decide +kernel
theorem dX12_packStep_150 : decode cX12_packStep 150 = .ok (.aload_n 0, 1) := by decide +kernel
theorem dX12_packStep_151 : decode cX12_packStep 151 = .ok (.iload 4, 2) := by decide +kernel
theorem dX12_packStep_153 : decode cX12_packStep 153 = .ok (.putfield 178, 3) := by decide +kernel
theorem dX12_packStep_156 : decode cX12_packStep 156 = .ok (.iconst 0, 1) := by decide +kernel
theorem dX12_packStep_157 : decode cX12_packStep 157 = .ok (.istore 5, 2) := by decide +kernel
theorem dX12_packStep_159 : decode cX12_packStep 159 = .ok (.iload 5, 2) := by decide +kernel
theorem dX12_packStep_161 : decode cX12_packStep 161 = .ok (.iload_n 3, 1) := by decide +kernel
theorem dX12_packStep_162 : decode cX12_packStep 162 = .ok (.if_icmp .ge 74, 3) := by decide +kernel
theorem dX12_packStep_165 : decode cX12_packStep 165 = .ok (.aload_n 0, 1) := by decide +kernel
theorem dX12_packStep_166 : decode cX12_packStep 166 = .ok (.getfield 37, 3) := by decide +kernel
theorem dX12_packStep_169 : decode cX12_packStep 169 = .ok (.aload_n 0, 1) := by decide +kernel
theorem dX12_packStep_170 : decode cX12_packStep 170 = .ok (.getfield 115, 3) := by decide +kernel
theorem dX12_packStep_173 : decode cX12_packStep 173 = .ok (.iload 5, 2) := by decide +kernel
theorem dX12_packStep_175 : decode cX12_packStep 175 = .ok (.iaload, 1) := by decide +kernel
theorem dX12_packStep_176 : decode cX12_packStep 176 = .ok (.aload_n 0, 1) := by decide +kernel
theorem dX12_packStep_177 : decode cX12_packStep 177 = .ok (.getfield 118, 3) := by decide +kernel
theorem dX12_packStep_180 : decode cX12_packStep 180 = .ok (.iload 5, 2) := by decide +kernel
theorem dX12_packStep_182 : decode cX12_packStep 182 = .ok (.iaload, 1) := by decide +kernel
theorem dX12_packStep_183 : decode cX12_packStep 183 = .ok (.iastore, 1) := by decide +kernel
theorem dX12_packStep_184 : decode cX12_packStep 184 = .ok (.aload_n 0, 1) := by decide +kernel
theorem dX12_packStep_185 : decode cX12_packStep 185 = .ok (.getfield 40, 3) := by decide +kernel
theorem dX12_packStep_188 : decode cX12_packStep 188 = .ok (.aload_n 0, 1) := by decide +kernel
theorem dX12_packStep_189 : decode cX12_packStep 189 = .ok (.getfield 115, 3) := by decide +kernel
theorem dX12_packStep_192 : decode cX12_packStep 192 = .ok (.iload 5, 2) := by decide +kernel
theorem dX12_packStep_194 : decode cX12_packStep 194 = .ok (.iaload, 1) := by decide +kernel
theorem dX12_packStep_195 : decode cX12_packStep 195 = .ok (.aload_n 0, 1) := by decide +kernel
theorem dX12_packStep_196 : decode cX12_packStep 196 = .ok (.getfield 121, 3) := by decide +kernel
theorem dX12_packStep_199 : decode cX12_packStep 199 = .ok (.iload 5, 2) := by decide +kernel
theorem dX12_packStep_201 : decode cX12_packStep 201 = .ok (.iaload, 1) := by decide +kernel
theorem dX12_packStep_202 : decode cX12_packStep 202 = .ok (.iastore, 1) := by decide +kernel
theorem dX12_packStep_203 : decode cX12_packStep 203 = .ok (.aload_n 0, 1) := by decide +kernel
theorem dX12_packStep_204 : decode cX12_packStep 204 = .ok (.getfield 49, 3) := by decide +kernel
theorem dX12_packStep_207 : decode cX12_packStep 207 = .ok (.aload_n 0, 1) := by decide +kernel
theorem dX12_packStep_208 : decode cX12_packStep 208 = .ok (.getfield 118, 3) := by decide +kernel
theorem dX12_packStep_211 : decode cX12_packStep 211 = .ok (.iload 5, 2) := by decide +kernel
theorem dX12_packStep_213 : decode cX12_packStep 213 = .ok (.iaload, 1) := by decide +kernel
theorem dX12_packStep_214 : decode cX12_packStep 214 = .ok (.dup2, 1) := by decide +kernel
theorem dX12_packStep_215 : decode cX12_packStep 215 = .ok (.iaload, 1) := by decide +kernel
theorem dX12_packStep_216 : decode cX12_packStep 216 = .ok (.aload_n 0, 1) := by decide +kernel
theorem dX12_packStep_217 : decode cX12_packStep 217 = .ok (.getfield 23, 3) := by decide +kernel
theorem dX12_packStep_220 : decode cX12_packStep 220 = .ok (.aload_n 0, 1) := by decide +kernel
theorem dX12_packStep_221 : decode cX12_packStep 221 = .ok (.getfield 115, 3) := by decide +kernel
theorem dX12_packStep_224 : decode cX12_packStep 224 = .ok (.iload 5, 2) := by decide +kernel
theorem dX12_packStep_226 : decode cX12_packStep 226 = .ok (.iaload, 1) := by decide +kernel
theorem dX12_packStep_227 : decode cX12_packStep 227 = .ok (.iaload, 1) := by decide +kernel
theorem dX12_packStep_228 : decode cX12_packStep 228 = .ok (.iadd, 1) := by decide +kernel
theorem dX12_packStep_229 : decode cX12_packStep 229 = .ok (.iastore, 1) := by decide +kernel
theorem dX12_packStep_230 : decode cX12_packStep 230 = .ok (.iinc 5 1, 3) := by decide +kernel
theorem dX12_packStep_233 : decode cX12_packStep 233 = .ok (.goto (-74), 3) := by decide +kernel
theorem dX12_packStep_236 : decode cX12_packStep 236 = .ok (.aload_n 0, 1) := by decide +kernel
theorem dX12_packStep_237 : decode cX12_packStep 237 = .ok (.getfield 46, 3) := by decide +kernel
theorem dX12_packStep_240 : decode cX12_packStep 240 = .ok (.iload_n 1, 1) := by decide +kernel
theorem dX12_packStep_241 : decode cX12_packStep 241 = .ok (.iconst 1, 1) := by decide +kernel
theorem dX12_packStep_242 : decode cX12_packStep 242 = .ok (.bastore, 1) := by decide +kernel
theorem dX12_packStep_243 : decode cX12_packStep 243 = .ok (.aload_n 0, 1) := by decide +kernel
theorem dX12_packStep_244 : decode cX12_packStep 244 = .ok (.dup, 1) := by decide +kernel
theorem dX12_packStep_245 : decode cX12_packStep 245 = .ok (.getfield 298, 3) := by decide +kernel
theorem dX12_packStep_248 : decode cX12_packStep 248 = .ok (.iconst 1, 1) := by decide +kernel
theorem dX12_packStep_249 : decode cX12_packStep 249 = .ok (.iadd, 1) := by decide +kernel
theorem dX12_packStep_250 : decode cX12_packStep 250 = .ok (.putfield 298, 3) := by decide +kernel
theorem dX12_packStep_253 : decode cX12_packStep 253 = .ok (.iconst 1, 1) := by decide +kernel
theorem dX12_packStep_254 : decode cX12_packStep 254 = .ok (.ireturn, 1) := by decide +kernel
theorem dX12_plan_0 : decode cX12_plan 0 = .ok (.aload_n 0, 1) := by decide +kernel
theorem dX12_plan_1 : decode cX12_plan 1 = .ok (.getfield 178, 3) := by decide +kernel
theorem dX12_plan_4 : decode cX12_plan 4 = .ok (.istore_n 3, 1) := by decide +kernel
theorem dX12_plan_5 : decode cX12_plan 5 = .ok (.aload_n 0, 1) := by decide +kernel
theorem dX12_plan_6 : decode cX12_plan 6 = .ok (.getfield 178, 3) := by decide +kernel
theorem dX12_plan_9 : decode cX12_plan 9 = .ok (.iconst 1, 1) := by decide +kernel
theorem dX12_plan_10 : decode cX12_plan 10 = .ok (.isub, 1) := by decide +kernel
theorem dX12_plan_11 : decode cX12_plan 11 = .ok (.istore 4, 2) := by decide +kernel
theorem dX12_plan_13 : decode cX12_plan 13 = .ok (.iload 4, 2) := by decide +kernel
theorem dX12_plan_15 : decode cX12_plan 15 = .ok (.iload_n 1, 1) := by decide +kernel
theorem dX12_plan_16 : decode cX12_plan 16 = .ok (.if_icmp .eq 17, 3) := by decide +kernel
theorem dX12_plan_19 : decode cX12_plan 19 = .ok (.aload_n 0, 1) := by decide +kernel
theorem dX12_plan_20 : decode cX12_plan 20 = .ok (.getfield 46, 3) := by decide +kernel
theorem dX12_plan_23 : decode cX12_plan 23 = .ok (.iload 4, 2) := by decide +kernel
theorem dX12_plan_25 : decode cX12_plan 25 = .ok (.baload, 1) := by decide +kernel
theorem dX12_plan_26 : decode cX12_plan 26 = .ok (.ifCond .ne 7, 3) := by decide +kernel
theorem dX12_plan_29 : decode cX12_plan 29 = .ok (.iconst 1, 1) := by decide +kernel
theorem dX12_plan_30 : decode cX12_plan 30 = .ok (.goto 4, 3) := by decide +kernel
theorem dX12_plan_33 : decode cX12_plan 33 = .ok (.iconst 0, 1) := by decide +kernel
theorem dX12_plan_34 : decode cX12_plan 34 = .ok (.istore 5, 2) := by decide +kernel
theorem dX12_plan_36 : decode cX12_plan 36 = .ok (.aload_n 0, 1) := by decide +kernel
theorem dX12_plan_37 : decode cX12_plan 37 = .ok (.getfield 49, 3) := by decide +kernel
theorem dX12_plan_40 : decode cX12_plan 40 = .ok (.iload 4, 2) := by decide +kernel
theorem dX12_plan_42 : decode cX12_plan 42 = .ok (.iaload, 1) := by decide +kernel
theorem dX12_plan_43 : decode cX12_plan 43 = .ok (.istore 6, 2) := by decide +kernel
theorem dX12_plan_45 : decode cX12_plan 45 = .ok (.iconst (-1), 1) := by decide +kernel
theorem dX12_plan_46 : decode cX12_plan 46 = .ok (.istore 7, 2) := by decide +kernel
theorem dX12_plan_48 : decode cX12_plan 48 = .ok (.iconst 0, 1) := by decide +kernel
theorem dX12_plan_49 : decode cX12_plan 49 = .ok (.istore 8, 2) := by decide +kernel
theorem dX12_plan_51 : decode cX12_plan 51 = .ok (.iload 8, 2) := by decide +kernel
theorem dX12_plan_53 : decode cX12_plan 53 = .ok (.iload_n 2, 1) := by decide +kernel
theorem dX12_plan_54 : decode cX12_plan 54 = .ok (.if_icmp .ge 189, 3) := by decide +kernel
theorem dX12_plan_57 : decode cX12_plan 57 = .ok (.iconst (-1), 1) := by decide +kernel
theorem dX12_plan_58 : decode cX12_plan 58 = .ok (.istore 9, 2) := by decide +kernel
theorem dX12_plan_60 : decode cX12_plan 60 = .ok (.iconst 0, 1) := by decide +kernel
theorem dX12_plan_61 : decode cX12_plan 61 = .ok (.istore 10, 2) := by decide +kernel
theorem dX12_plan_63 : decode cX12_plan 63 = .ok (.iload 10, 2) := by decide +kernel
theorem dX12_plan_65 : decode cX12_plan 65 = .ok (.aload_n 0, 1) := by decide +kernel
theorem dX12_plan_66 : decode cX12_plan 66 = .ok (.getfield 156, 3) := by decide +kernel
theorem dX12_plan_69 : decode cX12_plan 69 = .ok (.if_icmp .ge 86, 3) := by decide +kernel
theorem dX12_plan_72 : decode cX12_plan 72 = .ok (.aload_n 0, 1) := by decide +kernel
theorem dX12_plan_73 : decode cX12_plan 73 = .ok (.getfield 33, 3) := by decide +kernel
theorem dX12_plan_76 : decode cX12_plan 76 = .ok (.iload 10, 2) := by decide +kernel
theorem dX12_plan_78 : decode cX12_plan 78 = .ok (.baload, 1) := by decide +kernel
theorem dX12_plan_79 : decode cX12_plan 79 = .ok (.ifCond .eq 30, 3) := by decide +kernel
theorem dX12_plan_82 : decode cX12_plan 82 = .ok (.aload_n 0, 1) := by decide +kernel
theorem dX12_plan_83 : decode cX12_plan 83 = .ok (.getfield 37, 3) := by decide +kernel
theorem dX12_plan_86 : decode cX12_plan 86 = .ok (.iload 10, 2) := by decide +kernel
theorem dX12_plan_88 : decode cX12_plan 88 = .ok (.iaload, 1) := by decide +kernel
theorem dX12_plan_89 : decode cX12_plan 89 = .ok (.iload_n 1, 1) := by decide +kernel
theorem dX12_plan_90 : decode cX12_plan 90 = .ok (.if_icmp .ne 19, 3) := by decide +kernel
theorem dX12_plan_93 : decode cX12_plan 93 = .ok (.aload_n 0, 1) := by decide +kernel
theorem dX12_plan_94 : decode cX12_plan 94 = .ok (.getfield 40, 3) := by decide +kernel
theorem dX12_plan_97 : decode cX12_plan 97 = .ok (.iload 10, 2) := by decide +kernel
theorem dX12_plan_99 : decode cX12_plan 99 = .ok (.iaload, 1) := by decide +kernel
theorem dX12_plan_100 : decode cX12_plan 100 = .ok (.iload 7, 2) := by decide +kernel
theorem dX12_plan_102 : decode cX12_plan 102 = .ok (.if_icmp .le 7, 3) := by decide +kernel
theorem dX12_plan_105 : decode cX12_plan 105 = .ok (.iconst 1, 1) := by decide +kernel
theorem dX12_plan_106 : decode cX12_plan 106 = .ok (.goto 4, 3) := by decide +kernel
theorem dX12_plan_109 : decode cX12_plan 109 = .ok (.iconst 0, 1) := by decide +kernel
theorem dX12_plan_110 : decode cX12_plan 110 = .ok (.istore 11, 2) := by decide +kernel
theorem dX12_plan_112 : decode cX12_plan 112 = .ok (.iload 11, 2) := by decide +kernel
theorem dX12_plan_114 : decode cX12_plan 114 = .ok (.ifCond .eq 31, 3) := by decide +kernel
theorem dX12_plan_117 : decode cX12_plan 117 = .ok (.iload 9, 2) := by decide +kernel
theorem dX12_plan_119 : decode cX12_plan 119 = .ok (.iconst (-1), 1) := by decide +kernel
theorem dX12_plan_120 : decode cX12_plan 120 = .ok (.if_icmp .eq 20, 3) := by decide +kernel
theorem dX12_plan_123 : decode cX12_plan 123 = .ok (.aload_n 0, 1) := by decide +kernel
theorem dX12_plan_124 : decode cX12_plan 124 = .ok (.getfield 40, 3) := by decide +kernel
theorem dX12_plan_127 : decode cX12_plan 127 = .ok (.iload 10, 2) := by decide +kernel
theorem dX12_plan_129 : decode cX12_plan 129 = .ok (.iaload, 1) := by decide +kernel
theorem dX12_plan_130 : decode cX12_plan 130 = .ok (.aload_n 0, 1) := by decide +kernel
theorem dX12_plan_131 : decode cX12_plan 131 = .ok (.getfield 40, 3) := by decide +kernel
theorem dX12_plan_134 : decode cX12_plan 134 = .ok (.iload 9, 2) := by decide +kernel
theorem dX12_plan_136 : decode cX12_plan 136 = .ok (.iaload, 1) := by decide +kernel
theorem dX12_plan_137 : decode cX12_plan 137 = .ok (.if_icmp .ge 8, 3) := by decide +kernel
theorem dX12_plan_140 : decode cX12_plan 140 = .ok (.iload 10, 2) := by decide +kernel
theorem dX12_plan_142 : decode cX12_plan 142 = .ok (.goto 5, 3) := by decide +kernel
theorem dX12_plan_145 : decode cX12_plan 145 = .ok (.iload 9, 2) := by decide +kernel
theorem dX12_plan_147 : decode cX12_plan 147 = .ok (.istore 9, 2) := by decide +kernel
theorem dX12_plan_149 : decode cX12_plan 149 = .ok (.iinc 10 1, 3) := by decide +kernel
theorem dX12_plan_152 : decode cX12_plan 152 = .ok (.goto (-89), 3) := by decide +kernel
theorem dX12_plan_155 : decode cX12_plan 155 = .ok (.aload_n 0, 1) := by decide +kernel
theorem dX12_plan_156 : decode cX12_plan 156 = .ok (.getfield 40, 3) := by decide +kernel
theorem dX12_plan_159 : decode cX12_plan 159 = .ok (.iload 9, 2) := by decide +kernel
theorem dX12_plan_161 : decode cX12_plan 161 = .ok (.iaload, 1) := by decide +kernel
theorem dX12_plan_162 : decode cX12_plan 162 = .ok (.istore 7, 2) := by decide +kernel
theorem dX12_plan_164 : decode cX12_plan 164 = .ok (.iload 5, 2) := by decide +kernel
theorem dX12_plan_166 : decode cX12_plan 166 = .ok (.ifCond .eq 20, 3) := by decide +kernel
theorem dX12_plan_169 : decode cX12_plan 169 = .ok (.iload 6, 2) := by decide +kernel
theorem dX12_plan_171 : decode cX12_plan 171 = .ok (.aload_n 0, 1) := by decide +kernel
theorem dX12_plan_172 : decode cX12_plan 172 = .ok (.getfield 23, 3) := by decide +kernel
theorem dX12_plan_175 : decode cX12_plan 175 = .ok (.iload 9, 2) := by decide +kernel
theorem dX12_plan_177 : decode cX12_plan 177 = .ok (.iaload, 1) := by decide +kernel
theorem dX12_plan_178 : decode cX12_plan 178 = .ok (.iadd, 1) := by decide +kernel
theorem dX12_plan_179 : decode cX12_plan 179 = .ok (.aload_n 0, 1) := by decide +kernel
theorem dX12_plan_180 : decode cX12_plan 180 = .ok (.getfield 124, 3) := by decide +kernel
theorem dX12_plan_183 : decode cX12_plan 183 = .ok (.if_icmp .le 15, 3) := by decide +kernel
theorem dX12_plan_186 : decode cX12_plan 186 = .ok (.iload_n 3, 1) := by decide +kernel
theorem dX12_plan_187 : decode cX12_plan 187 = .ok (.istore 4, 2) := by decide +kernel
theorem dX12_plan_189 : decode cX12_plan 189 = .ok (.iinc 3 1, 3) := by decide +kernel
theorem dX12_plan_192 : decode cX12_plan 192 = .ok (.iconst 0, 1) := by decide +kernel
theorem dX12_plan_193 : decode cX12_plan 193 = .ok (.istore 6, 2) := by decide +kernel
theorem dX12_plan_195 : decode cX12_plan 195 = .ok (.iconst 1, 1) := by decide +kernel
theorem dX12_plan_196 : decode cX12_plan 196 = .ok (.istore 5, 2) := by decide +kernel
theorem dX12_plan_198 : decode cX12_plan 198 = .ok (.aload_n 0, 1) := by decide +kernel
theorem dX12_plan_199 : decode cX12_plan 199 = .ok (.getfield 115, 3) := by decide +kernel
theorem dX12_plan_202 : decode cX12_plan 202 = .ok (.iload 8, 2) := by decide +kernel
theorem dX12_plan_204 : decode cX12_plan 204 = .ok (.iload 9, 2) := by decide +kernel
theorem dX12_plan_206 : decode cX12_plan 206 = .ok (.iastore, 1) := by decide +kernel
theorem dX12_plan_207 : decode cX12_plan 207 = .ok (.aload_n 0, 1) := by decide +kernel
theorem dX12_plan_208 : decode cX12_plan 208 = .ok (.getfield 118, 3) := by decide +kernel
theorem dX12_plan_211 : decode cX12_plan 211 = .ok (.iload 8, 2) := by decide +kernel
theorem dX12_plan_213 : decode cX12_plan 213 = .ok (.iload 4, 2) := by decide +kernel
theorem dX12_plan_215 : decode cX12_plan 215 = .ok (.iastore, 1) := by decide +kernel
theorem dX12_plan_216 : decode cX12_plan 216 = .ok (.aload_n 0, 1) := by decide +kernel
theorem dX12_plan_217 : decode cX12_plan 217 = .ok (.getfield 121, 3) := by decide +kernel
theorem dX12_plan_220 : decode cX12_plan 220 = .ok (.iload 8, 2) := by decide +kernel
theorem dX12_plan_222 : decode cX12_plan 222 = .ok (.iload 6, 2) := by decide +kernel
theorem dX12_plan_224 : decode cX12_plan 224 = .ok (.iastore, 1) := by decide +kernel
theorem dX12_plan_225 : decode cX12_plan 225 = .ok (.iload 6, 2) := by decide +kernel
theorem dX12_plan_227 : decode cX12_plan 227 = .ok (.aload_n 0, 1) := by decide +kernel
theorem dX12_plan_228 : decode cX12_plan 228 = .ok (.getfield 23, 3) := by decide +kernel
theorem dX12_plan_231 : decode cX12_plan 231 = .ok (.iload 9, 2) := by decide +kernel
theorem dX12_plan_233 : decode cX12_plan 233 = .ok (.iaload, 1) := by decide +kernel
theorem dX12_plan_234 : decode cX12_plan 234 = .ok (.iadd, 1) := by decide +kernel
theorem dX12_plan_235 : decode cX12_plan 235 = .ok (.istore 6, 2) := by decide +kernel
theorem dX12_plan_237 : decode cX12_plan 237 = .ok (.iinc 8 1, 3) := by decide +kernel
theorem dX12_plan_240 : decode cX12_plan 240 = .ok (.goto (-189), 3) := by decide +kernel
theorem dX12_plan_243 : decode cX12_plan 243 = .ok (.iload_n 3, 1) := by decide +kernel
theorem dX12_plan_244 : decode cX12_plan 244 = .ok (.ireturn, 1) := by decide +kernel
theorem dX12_step_0 : decode cX12_step 0 = .ok (.aload_n 0, 1) := by decide +kernel
theorem dX12_step_1 : decode cX12_step 1 = .ok (.getfield 127, 3) := by decide +kernel
theorem dX12_step_4 : decode cX12_step 4 = .ok (.ifCond .eq 6, 3) := by decide +kernel
theorem dX12_step_7 : decode cX12_step 7 = .ok (.bipush (-106), 2) := by decide +kernel
theorem dX12_step_9 : decode cX12_step 9 = .ok (.ireturn, 1) := by decide +kernel
theorem dX12_step_10 : decode cX12_step 10 = .ok (.iload_n 1, 1) := by decide +kernel
theorem dX12_step_11 : decode cX12_step 11 = .ok (.i2l, 1) := by decide +kernel
theorem dX12_step_12 : decode cX12_step 12 = .ok (.lconst 1, 1) := by decide +kernel
theorem dX12_step_13 : decode cX12_step 13 = .ok (.ldc2_w 142, 3) := by decide +kernel
theorem dX12_step_16 : decode cX12_step 16 = .ok (.invokestatic 144, 3) := by decide +kernel
theorem dX12_step_19 : decode cX12_step 19 = .ok (.ifCond .ne 6, 3) := by decide +kernel
theorem dX12_step_22 : decode cX12_step 22 = .ok (.bipush (-102), 2) := by decide +kernel
theorem dX12_step_24 : decode cX12_step 24 = .ok (.ireturn, 1) := by decide +kernel
theorem dX12_step_25 : decode cX12_step 25 = .ok (.aload_n 0, 1) := by decide +kernel
theorem dX12_step_26 : decode cX12_step 26 = .ok (.getfield 131, 3) := by decide +kernel
theorem dX12_step_29 : decode cX12_step 29 = .ok (.ifCond .ne 6, 3) := by decide +kernel
theorem dX12_step_32 : decode cX12_step 32 = .ok (.bipush (-103), 2) := by decide +kernel
theorem dX12_step_34 : decode cX12_step 34 = .ok (.ireturn, 1) := by decide +kernel
theorem dX12_step_35 : decode cX12_step 35 = .ok (.iconst 0, 1) := by decide +kernel
theorem dX12_step_36 : decode cX12_step 36 = .ok (.istore_n 2, 1) := by decide +kernel
theorem dX12_step_37 : decode cX12_step 37 = .ok (.iconst 1, 1) := by decide +kernel
theorem dX12_step_38 : decode cX12_step 38 = .ok (.istore_n 3, 1) := by decide +kernel
theorem dX12_step_39 : decode cX12_step 39 = .ok (.iload_n 2, 1) := by decide +kernel
theorem dX12_step_40 : decode cX12_step 40 = .ok (.iload_n 1, 1) := by decide +kernel
theorem dX12_step_41 : decode cX12_step 41 = .ok (.if_icmp .ge 74, 3) := by decide +kernel
theorem dX12_step_44 : decode cX12_step 44 = .ok (.aload_n 0, 1) := by decide +kernel
theorem dX12_step_45 : decode cX12_step 45 = .ok (.getfield 131, 3) := by decide +kernel
theorem dX12_step_48 : decode cX12_step 48 = .ok (.ifCond .eq 67, 3) := by decide +kernel
theorem dX12_step_51 : decode cX12_step 51 = .ok (.iload_n 3, 1) := by decide +kernel
theorem dX12_step_52 : decode cX12_step 52 = .ok (.ifCond .eq 63, 3) := by decide +kernel
theorem dX12_step_55 : decode cX12_step 55 = .ok (.aload_n 0, 1) := by decide +kernel
theorem dX12_step_56 : decode cX12_step 56 = .ok (.getfield 131, 3) := by decide +kernel
theorem dX12_step_59 : decode cX12_step 59 = .ok (.iconst 1, 1) := by decide +kernel
theorem dX12_step_60 : decode cX12_step 60 = .ok (.if_icmp .ne 10, 3) := by decide +kernel
theorem dX12_step_63 : decode cX12_step 63 = .ok (.aload_n 0, 1) := by decide +kernel
theorem dX12_step_64 : decode cX12_step 64 = .ok (.invokevirtual 301, 3) := by decide +kernel
theorem dX12_step_67 : decode cX12_step 67 = .ok (.goto 38, 3) := by decide +kernel
theorem dX12_step_70 : decode cX12_step 70 = .ok (.aload_n 0, 1) := by decide +kernel
theorem dX12_step_71 : decode cX12_step 71 = .ok (.getfield 131, 3) := by decide +kernel
theorem dX12_step_74 : decode cX12_step 74 = .ok (.iconst 2, 1) := by decide +kernel
theorem dX12_step_75 : decode cX12_step 75 = .ok (.if_icmp .ne 10, 3) := by decide +kernel
theorem dX12_step_78 : decode cX12_step 78 = .ok (.aload_n 0, 1) := by decide +kernel
theorem dX12_step_79 : decode cX12_step 79 = .ok (.invokevirtual 304, 3) := by decide +kernel
theorem dX12_step_82 : decode cX12_step 82 = .ok (.goto 22, 3) := by decide +kernel
theorem dX12_step_85 : decode cX12_step 85 = .ok (.aload_n 0, 1) := by decide +kernel
theorem dX12_step_86 : decode cX12_step 86 = .ok (.getfield 131, 3) := by decide +kernel
theorem dX12_step_89 : decode cX12_step 89 = .ok (.iconst 3, 1) := by decide +kernel
theorem dX12_step_90 : decode cX12_step 90 = .ok (.if_icmp .ne 10, 3) := by decide +kernel
theorem dX12_step_93 : decode cX12_step 93 = .ok (.aload_n 0, 1) := by decide +kernel
theorem dX12_step_94 : decode cX12_step 94 = .ok (.invokevirtual 307, 3) := by decide +kernel
theorem dX12_step_97 : decode cX12_step 97 = .ok (.goto 7, 3) := by decide +kernel
theorem dX12_step_100 : decode cX12_step 100 = .ok (.aload_n 0, 1) := by decide +kernel
theorem dX12_step_101 : decode cX12_step 101 = .ok (.invokevirtual 310, 3) := by decide +kernel
theorem dX12_step_104 : decode cX12_step 104 = .ok (.istore_n 3, 1) := by decide +kernel
theorem dX12_step_105 : decode cX12_step 105 = .ok (.iinc 2 1, 3) := by decide +kernel
theorem dX12_step_108 : decode cX12_step 108 = .ok (.aload_n 0, 1) := by decide +kernel
theorem dX12_step_109 : decode cX12_step 109 = .ok (.invokevirtual 282, 3) := by decide +kernel
theorem dX12_step_112 : decode cX12_step 112 = .ok (.goto (-73), 3) := by decide +kernel
theorem dX12_step_115 : decode cX12_step 115 = .ok (.iload_n 3, 1) := by decide +kernel
theorem dX12_step_116 : decode cX12_step 116 = .ok (.ifCond .eq 7, 3) := by decide +kernel
theorem dX12_step_119 : decode cX12_step 119 = .ok (.iload_n 2, 1) := by decide +kernel
theorem dX12_step_120 : decode cX12_step 120 = .ok (.goto 5, 3) := by decide +kernel
theorem dX12_step_123 : decode cX12_step 123 = .ok (.bipush (-105), 2) := by decide +kernel
theorem dX12_step_125 : decode cX12_step 125 = .ok (.ireturn, 1) := by decide +kernel
theorem dX12_share_0 : decode cX12_share 0 = .ok (.aload_n 0, 1) := by decide +kernel
theorem dX12_share_1 : decode cX12_share 1 = .ok (.getfield 127, 3) := by decide +kernel
theorem dX12_share_4 : decode cX12_share 4 = .ok (.ifCond .eq 6, 3) := by decide +kernel
theorem dX12_share_7 : decode cX12_share 7 = .ok (.bipush (-106), 2) := by decide +kernel
theorem dX12_share_9 : decode cX12_share 9 = .ok (.ireturn, 1) := by decide +kernel
theorem dX12_share_10 : decode cX12_share 10 = .ok (.iload_n 1, 1) := by decide +kernel
theorem dX12_share_11 : decode cX12_share 11 = .ok (.i2l, 1) := by decide +kernel
theorem dX12_share_12 : decode cX12_share 12 = .ok (.lconst 0, 1) := by decide +kernel
theorem dX12_share_13 : decode cX12_share 13 = .ok (.ldc2_w 235, 3) := by decide +kernel
theorem dX12_share_16 : decode cX12_share 16 = .ok (.invokestatic 144, 3) := by decide +kernel
theorem dX12_share_19 : decode cX12_share 19 = .ok (.ifCond .ne 6, 3) := by decide +kernel
theorem dX12_share_22 : decode cX12_share 22 = .ok (.bipush (-102), 2) := by decide +kernel
theorem dX12_share_24 : decode cX12_share 24 = .ok (.ireturn, 1) := by decide +kernel
theorem dX12_share_25 : decode cX12_share 25 = .ok (.aload_n 0, 1) := by decide +kernel
theorem dX12_share_26 : decode cX12_share 26 = .ok (.getfield 52, 3) := by decide +kernel
theorem dX12_share_29 : decode cX12_share 29 = .ok (.istore_n 2, 1) := by decide +kernel
theorem dX12_share_30 : decode cX12_share 30 = .ok (.aload_n 0, 1) := by decide +kernel
theorem dX12_share_31 : decode cX12_share 31 = .ok (.iload_n 1, 1) := by decide +kernel
theorem dX12_share_32 : decode cX12_share 32 = .ok (.putfield 52, 3) := by decide +kernel
theorem dX12_share_35 : decode cX12_share 35 = .ok (.iload_n 2, 1) := by decide +kernel
theorem dX12_share_36 : decode cX12_share 36 = .ok (.ireturn, 1) := by decide +kernel
theorem dX12_savers_0 : decode cX12_savers 0 = .ok (.iconst 0, 1) := by decide +kernel
theorem dX12_savers_1 : decode cX12_savers 1 = .ok (.istore_n 1, 1) := by decide +kernel
theorem dX12_savers_2 : decode cX12_savers 2 = .ok (.iconst 0, 1) := by decide +kernel
theorem dX12_savers_3 : decode cX12_savers 3 = .ok (.istore_n 2, 1) := by decide +kernel
theorem dX12_savers_4 : decode cX12_savers 4 = .ok (.iload_n 2, 1) := by decide +kernel
theorem dX12_savers_5 : decode cX12_savers 5 = .ok (.iconst 4, 1) := by decide +kernel
theorem dX12_savers_6 : decode cX12_savers 6 = .ok (.if_icmp .ge 26, 3) := by decide +kernel
theorem dX12_savers_9 : decode cX12_savers 9 = .ok (.iload_n 1, 1) := by decide +kernel
theorem dX12_savers_10 : decode cX12_savers 10 = .ok (.aload_n 0, 1) := by decide +kernel
theorem dX12_savers_11 : decode cX12_savers 11 = .ok (.getfield 79, 3) := by decide +kernel
theorem dX12_savers_14 : decode cX12_savers 14 = .ok (.iload_n 2, 1) := by decide +kernel
theorem dX12_savers_15 : decode cX12_savers 15 = .ok (.baload, 1) := by decide +kernel
theorem dX12_savers_16 : decode cX12_savers 16 = .ok (.ifCond .eq 7, 3) := by decide +kernel
theorem dX12_savers_19 : decode cX12_savers 19 = .ok (.iconst 1, 1) := by decide +kernel
theorem dX12_savers_20 : decode cX12_savers 20 = .ok (.goto 4, 3) := by decide +kernel
theorem dX12_savers_23 : decode cX12_savers 23 = .ok (.iconst 0, 1) := by decide +kernel
theorem dX12_savers_24 : decode cX12_savers 24 = .ok (.iadd, 1) := by decide +kernel
theorem dX12_savers_25 : decode cX12_savers 25 = .ok (.istore_n 1, 1) := by decide +kernel
theorem dX12_savers_26 : decode cX12_savers 26 = .ok (.iinc 2 1, 3) := by decide +kernel
theorem dX12_savers_29 : decode cX12_savers 29 = .ok (.goto (-25), 3) := by decide +kernel
theorem dX12_savers_32 : decode cX12_savers 32 = .ok (.iload_n 1, 1) := by decide +kernel
theorem dX12_savers_33 : decode cX12_savers 33 = .ok (.ireturn, 1) := by decide +kernel
theorem dX12_counted_0 : decode cX12_counted 0 = .ok (.iconst 0, 1) := by decide +kernel
theorem dX12_counted_1 : decode cX12_counted 1 = .ok (.istore_n 2, 1) := by decide +kernel
theorem dX12_counted_2 : decode cX12_counted 2 = .ok (.iconst 0, 1) := by decide +kernel
theorem dX12_counted_3 : decode cX12_counted 3 = .ok (.istore_n 3, 1) := by decide +kernel
theorem dX12_counted_4 : decode cX12_counted 4 = .ok (.iload_n 3, 1) := by decide +kernel
theorem dX12_counted_5 : decode cX12_counted 5 = .ok (.aload_n 0, 1) := by decide +kernel
theorem dX12_counted_6 : decode cX12_counted 6 = .ok (.getfield 156, 3) := by decide +kernel
theorem dX12_counted_9 : decode cX12_counted 9 = .ok (.if_icmp .ge 44, 3) := by decide +kernel
theorem dX12_counted_12 : decode cX12_counted 12 = .ok (.iload_n 1, 1) := by decide +kernel
theorem dX12_counted_13 : decode cX12_counted 13 = .ok (.iconst 2, 1) := by decide +kernel
theorem dX12_counted_14 : decode cX12_counted 14 = .ok (.if_icmp .ge 39, 3) := by decide +kernel
theorem dX12_counted_17 : decode cX12_counted 17 = .ok (.iload_n 2, 1) := by decide +kernel
theorem dX12_counted_18 : decode cX12_counted 18 = .ok (.aload_n 0, 1) := by decide +kernel
theorem dX12_counted_19 : decode cX12_counted 19 = .ok (.getfield 33, 3) := by decide +kernel
theorem dX12_counted_22 : decode cX12_counted 22 = .ok (.iload_n 3, 1) := by decide +kernel
theorem dX12_counted_23 : decode cX12_counted 23 = .ok (.baload, 1) := by decide +kernel
theorem dX12_counted_24 : decode cX12_counted 24 = .ok (.ifCond .eq 20, 3) := by decide +kernel
theorem dX12_counted_27 : decode cX12_counted 27 = .ok (.iload_n 1, 1) := by decide +kernel
theorem dX12_counted_28 : decode cX12_counted 28 = .ok (.ifCond .eq 12, 3) := by decide +kernel
theorem dX12_counted_31 : decode cX12_counted 31 = .ok (.aload_n 0, 1) := by decide +kernel
theorem dX12_counted_32 : decode cX12_counted 32 = .ok (.getfield 43, 3) := by decide +kernel
theorem dX12_counted_35 : decode cX12_counted 35 = .ok (.iload_n 3, 1) := by decide +kernel
theorem dX12_counted_36 : decode cX12_counted 36 = .ok (.iaload, 1) := by decide +kernel
theorem dX12_counted_37 : decode cX12_counted 37 = .ok (.ifCond .le 7, 3) := by decide +kernel
theorem dX12_counted_40 : decode cX12_counted 40 = .ok (.iconst 1, 1) := by decide +kernel
theorem dX12_counted_41 : decode cX12_counted 41 = .ok (.goto 4, 3) := by decide +kernel
theorem dX12_counted_44 : decode cX12_counted 44 = .ok (.iconst 0, 1) := by decide +kernel
theorem dX12_counted_45 : decode cX12_counted 45 = .ok (.iadd, 1) := by decide +kernel
theorem dX12_counted_46 : decode cX12_counted 46 = .ok (.istore_n 2, 1) := by decide +kernel
theorem dX12_counted_47 : decode cX12_counted 47 = .ok (.iinc 3 1, 3) := by decide +kernel
theorem dX12_counted_50 : decode cX12_counted 50 = .ok (.goto (-46), 3) := by decide +kernel
theorem dX12_counted_53 : decode cX12_counted 53 = .ok (.iconst 0, 1) := by decide +kernel
theorem dX12_counted_54 : decode cX12_counted 54 = .ok (.istore_n 3, 1) := by decide +kernel
theorem dX12_counted_55 : decode cX12_counted 55 = .ok (.iload_n 3, 1) := by decide +kernel
theorem dX12_counted_56 : decode cX12_counted 56 = .ok (.aload_n 0, 1) := by decide +kernel
theorem dX12_counted_57 : decode cX12_counted 57 = .ok (.getfield 178, 3) := by decide +kernel
theorem dX12_counted_60 : decode cX12_counted 60 = .ok (.if_icmp .ge 31, 3) := by decide +kernel
theorem dX12_counted_63 : decode cX12_counted 63 = .ok (.iload_n 1, 1) := by decide +kernel
theorem dX12_counted_64 : decode cX12_counted 64 = .ok (.iconst 2, 1) := by decide +kernel
theorem dX12_counted_65 : decode cX12_counted 65 = .ok (.if_icmp .ne 26, 3) := by decide +kernel
theorem dX12_counted_68 : decode cX12_counted 68 = .ok (.iload_n 2, 1) := by decide +kernel
theorem dX12_counted_69 : decode cX12_counted 69 = .ok (.aload_n 0, 1) := by decide +kernel
theorem dX12_counted_70 : decode cX12_counted 70 = .ok (.getfield 46, 3) := by decide +kernel
theorem dX12_counted_73 : decode cX12_counted 73 = .ok (.iload_n 3, 1) := by decide +kernel
theorem dX12_counted_74 : decode cX12_counted 74 = .ok (.baload, 1) := by decide +kernel
theorem dX12_counted_75 : decode cX12_counted 75 = .ok (.ifCond .eq 7, 3) := by decide +kernel
theorem dX12_counted_78 : decode cX12_counted 78 = .ok (.iconst 0, 1) := by decide +kernel
theorem dX12_counted_79 : decode cX12_counted 79 = .ok (.goto 4, 3) := by decide +kernel
theorem dX12_counted_82 : decode cX12_counted 82 = .ok (.iconst 1, 1) := by decide +kernel
theorem dX12_counted_83 : decode cX12_counted 83 = .ok (.iadd, 1) := by decide +kernel
theorem dX12_counted_84 : decode cX12_counted 84 = .ok (.istore_n 2, 1) := by decide +kernel
theorem dX12_counted_85 : decode cX12_counted 85 = .ok (.iinc 3 1, 3) := by decide +kernel
theorem dX12_counted_88 : decode cX12_counted 88 = .ok (.goto (-33), 3) := by decide +kernel
theorem dX12_counted_91 : decode cX12_counted 91 = .ok (.iload_n 2, 1) := by decide +kernel
theorem dX12_counted_92 : decode cX12_counted 92 = .ok (.ireturn, 1) := by decide +kernel
theorem dX12_count_0 : decode cX12_count 0 = .ok (.iload_n 1, 1) := by decide +kernel
theorem dX12_count_1 : decode cX12_count 1 = .ok (.tableswitch 152 0 13 #[71, 76, 82, 88, 93, 98, 104, 109, 114, 119, 124, 129, 134, 139], 71) := by decide +kernel
theorem dX12_count_72 : decode cX12_count 72 = .ok (.aload_n 0, 1) := by decide +kernel
theorem dX12_count_73 : decode cX12_count 73 = .ok (.getfield 156, 3) := by decide +kernel
theorem dX12_count_76 : decode cX12_count 76 = .ok (.ireturn, 1) := by decide +kernel
theorem dX12_count_77 : decode cX12_count 77 = .ok (.aload_n 0, 1) := by decide +kernel
theorem dX12_count_78 : decode cX12_count 78 = .ok (.iconst 0, 1) := by decide +kernel
theorem dX12_count_79 : decode cX12_count 79 = .ok (.invokevirtual 313, 3) := by decide +kernel
theorem dX12_count_82 : decode cX12_count 82 = .ok (.ireturn, 1) := by decide +kernel
theorem dX12_count_83 : decode cX12_count 83 = .ok (.aload_n 0, 1) := by decide +kernel
theorem dX12_count_84 : decode cX12_count 84 = .ok (.iconst 1, 1) := by decide +kernel
theorem dX12_count_85 : decode cX12_count 85 = .ok (.invokevirtual 313, 3) := by decide +kernel
theorem dX12_count_88 : decode cX12_count 88 = .ok (.ireturn, 1) := by decide +kernel
theorem dX12_count_89 : decode cX12_count 89 = .ok (.aload_n 0, 1) := by decide +kernel
theorem dX12_count_90 : decode cX12_count 90 = .ok (.invokevirtual 221, 3) := by decide +kernel
theorem dX12_count_93 : decode cX12_count 93 = .ok (.ireturn, 1) := by decide +kernel
theorem dX12_count_94 : decode cX12_count 94 = .ok (.aload_n 0, 1) := by decide +kernel
theorem dX12_count_95 : decode cX12_count 95 = .ok (.getfield 178, 3) := by decide +kernel
theorem dX12_count_98 : decode cX12_count 98 = .ok (.ireturn, 1) := by decide +kernel
theorem dX12_count_99 : decode cX12_count 99 = .ok (.aload_n 0, 1) := by decide +kernel
theorem dX12_count_100 : decode cX12_count 100 = .ok (.iconst 2, 1) := by decide +kernel
theorem dX12_count_101 : decode cX12_count 101 = .ok (.invokevirtual 313, 3) := by decide +kernel
theorem dX12_count_104 : decode cX12_count 104 = .ok (.ireturn, 1) := by decide +kernel
theorem dX12_count_105 : decode cX12_count 105 = .ok (.aload_n 0, 1) := by decide +kernel
theorem dX12_count_106 : decode cX12_count 106 = .ok (.invokevirtual 316, 3) := by decide +kernel
theorem dX12_count_109 : decode cX12_count 109 = .ok (.ireturn, 1) := by decide +kernel
theorem dX12_count_110 : decode cX12_count 110 = .ok (.aload_n 0, 1) := by decide +kernel
theorem dX12_count_111 : decode cX12_count 111 = .ok (.getfield 276, 3) := by decide +kernel
theorem dX12_count_114 : decode cX12_count 114 = .ok (.ireturn, 1) := by decide +kernel
theorem dX12_count_115 : decode cX12_count 115 = .ok (.aload_n 0, 1) := by decide +kernel
theorem dX12_count_116 : decode cX12_count 116 = .ok (.getfield 134, 3) := by decide +kernel
theorem dX12_count_119 : decode cX12_count 119 = .ok (.ireturn, 1) := by decide +kernel
theorem dX12_count_120 : decode cX12_count 120 = .ok (.aload_n 0, 1) := by decide +kernel
theorem dX12_count_121 : decode cX12_count 121 = .ok (.getfield 212, 3) := by decide +kernel
theorem dX12_count_124 : decode cX12_count 124 = .ok (.ireturn, 1) := by decide +kernel
theorem dX12_count_125 : decode cX12_count 125 = .ok (.aload_n 0, 1) := by decide +kernel
theorem dX12_count_126 : decode cX12_count 126 = .ok (.getfield 285, 3) := by decide +kernel
theorem dX12_count_129 : decode cX12_count 129 = .ok (.ireturn, 1) := by decide +kernel
theorem dX12_count_130 : decode cX12_count 130 = .ok (.aload_n 0, 1) := by decide +kernel
theorem dX12_count_131 : decode cX12_count 131 = .ok (.getfield 298, 3) := by decide +kernel
theorem dX12_count_134 : decode cX12_count 134 = .ok (.ireturn, 1) := by decide +kernel
theorem dX12_count_135 : decode cX12_count 135 = .ok (.aload_n 0, 1) := by decide +kernel
theorem dX12_count_136 : decode cX12_count 136 = .ok (.getfield 137, 3) := by decide +kernel
theorem dX12_count_139 : decode cX12_count 139 = .ok (.ireturn, 1) := by decide +kernel
theorem dX12_count_140 : decode cX12_count 140 = .ok (.aload_n 0, 1) := by decide +kernel
theorem dX12_count_141 : decode cX12_count 141 = .ok (.getfield 127, 3) := by decide +kernel
theorem dX12_count_144 : decode cX12_count 144 = .ok (.ifCond .eq 7, 3) := by decide +kernel
theorem dX12_count_147 : decode cX12_count 147 = .ok (.iconst 1, 1) := by decide +kernel
theorem dX12_count_148 : decode cX12_count 148 = .ok (.goto 4, 3) := by decide +kernel
theorem dX12_count_151 : decode cX12_count 151 = .ok (.iconst 0, 1) := by decide +kernel
theorem dX12_count_152 : decode cX12_count 152 = .ok (.ireturn, 1) := by decide +kernel
theorem dX12_count_153 : decode cX12_count 153 = .ok (.bipush (-102), 2) := by decide +kernel
theorem dX12_count_155 : decode cX12_count 155 = .ok (.ireturn, 1) := by decide +kernel
theorem dX12_usersOf_0 : decode cX12_usersOf 0 = .ok (.iconst 0, 1) := by decide +kernel
theorem dX12_usersOf_1 : decode cX12_usersOf 1 = .ok (.istore_n 2, 1) := by decide +kernel
theorem dX12_usersOf_2 : decode cX12_usersOf 2 = .ok (.iconst 0, 1) := by decide +kernel
theorem dX12_usersOf_3 : decode cX12_usersOf 3 = .ok (.istore_n 3, 1) := by decide +kernel
theorem dX12_usersOf_4 : decode cX12_usersOf 4 = .ok (.iload_n 3, 1) := by decide +kernel
theorem dX12_usersOf_5 : decode cX12_usersOf 5 = .ok (.iconst 4, 1) := by decide +kernel
theorem dX12_usersOf_6 : decode cX12_usersOf 6 = .ok (.if_icmp .ge 35, 3) := by decide +kernel
theorem dX12_usersOf_9 : decode cX12_usersOf 9 = .ok (.iload_n 2, 1) := by decide +kernel
theorem dX12_usersOf_10 : decode cX12_usersOf 10 = .ok (.aload_n 0, 1) := by decide +kernel
theorem dX12_usersOf_11 : decode cX12_usersOf 11 = .ok (.getfield 79, 3) := by decide +kernel
theorem dX12_usersOf_14 : decode cX12_usersOf 14 = .ok (.iload_n 3, 1) := by decide +kernel
theorem dX12_usersOf_15 : decode cX12_usersOf 15 = .ok (.baload, 1) := by decide +kernel
theorem dX12_usersOf_16 : decode cX12_usersOf 16 = .ok (.ifCond .eq 16, 3) := by decide +kernel
theorem dX12_usersOf_19 : decode cX12_usersOf 19 = .ok (.aload_n 0, 1) := by decide +kernel
theorem dX12_usersOf_20 : decode cX12_usersOf 20 = .ok (.iload_n 3, 1) := by decide +kernel
theorem dX12_usersOf_21 : decode cX12_usersOf 21 = .ok (.iload_n 1, 1) := by decide +kernel
theorem dX12_usersOf_22 : decode cX12_usersOf 22 = .ok (.invokevirtual 174, 3) := by decide +kernel
theorem dX12_usersOf_25 : decode cX12_usersOf 25 = .ok (.ifCond .eq 7, 3) := by decide +kernel
theorem dX12_usersOf_28 : decode cX12_usersOf 28 = .ok (.iconst 1, 1) := by decide +kernel
theorem dX12_usersOf_29 : decode cX12_usersOf 29 = .ok (.goto 4, 3) := by decide +kernel
theorem dX12_usersOf_32 : decode cX12_usersOf 32 = .ok (.iconst 0, 1) := by decide +kernel
theorem dX12_usersOf_33 : decode cX12_usersOf 33 = .ok (.iadd, 1) := by decide +kernel
theorem dX12_usersOf_34 : decode cX12_usersOf 34 = .ok (.istore_n 2, 1) := by decide +kernel
theorem dX12_usersOf_35 : decode cX12_usersOf 35 = .ok (.iinc 3 1, 3) := by decide +kernel
theorem dX12_usersOf_38 : decode cX12_usersOf 38 = .ok (.goto (-34), 3) := by decide +kernel
theorem dX12_usersOf_41 : decode cX12_usersOf 41 = .ok (.iload_n 2, 1) := by decide +kernel
theorem dX12_usersOf_42 : decode cX12_usersOf 42 = .ok (.ireturn, 1) := by decide +kernel
theorem dX12_block_0 : decode cX12_block 0 = .ok (.iload_n 1, 1) := by decide +kernel
theorem dX12_block_1 : decode cX12_block 1 = .ok (.i2l, 1) := by decide +kernel
theorem dX12_block_2 : decode cX12_block 2 = .ok (.lconst 0, 1) := by decide +kernel
theorem dX12_block_3 : decode cX12_block 3 = .ok (.aload_n 0, 1) := by decide +kernel
theorem dX12_block_4 : decode cX12_block 4 = .ok (.getfield 156, 3) := by decide +kernel
theorem dX12_block_7 : decode cX12_block 7 = .ok (.iconst 1, 1) := by decide +kernel
theorem dX12_block_8 : decode cX12_block 8 = .ok (.isub, 1) := by decide +kernel
theorem dX12_block_9 : decode cX12_block 9 = .ok (.i2l, 1) := by decide +kernel
theorem dX12_block_10 : decode cX12_block 10 = .ok (.invokestatic 144, 3) := by decide +kernel
theorem dX12_block_13 : decode cX12_block 13 = .ok (.ifCond .ne 6, 3) := by decide +kernel
theorem dX12_block_16 : decode cX12_block 16 = .ok (.bipush (-101), 2) := by decide +kernel
theorem dX12_block_18 : decode cX12_block 18 = .ok (.ireturn, 1) := by decide +kernel
theorem dX12_block_19 : decode cX12_block 19 = .ok (.iload_n 2, 1) := by decide +kernel
theorem dX12_block_20 : decode cX12_block 20 = .ok (.tableswitch 139 0 7 #[48, 63, 70, 77, 84, 104, 126, 132], 48) := by decide +kernel
theorem dX12_block_68 : decode cX12_block 68 = .ok (.aload_n 0, 1) := by decide +kernel
theorem dX12_block_69 : decode cX12_block 69 = .ok (.getfield 33, 3) := by decide +kernel
theorem dX12_block_72 : decode cX12_block 72 = .ok (.iload_n 1, 1) := by decide +kernel
theorem dX12_block_73 : decode cX12_block 73 = .ok (.baload, 1) := by decide +kernel
theorem dX12_block_74 : decode cX12_block 74 = .ok (.ifCond .eq 7, 3) := by decide +kernel
theorem dX12_block_77 : decode cX12_block 77 = .ok (.iconst 1, 1) := by decide +kernel
theorem dX12_block_78 : decode cX12_block 78 = .ok (.goto 4, 3) := by decide +kernel
theorem dX12_block_81 : decode cX12_block 81 = .ok (.iconst 0, 1) := by decide +kernel
theorem dX12_block_82 : decode cX12_block 82 = .ok (.ireturn, 1) := by decide +kernel
theorem dX12_block_83 : decode cX12_block 83 = .ok (.aload_n 0, 1) := by decide +kernel
theorem dX12_block_84 : decode cX12_block 84 = .ok (.getfield 23, 3) := by decide +kernel
theorem dX12_block_87 : decode cX12_block 87 = .ok (.iload_n 1, 1) := by decide +kernel
theorem dX12_block_88 : decode cX12_block 88 = .ok (.iaload, 1) := by decide +kernel
theorem dX12_block_89 : decode cX12_block 89 = .ok (.ireturn, 1) := by decide +kernel
theorem dX12_block_90 : decode cX12_block 90 = .ok (.aload_n 0, 1) := by decide +kernel
theorem dX12_block_91 : decode cX12_block 91 = .ok (.getfield 37, 3) := by decide +kernel
theorem dX12_block_94 : decode cX12_block 94 = .ok (.iload_n 1, 1) := by decide +kernel
theorem dX12_block_95 : decode cX12_block 95 = .ok (.iaload, 1) := by decide +kernel
theorem dX12_block_96 : decode cX12_block 96 = .ok (.ireturn, 1) := by decide +kernel
theorem dX12_block_97 : decode cX12_block 97 = .ok (.aload_n 0, 1) := by decide +kernel
theorem dX12_block_98 : decode cX12_block 98 = .ok (.getfield 40, 3) := by decide +kernel
theorem dX12_block_101 : decode cX12_block 101 = .ok (.iload_n 1, 1) := by decide +kernel
theorem dX12_block_102 : decode cX12_block 102 = .ok (.iaload, 1) := by decide +kernel
theorem dX12_block_103 : decode cX12_block 103 = .ok (.ireturn, 1) := by decide +kernel
theorem dX12_block_104 : decode cX12_block 104 = .ok (.aload_n 0, 1) := by decide +kernel
theorem dX12_block_105 : decode cX12_block 105 = .ok (.getfield 33, 3) := by decide +kernel
theorem dX12_block_108 : decode cX12_block 108 = .ok (.iload_n 1, 1) := by decide +kernel
theorem dX12_block_109 : decode cX12_block 109 = .ok (.baload, 1) := by decide +kernel
theorem dX12_block_110 : decode cX12_block 110 = .ok (.ifCond .eq 12, 3) := by decide +kernel
theorem dX12_block_113 : decode cX12_block 113 = .ok (.aload_n 0, 1) := by decide +kernel
theorem dX12_block_114 : decode cX12_block 114 = .ok (.getfield 43, 3) := by decide +kernel
theorem dX12_block_117 : decode cX12_block 117 = .ok (.iload_n 1, 1) := by decide +kernel
theorem dX12_block_118 : decode cX12_block 118 = .ok (.iaload, 1) := by decide +kernel
theorem dX12_block_119 : decode cX12_block 119 = .ok (.goto 4, 3) := by decide +kernel
theorem dX12_block_122 : decode cX12_block 122 = .ok (.iconst 0, 1) := by decide +kernel
theorem dX12_block_123 : decode cX12_block 123 = .ok (.ireturn, 1) := by decide +kernel
theorem dX12_block_124 : decode cX12_block 124 = .ok (.aload_n 0, 1) := by decide +kernel
theorem dX12_block_125 : decode cX12_block 125 = .ok (.getfield 131, 3) := by decide +kernel
theorem dX12_block_128 : decode cX12_block 128 = .ok (.ifCond .eq 16, 3) := by decide +kernel
theorem dX12_block_131 : decode cX12_block 131 = .ok (.aload_n 0, 1) := by decide +kernel
theorem dX12_block_132 : decode cX12_block 132 = .ok (.getfield 103, 3) := by decide +kernel
theorem dX12_block_135 : decode cX12_block 135 = .ok (.iload_n 1, 1) := by decide +kernel
theorem dX12_block_136 : decode cX12_block 136 = .ok (.baload, 1) := by decide +kernel
theorem dX12_block_137 : decode cX12_block 137 = .ok (.ifCond .eq 7, 3) := by decide +kernel
theorem dX12_block_140 : decode cX12_block 140 = .ok (.iconst 1, 1) := by decide +kernel
theorem dX12_block_141 : decode cX12_block 141 = .ok (.goto 4, 3) := by decide +kernel
theorem dX12_block_144 : decode cX12_block 144 = .ok (.iconst 0, 1) := by decide +kernel
theorem dX12_block_145 : decode cX12_block 145 = .ok (.ireturn, 1) := by decide +kernel
theorem dX12_block_146 : decode cX12_block 146 = .ok (.aload_n 0, 1) := by decide +kernel
theorem dX12_block_147 : decode cX12_block 147 = .ok (.iload_n 1, 1) := by decide +kernel
theorem dX12_block_148 : decode cX12_block 148 = .ok (.invokevirtual 319, 3) := by decide +kernel
theorem dX12_block_151 : decode cX12_block 151 = .ok (.ireturn, 1) := by decide +kernel
theorem dX12_block_152 : decode cX12_block 152 = .ok (.aload_n 0, 1) := by decide +kernel
theorem dX12_block_153 : decode cX12_block 153 = .ok (.getfield 27, 3) := by decide +kernel
theorem dX12_block_156 : decode cX12_block 156 = .ok (.iload_n 1, 1) := by decide +kernel
theorem dX12_block_157 : decode cX12_block 157 = .ok (.iaload, 1) := by decide +kernel
theorem dX12_block_158 : decode cX12_block 158 = .ok (.ireturn, 1) := by decide +kernel
theorem dX12_block_159 : decode cX12_block 159 = .ok (.iload_n 2, 1) := by decide +kernel
theorem dX12_block_160 : decode cX12_block 160 = .ok (.i2l, 1) := by decide +kernel
theorem dX12_block_161 : decode cX12_block 161 = .ok (.ldc2_w 322, 3) := by decide +kernel
theorem dX12_block_164 : decode cX12_block 164 = .ok (.ldc2_w 324, 3) := by decide +kernel
theorem dX12_block_167 : decode cX12_block 167 = .ok (.invokestatic 144, 3) := by decide +kernel
theorem dX12_block_170 : decode cX12_block 170 = .ok (.ifCond .ne 8, 3) := by decide +kernel
theorem dX12_block_173 : decode cX12_block 173 = .ok (.bipush (-102), 2) := by decide +kernel
theorem dX12_block_175 : decode cX12_block 175 = .ok (.goto 33, 3) := by decide +kernel
theorem dX12_block_178 : decode cX12_block 178 = .ok (.iload_n 2, 1) := by decide +kernel
theorem dX12_block_179 : decode cX12_block 179 = .ok (.bipush 8, 2) := by decide +kernel
theorem dX12_block_181 : decode cX12_block 181 = .ok (.isub, 1) := by decide +kernel
theorem dX12_block_182 : decode cX12_block 182 = .ok (.aload_n 0, 1) := by decide +kernel
theorem dX12_block_183 : decode cX12_block 183 = .ok (.getfield 27, 3) := by decide +kernel
theorem dX12_block_186 : decode cX12_block 186 = .ok (.iload_n 1, 1) := by decide +kernel
theorem dX12_block_187 : decode cX12_block 187 = .ok (.iaload, 1) := by decide +kernel
theorem dX12_block_188 : decode cX12_block 188 = .ok (.if_icmp .ge 19, 3) := by decide +kernel
theorem dX12_block_191 : decode cX12_block 191 = .ok (.aload_n 0, 1) := by decide +kernel
theorem dX12_block_192 : decode cX12_block 192 = .ok (.getfield 30, 3) := by decide +kernel
theorem dX12_block_195 : decode cX12_block 195 = .ok (.iconst 4, 1) := by decide +kernel
theorem dX12_block_196 : decode cX12_block 196 = .ok (.iload_n 1, 1) := by decide +kernel
theorem dX12_block_197 : decode cX12_block 197 = .ok (.imul, 1) := by decide +kernel
theorem dX12_block_198 : decode cX12_block 198 = .ok (.iload_n 2, 1) := by decide +kernel
theorem dX12_block_199 : decode cX12_block 199 = .ok (.iadd, 1) := by decide +kernel
theorem dX12_block_200 : decode cX12_block 200 = .ok (.bipush 8, 2) := by decide +kernel
theorem dX12_block_202 : decode cX12_block 202 = .ok (.isub, 1) := by decide +kernel
theorem dX12_block_203 : decode cX12_block 203 = .ok (.iaload, 1) := by decide +kernel
theorem dX12_block_204 : decode cX12_block 204 = .ok (.goto 4, 3) := by decide +kernel
theorem dX12_block_207 : decode cX12_block 207 = .ok (.iconst (-1), 1) := by decide +kernel
theorem dX12_block_208 : decode cX12_block 208 = .ok (.ireturn, 1) := by decide +kernel
theorem dX12_key_0 : decode cX12_key 0 = .ok (.iload_n 1, 1) := by decide +kernel
theorem dX12_key_1 : decode cX12_key 1 = .ok (.i2l, 1) := by decide +kernel
theorem dX12_key_2 : decode cX12_key 2 = .ok (.lconst 0, 1) := by decide +kernel
theorem dX12_key_3 : decode cX12_key 3 = .ok (.aload_n 0, 1) := by decide +kernel
theorem dX12_key_4 : decode cX12_key 4 = .ok (.getfield 156, 3) := by decide +kernel
theorem dX12_key_7 : decode cX12_key 7 = .ok (.iconst 1, 1) := by decide +kernel
theorem dX12_key_8 : decode cX12_key 8 = .ok (.isub, 1) := by decide +kernel
theorem dX12_key_9 : decode cX12_key 9 = .ok (.i2l, 1) := by decide +kernel
theorem dX12_key_10 : decode cX12_key 10 = .ok (.invokestatic 144, 3) := by decide +kernel
theorem dX12_key_13 : decode cX12_key 13 = .ok (.ifCond .eq 12, 3) := by decide +kernel
theorem dX12_key_16 : decode cX12_key 16 = .ok (.aload_n 0, 1) := by decide +kernel
theorem dX12_key_17 : decode cX12_key 17 = .ok (.getfield 19, 3) := by decide +kernel
theorem dX12_key_20 : decode cX12_key 20 = .ok (.iload_n 1, 1) := by decide +kernel
theorem dX12_key_21 : decode cX12_key 21 = .ok (.laload, 1) := by decide +kernel
theorem dX12_key_22 : decode cX12_key 22 = .ok (.goto 4, 3) := by decide +kernel
theorem dX12_key_25 : decode cX12_key 25 = .ok (.lconst 0, 1) := by decide +kernel
theorem dX12_key_26 : decode cX12_key 26 = .ok (.lreturn, 1) := by decide +kernel
theorem dX12_pack_0 : decode cX12_pack 0 = .ok (.iload_n 1, 1) := by decide +kernel
theorem dX12_pack_1 : decode cX12_pack 1 = .ok (.i2l, 1) := by decide +kernel
theorem dX12_pack_2 : decode cX12_pack 2 = .ok (.lconst 0, 1) := by decide +kernel
theorem dX12_pack_3 : decode cX12_pack 3 = .ok (.aload_n 0, 1) := by decide +kernel
theorem dX12_pack_4 : decode cX12_pack 4 = .ok (.getfield 178, 3) := by decide +kernel
theorem dX12_pack_7 : decode cX12_pack 7 = .ok (.iconst 1, 1) := by decide +kernel
theorem dX12_pack_8 : decode cX12_pack 8 = .ok (.isub, 1) := by decide +kernel
theorem dX12_pack_9 : decode cX12_pack 9 = .ok (.i2l, 1) := by decide +kernel
theorem dX12_pack_10 : decode cX12_pack 10 = .ok (.invokestatic 144, 3) := by decide +kernel
theorem dX12_pack_13 : decode cX12_pack 13 = .ok (.ifCond .ne 6, 3) := by decide +kernel
theorem dX12_pack_16 : decode cX12_pack 16 = .ok (.bipush (-101), 2) := by decide +kernel
theorem dX12_pack_18 : decode cX12_pack 18 = .ok (.ireturn, 1) := by decide +kernel
theorem dX12_pack_19 : decode cX12_pack 19 = .ok (.iload_n 2, 1) := by decide +kernel
theorem dX12_pack_20 : decode cX12_pack 20 = .ok (.tableswitch 99 0 3 #[32, 47, 67, 93], 32) := by decide +kernel
theorem dX12_pack_52 : decode cX12_pack 52 = .ok (.aload_n 0, 1) := by decide +kernel
theorem dX12_pack_53 : decode cX12_pack 53 = .ok (.getfield 46, 3) := by decide +kernel
theorem dX12_pack_56 : decode cX12_pack 56 = .ok (.iload_n 1, 1) := by decide +kernel
theorem dX12_pack_57 : decode cX12_pack 57 = .ok (.baload, 1) := by decide +kernel
theorem dX12_pack_58 : decode cX12_pack 58 = .ok (.ifCond .eq 7, 3) := by decide +kernel
theorem dX12_pack_61 : decode cX12_pack 61 = .ok (.iconst 0, 1) := by decide +kernel
theorem dX12_pack_62 : decode cX12_pack 62 = .ok (.goto 4, 3) := by decide +kernel
theorem dX12_pack_65 : decode cX12_pack 65 = .ok (.iconst 1, 1) := by decide +kernel
theorem dX12_pack_66 : decode cX12_pack 66 = .ok (.ireturn, 1) := by decide +kernel
theorem dX12_pack_67 : decode cX12_pack 67 = .ok (.aload_n 0, 1) := by decide +kernel
theorem dX12_pack_68 : decode cX12_pack 68 = .ok (.getfield 46, 3) := by decide +kernel
theorem dX12_pack_71 : decode cX12_pack 71 = .ok (.iload_n 1, 1) := by decide +kernel
theorem dX12_pack_72 : decode cX12_pack 72 = .ok (.baload, 1) := by decide +kernel
theorem dX12_pack_73 : decode cX12_pack 73 = .ok (.ifCond .eq 7, 3) := by decide +kernel
theorem dX12_pack_76 : decode cX12_pack 76 = .ok (.iconst 0, 1) := by decide +kernel
theorem dX12_pack_77 : decode cX12_pack 77 = .ok (.goto 9, 3) := by decide +kernel
theorem dX12_pack_80 : decode cX12_pack 80 = .ok (.aload_n 0, 1) := by decide +kernel
theorem dX12_pack_81 : decode cX12_pack 81 = .ok (.getfield 49, 3) := by decide +kernel
theorem dX12_pack_84 : decode cX12_pack 84 = .ok (.iload_n 1, 1) := by decide +kernel
theorem dX12_pack_85 : decode cX12_pack 85 = .ok (.iaload, 1) := by decide +kernel
theorem dX12_pack_86 : decode cX12_pack 86 = .ok (.ireturn, 1) := by decide +kernel
theorem dX12_pack_87 : decode cX12_pack 87 = .ok (.aload_n 0, 1) := by decide +kernel
theorem dX12_pack_88 : decode cX12_pack 88 = .ok (.getfield 46, 3) := by decide +kernel
theorem dX12_pack_91 : decode cX12_pack 91 = .ok (.iload_n 1, 1) := by decide +kernel
theorem dX12_pack_92 : decode cX12_pack 92 = .ok (.baload, 1) := by decide +kernel
theorem dX12_pack_93 : decode cX12_pack 93 = .ok (.ifCond .eq 7, 3) := by decide +kernel
theorem dX12_pack_96 : decode cX12_pack 96 = .ok (.iconst 0, 1) := by decide +kernel
theorem dX12_pack_97 : decode cX12_pack 97 = .ok (.goto 15, 3) := by decide +kernel
theorem dX12_pack_100 : decode cX12_pack 100 = .ok (.aload_n 0, 1) := by decide +kernel
theorem dX12_pack_101 : decode cX12_pack 101 = .ok (.getfield 49, 3) := by decide +kernel
theorem dX12_pack_104 : decode cX12_pack 104 = .ok (.iload_n 1, 1) := by decide +kernel
theorem dX12_pack_105 : decode cX12_pack 105 = .ok (.iaload, 1) := by decide +kernel
theorem dX12_pack_106 : decode cX12_pack 106 = .ok (.aload_n 0, 1) := by decide +kernel
theorem dX12_pack_107 : decode cX12_pack 107 = .ok (.iload_n 1, 1) := by decide +kernel
theorem dX12_pack_108 : decode cX12_pack 108 = .ok (.invokevirtual 288, 3) := by decide +kernel
theorem dX12_pack_111 : decode cX12_pack 111 = .ok (.isub, 1) := by decide +kernel
theorem dX12_pack_112 : decode cX12_pack 112 = .ok (.ireturn, 1) := by decide +kernel
theorem dX12_pack_113 : decode cX12_pack 113 = .ok (.aload_n 0, 1) := by decide +kernel
theorem dX12_pack_114 : decode cX12_pack 114 = .ok (.iload_n 1, 1) := by decide +kernel
theorem dX12_pack_115 : decode cX12_pack 115 = .ok (.invokevirtual 291, 3) := by decide +kernel
theorem dX12_pack_118 : decode cX12_pack 118 = .ok (.ireturn, 1) := by decide +kernel
theorem dX12_pack_119 : decode cX12_pack 119 = .ok (.bipush (-102), 2) := by decide +kernel
theorem dX12_pack_121 : decode cX12_pack 121 = .ok (.ireturn, 1) := by decide +kernel
theorem dX12_snapshot_0 : decode cX12_snapshot 0 = .ok (.aload_n 0, 1) := by decide +kernel
theorem dX12_snapshot_1 : decode cX12_snapshot 1 = .ok (.iload_n 1, 1) := by decide +kernel
theorem dX12_snapshot_2 : decode cX12_snapshot 2 = .ok (.invokevirtual 225, 3) := by decide +kernel
theorem dX12_snapshot_5 : decode cX12_snapshot 5 = .ok (.ifCond .ne 6, 3) := by decide +kernel
theorem dX12_snapshot_8 : decode cX12_snapshot 8 = .ok (.bipush (-101), 2) := by decide +kernel
theorem dX12_snapshot_10 : decode cX12_snapshot 10 = .ok (.ireturn, 1) := by decide +kernel
theorem dX12_snapshot_11 : decode cX12_snapshot 11 = .ok (.iload_n 2, 1) := by decide +kernel
theorem dX12_snapshot_12 : decode cX12_snapshot 12 = .ok (.i2l, 1) := by decide +kernel
theorem dX12_snapshot_13 : decode cX12_snapshot 13 = .ok (.lconst 0, 1) := by decide +kernel
theorem dX12_snapshot_14 : decode cX12_snapshot 14 = .ok (.iconst 1, 1) := by decide +kernel
theorem dX12_snapshot_15 : decode cX12_snapshot 15 = .ok (.aload_n 0, 1) := by decide +kernel
theorem dX12_snapshot_16 : decode cX12_snapshot 16 = .ok (.getfield 64, 3) := by decide +kernel
theorem dX12_snapshot_19 : decode cX12_snapshot 19 = .ok (.iload_n 1, 1) := by decide +kernel
theorem dX12_snapshot_20 : decode cX12_snapshot 20 = .ok (.iaload, 1) := by decide +kernel
theorem dX12_snapshot_21 : decode cX12_snapshot 21 = .ok (.iadd, 1) := by decide +kernel
theorem dX12_snapshot_22 : decode cX12_snapshot 22 = .ok (.i2l, 1) := by decide +kernel
theorem dX12_snapshot_23 : decode cX12_snapshot 23 = .ok (.invokestatic 144, 3) := by decide +kernel
theorem dX12_snapshot_26 : decode cX12_snapshot 26 = .ok (.ifCond .ne 6, 3) := by decide +kernel
theorem dX12_snapshot_29 : decode cX12_snapshot 29 = .ok (.bipush (-102), 2) := by decide +kernel
theorem dX12_snapshot_31 : decode cX12_snapshot 31 = .ok (.ireturn, 1) := by decide +kernel
theorem dX12_snapshot_32 : decode cX12_snapshot 32 = .ok (.iload_n 2, 1) := by decide +kernel
theorem dX12_snapshot_33 : decode cX12_snapshot 33 = .ok (.ifCond .ne 12, 3) := by decide +kernel
theorem dX12_snapshot_36 : decode cX12_snapshot 36 = .ok (.aload_n 0, 1) := by decide +kernel
theorem dX12_snapshot_37 : decode cX12_snapshot 37 = .ok (.getfield 61, 3) := by decide +kernel
theorem dX12_snapshot_40 : decode cX12_snapshot 40 = .ok (.iload_n 1, 1) := by decide +kernel
theorem dX12_snapshot_41 : decode cX12_snapshot 41 = .ok (.iaload, 1) := by decide +kernel
theorem dX12_snapshot_42 : decode cX12_snapshot 42 = .ok (.goto 30, 3) := by decide +kernel
theorem dX12_snapshot_45 : decode cX12_snapshot 45 = .ok (.iload_n 2, 1) := by decide +kernel
theorem dX12_snapshot_46 : decode cX12_snapshot 46 = .ok (.iconst 1, 1) := by decide +kernel
theorem dX12_snapshot_47 : decode cX12_snapshot 47 = .ok (.if_icmp .ne 12, 3) := by decide +kernel
theorem dX12_snapshot_50 : decode cX12_snapshot 50 = .ok (.aload_n 0, 1) := by decide +kernel
theorem dX12_snapshot_51 : decode cX12_snapshot 51 = .ok (.getfield 64, 3) := by decide +kernel
theorem dX12_snapshot_54 : decode cX12_snapshot 54 = .ok (.iload_n 1, 1) := by decide +kernel
theorem dX12_snapshot_55 : decode cX12_snapshot 55 = .ok (.iaload, 1) := by decide +kernel
theorem dX12_snapshot_56 : decode cX12_snapshot 56 = .ok (.goto 16, 3) := by decide +kernel
theorem dX12_snapshot_59 : decode cX12_snapshot 59 = .ok (.aload_n 0, 1) := by decide +kernel
theorem dX12_snapshot_60 : decode cX12_snapshot 60 = .ok (.getfield 67, 3) := by decide +kernel
theorem dX12_snapshot_63 : decode cX12_snapshot 63 = .ok (.bipush 8, 2) := by decide +kernel
theorem dX12_snapshot_65 : decode cX12_snapshot 65 = .ok (.iload_n 1, 1) := by decide +kernel
theorem dX12_snapshot_66 : decode cX12_snapshot 66 = .ok (.imul, 1) := by decide +kernel
theorem dX12_snapshot_67 : decode cX12_snapshot 67 = .ok (.iload_n 2, 1) := by decide +kernel
theorem dX12_snapshot_68 : decode cX12_snapshot 68 = .ok (.iadd, 1) := by decide +kernel
theorem dX12_snapshot_69 : decode cX12_snapshot 69 = .ok (.iconst 2, 1) := by decide +kernel
theorem dX12_snapshot_70 : decode cX12_snapshot 70 = .ok (.isub, 1) := by decide +kernel
theorem dX12_snapshot_71 : decode cX12_snapshot 71 = .ok (.iaload, 1) := by decide +kernel
theorem dX12_snapshot_72 : decode cX12_snapshot 72 = .ok (.ireturn, 1) := by decide +kernel
theorem dX12_time_0 : decode cX12_time 0 = .ok (.aload_n 0, 1) := by decide +kernel
theorem dX12_time_1 : decode cX12_time 1 = .ok (.iload_n 1, 1) := by decide +kernel
theorem dX12_time_2 : decode cX12_time 2 = .ok (.invokevirtual 225, 3) := by decide +kernel
theorem dX12_time_5 : decode cX12_time 5 = .ok (.ifCond .eq 12, 3) := by decide +kernel
theorem dX12_time_8 : decode cX12_time 8 = .ok (.aload_n 0, 1) := by decide +kernel
theorem dX12_time_9 : decode cX12_time 9 = .ok (.getfield 58, 3) := by decide +kernel
theorem dX12_time_12 : decode cX12_time 12 = .ok (.iload_n 1, 1) := by decide +kernel
theorem dX12_time_13 : decode cX12_time 13 = .ok (.laload, 1) := by decide +kernel
theorem dX12_time_14 : decode cX12_time 14 = .ok (.goto 4, 3) := by decide +kernel
theorem dX12_time_17 : decode cX12_time 17 = .ok (.lconst 0, 1) := by decide +kernel
theorem dX12_time_18 : decode cX12_time 18 = .ok (.lreturn, 1) := by decide +kernel
theorem dX12_saver_0 : decode cX12_saver 0 = .ok (.aload_n 0, 1) := by decide +kernel
theorem dX12_saver_1 : decode cX12_saver 1 = .ok (.iload_n 1, 1) := by decide +kernel
theorem dX12_saver_2 : decode cX12_saver 2 = .ok (.invokevirtual 165, 3) := by decide +kernel
theorem dX12_saver_5 : decode cX12_saver 5 = .ok (.ifCond .ne 6, 3) := by decide +kernel
theorem dX12_saver_8 : decode cX12_saver 8 = .ok (.bipush (-101), 2) := by decide +kernel
theorem dX12_saver_10 : decode cX12_saver 10 = .ok (.ireturn, 1) := by decide +kernel
theorem dX12_saver_11 : decode cX12_saver 11 = .ok (.iload_n 2, 1) := by decide +kernel
theorem dX12_saver_12 : decode cX12_saver 12 = .ok (.i2l, 1) := by decide +kernel
theorem dX12_saver_13 : decode cX12_saver 13 = .ok (.lconst 0, 1) := by decide +kernel
theorem dX12_saver_14 : decode cX12_saver 14 = .ok (.iconst 2, 1) := by decide +kernel
theorem dX12_saver_15 : decode cX12_saver 15 = .ok (.aload_n 0, 1) := by decide +kernel
theorem dX12_saver_16 : decode cX12_saver 16 = .ok (.getfield 88, 3) := by decide +kernel
theorem dX12_saver_19 : decode cX12_saver 19 = .ok (.iload_n 1, 1) := by decide +kernel
theorem dX12_saver_20 : decode cX12_saver 20 = .ok (.iaload, 1) := by decide +kernel
theorem dX12_saver_21 : decode cX12_saver 21 = .ok (.iadd, 1) := by decide +kernel
theorem dX12_saver_22 : decode cX12_saver 22 = .ok (.i2l, 1) := by decide +kernel
theorem dX12_saver_23 : decode cX12_saver 23 = .ok (.invokestatic 144, 3) := by decide +kernel
theorem dX12_saver_26 : decode cX12_saver 26 = .ok (.ifCond .ne 6, 3) := by decide +kernel
theorem dX12_saver_29 : decode cX12_saver 29 = .ok (.bipush (-102), 2) := by decide +kernel
theorem dX12_saver_31 : decode cX12_saver 31 = .ok (.ireturn, 1) := by decide +kernel
theorem dX12_saver_32 : decode cX12_saver 32 = .ok (.iload_n 2, 1) := by decide +kernel
theorem dX12_saver_33 : decode cX12_saver 33 = .ok (.ifCond .ne 19, 3) := by decide +kernel
theorem dX12_saver_36 : decode cX12_saver 36 = .ok (.aload_n 0, 1) := by decide +kernel
theorem dX12_saver_37 : decode cX12_saver 37 = .ok (.iload_n 1, 1) := by decide +kernel
theorem dX12_saver_38 : decode cX12_saver 38 = .ok (.invokevirtual 159, 3) := by decide +kernel
theorem dX12_saver_41 : decode cX12_saver 41 = .ok (.ifCond .eq 7, 3) := by decide +kernel
theorem dX12_saver_44 : decode cX12_saver 44 = .ok (.iconst 1, 1) := by decide +kernel
theorem dX12_saver_45 : decode cX12_saver 45 = .ok (.goto 48, 3) := by decide +kernel
theorem dX12_saver_48 : decode cX12_saver 48 = .ok (.iconst 0, 1) := by decide +kernel
theorem dX12_saver_49 : decode cX12_saver 49 = .ok (.goto 44, 3) := by decide +kernel
theorem dX12_saver_52 : decode cX12_saver 52 = .ok (.iload_n 2, 1) := by decide +kernel
theorem dX12_saver_53 : decode cX12_saver 53 = .ok (.iconst 1, 1) := by decide +kernel
theorem dX12_saver_54 : decode cX12_saver 54 = .ok (.if_icmp .ne 12, 3) := by decide +kernel
theorem dX12_saver_57 : decode cX12_saver 57 = .ok (.aload_n 0, 1) := by decide +kernel
theorem dX12_saver_58 : decode cX12_saver 58 = .ok (.getfield 88, 3) := by decide +kernel
theorem dX12_saver_61 : decode cX12_saver 61 = .ok (.iload_n 1, 1) := by decide +kernel
theorem dX12_saver_62 : decode cX12_saver 62 = .ok (.iaload, 1) := by decide +kernel
theorem dX12_saver_63 : decode cX12_saver 63 = .ok (.goto 30, 3) := by decide +kernel
theorem dX12_saver_66 : decode cX12_saver 66 = .ok (.iload_n 2, 1) := by decide +kernel
theorem dX12_saver_67 : decode cX12_saver 67 = .ok (.iconst 2, 1) := by decide +kernel
theorem dX12_saver_68 : decode cX12_saver 68 = .ok (.if_icmp .ne 12, 3) := by decide +kernel
theorem dX12_saver_71 : decode cX12_saver 71 = .ok (.aload_n 0, 1) := by decide +kernel
theorem dX12_saver_72 : decode cX12_saver 72 = .ok (.getfield 94, 3) := by decide +kernel
theorem dX12_saver_75 : decode cX12_saver 75 = .ok (.iload_n 1, 1) := by decide +kernel
theorem dX12_saver_76 : decode cX12_saver 76 = .ok (.iaload, 1) := by decide +kernel
theorem dX12_saver_77 : decode cX12_saver 77 = .ok (.goto 16, 3) := by decide +kernel
theorem dX12_saver_80 : decode cX12_saver 80 = .ok (.aload_n 0, 1) := by decide +kernel
theorem dX12_saver_81 : decode cX12_saver 81 = .ok (.getfield 91, 3) := by decide +kernel
theorem dX12_saver_84 : decode cX12_saver 84 = .ok (.bipush 8, 2) := by decide +kernel
theorem dX12_saver_86 : decode cX12_saver 86 = .ok (.iload_n 1, 1) := by decide +kernel
theorem dX12_saver_87 : decode cX12_saver 87 = .ok (.imul, 1) := by decide +kernel
theorem dX12_saver_88 : decode cX12_saver 88 = .ok (.iload_n 2, 1) := by decide +kernel
theorem dX12_saver_89 : decode cX12_saver 89 = .ok (.iadd, 1) := by decide +kernel
theorem dX12_saver_90 : decode cX12_saver 90 = .ok (.iconst 3, 1) := by decide +kernel
theorem dX12_saver_91 : decode cX12_saver 91 = .ok (.isub, 1) := by decide +kernel
theorem dX12_saver_92 : decode cX12_saver 92 = .ok (.iaload, 1) := by decide +kernel
theorem dX12_saver_93 : decode cX12_saver 93 = .ok (.ireturn, 1) := by decide +kernel
theorem dX12_swept_0 : decode cX12_swept 0 = .ok (.iload_n 1, 1) := by decide +kernel
theorem dX12_swept_1 : decode cX12_swept 1 = .ok (.i2l, 1) := by decide +kernel
theorem dX12_swept_2 : decode cX12_swept 2 = .ok (.lconst 0, 1) := by decide +kernel
theorem dX12_swept_3 : decode cX12_swept 3 = .ok (.ldc2_w 154, 3) := by decide +kernel
theorem dX12_swept_6 : decode cX12_swept 6 = .ok (.invokestatic 144, 3) := by decide +kernel
theorem dX12_swept_9 : decode cX12_swept 9 = .ok (.ifCond .ne 6, 3) := by decide +kernel
theorem dX12_swept_12 : decode cX12_swept 12 = .ok (.bipush (-102), 2) := by decide +kernel
theorem dX12_swept_14 : decode cX12_swept 14 = .ok (.ireturn, 1) := by decide +kernel
theorem dX12_swept_15 : decode cX12_swept 15 = .ok (.iload_n 1, 1) := by decide +kernel
theorem dX12_swept_16 : decode cX12_swept 16 = .ok (.ifCond .ne 8, 3) := by decide +kernel
theorem dX12_swept_19 : decode cX12_swept 19 = .ok (.aload_n 0, 1) := by decide +kernel
theorem dX12_swept_20 : decode cX12_swept 20 = .ok (.getfield 131, 3) := by decide +kernel
theorem dX12_swept_23 : decode cX12_swept 23 = .ok (.ireturn, 1) := by decide +kernel
theorem dX12_swept_24 : decode cX12_swept 24 = .ok (.aload_n 0, 1) := by decide +kernel
theorem dX12_swept_25 : decode cX12_swept 25 = .ok (.getfield 131, 3) := by decide +kernel
theorem dX12_swept_28 : decode cX12_swept 28 = .ok (.ifCond .ne 5, 3) := by decide +kernel
theorem dX12_swept_31 : decode cX12_swept 31 = .ok (.iconst (-1), 1) := by decide +kernel
theorem dX12_swept_32 : decode cX12_swept 32 = .ok (.ireturn, 1) := by decide +kernel
theorem dX12_swept_33 : decode cX12_swept 33 = .ok (.iload_n 1, 1) := by decide +kernel
theorem dX12_swept_34 : decode cX12_swept 34 = .ok (.iconst 1, 1) := by decide +kernel
theorem dX12_swept_35 : decode cX12_swept 35 = .ok (.if_icmp .ne 27, 3) := by decide +kernel
theorem dX12_swept_38 : decode cX12_swept 38 = .ok (.aload_n 0, 1) := by decide +kernel
theorem dX12_swept_39 : decode cX12_swept 39 = .ok (.getfield 131, 3) := by decide +kernel
theorem dX12_swept_42 : decode cX12_swept 42 = .ok (.iconst 1, 1) := by decide +kernel
theorem dX12_swept_43 : decode cX12_swept 43 = .ok (.if_icmp .ne 15, 3) := by decide +kernel
theorem dX12_swept_46 : decode cX12_swept 46 = .ok (.aload_n 0, 1) := by decide +kernel
theorem dX12_swept_47 : decode cX12_swept 47 = .ok (.getfield 215, 3) := by decide +kernel
theorem dX12_swept_50 : decode cX12_swept 50 = .ok (.aload_n 0, 1) := by decide +kernel
theorem dX12_swept_51 : decode cX12_swept 51 = .ok (.getfield 264, 3) := by decide +kernel
theorem dX12_swept_54 : decode cX12_swept 54 = .ok (.isub, 1) := by decide +kernel
theorem dX12_swept_55 : decode cX12_swept 55 = .ok (.goto 35, 3) := by decide +kernel
theorem dX12_swept_58 : decode cX12_swept 58 = .ok (.iconst 0, 1) := by decide +kernel
theorem dX12_swept_59 : decode cX12_swept 59 = .ok (.goto 31, 3) := by decide +kernel
theorem dX12_swept_62 : decode cX12_swept 62 = .ok (.iload_n 1, 1) := by decide +kernel
theorem dX12_swept_63 : decode cX12_swept 63 = .ok (.iconst 2, 1) := by decide +kernel
theorem dX12_swept_64 : decode cX12_swept 64 = .ok (.if_icmp .ne 10, 3) := by decide +kernel
theorem dX12_swept_67 : decode cX12_swept 67 = .ok (.aload_n 0, 1) := by decide +kernel
theorem dX12_swept_68 : decode cX12_swept 68 = .ok (.getfield 270, 3) := by decide +kernel
theorem dX12_swept_71 : decode cX12_swept 71 = .ok (.goto 19, 3) := by decide +kernel
theorem dX12_swept_74 : decode cX12_swept 74 = .ok (.aload_n 0, 1) := by decide +kernel
theorem dX12_swept_75 : decode cX12_swept 75 = .ok (.getfield 131, 3) := by decide +kernel
theorem dX12_swept_78 : decode cX12_swept 78 = .ok (.iconst 1, 1) := by decide +kernel
theorem dX12_swept_79 : decode cX12_swept 79 = .ok (.if_icmp .ne 7, 3) := by decide +kernel
theorem dX12_swept_82 : decode cX12_swept 82 = .ok (.iconst (-1), 1) := by decide +kernel
theorem dX12_swept_83 : decode cX12_swept 83 = .ok (.goto 7, 3) := by decide +kernel
theorem dX12_swept_86 : decode cX12_swept 86 = .ok (.aload_n 0, 1) := by decide +kernel
theorem dX12_swept_87 : decode cX12_swept 87 = .ok (.getfield 267, 3) := by decide +kernel
theorem dX12_swept_90 : decode cX12_swept 90 = .ok (.ireturn, 1) := by decide +kernel
theorem dX12_floor_0 : decode cX12_floor 0 = .ok (.lload_n 0, 1) := by decide +kernel
theorem dX12_floor_1 : decode cX12_floor 1 = .ok (.lload_n 2, 1) := by decide +kernel
theorem dX12_floor_2 : decode cX12_floor 2 = .ok (.ldiv, 1) := by decide +kernel
theorem dX12_floor_3 : decode cX12_floor 3 = .ok (.lstore 4, 2) := by decide +kernel
theorem dX12_floor_5 : decode cX12_floor 5 = .ok (.lload 4, 2) := by decide +kernel
theorem dX12_floor_7 : decode cX12_floor 7 = .ok (.lload_n 2, 1) := by decide +kernel
theorem dX12_floor_8 : decode cX12_floor 8 = .ok (.lmul, 1) := by decide +kernel
theorem dX12_floor_9 : decode cX12_floor 9 = .ok (.lload_n 0, 1) := by decide +kernel
theorem dX12_floor_10 : decode cX12_floor 10 = .ok (.lcmp, 1) := by decide +kernel
theorem dX12_floor_11 : decode cX12_floor 11 = .ok (.ifCond .le 10, 3) := by decide +kernel
theorem dX12_floor_14 : decode cX12_floor 14 = .ok (.lload 4, 2) := by decide +kernel
theorem dX12_floor_16 : decode cX12_floor 16 = .ok (.lconst 1, 1) := by decide +kernel
theorem dX12_floor_17 : decode cX12_floor 17 = .ok (.lsub, 1) := by decide +kernel
theorem dX12_floor_18 : decode cX12_floor 18 = .ok (.goto 5, 3) := by decide +kernel
theorem dX12_floor_21 : decode cX12_floor 21 = .ok (.lload 4, 2) := by decide +kernel
theorem dX12_floor_23 : decode cX12_floor 23 = .ok (.lreturn, 1) := by decide +kernel
theorem dX12_daysOf_0 : decode cX12_daysOf 0 = .ok (.iload_n 0, 1) := by decide +kernel
theorem dX12_daysOf_1 : decode cX12_daysOf 1 = .ok (.iconst 4, 1) := by decide +kernel
theorem dX12_daysOf_2 : decode cX12_daysOf 2 = .ok (.irem, 1) := by decide +kernel
theorem dX12_daysOf_3 : decode cX12_daysOf 3 = .ok (.ifCond .ne 22, 3) := by decide +kernel
theorem dX12_daysOf_6 : decode cX12_daysOf 6 = .ok (.iload_n 0, 1) := by decide +kernel
theorem dX12_daysOf_7 : decode cX12_daysOf 7 = .ok (.bipush 100, 2) := by decide +kernel
theorem dX12_daysOf_9 : decode cX12_daysOf 9 = .ok (.irem, 1) := by decide +kernel
theorem dX12_daysOf_10 : decode cX12_daysOf 10 = .ok (.ifCond .ne 11, 3) := by decide +kernel
theorem dX12_daysOf_13 : decode cX12_daysOf 13 = .ok (.iload_n 0, 1) := by decide +kernel
theorem dX12_daysOf_14 : decode cX12_daysOf 14 = .ok (.sipush 400, 3) := by decide +kernel
theorem dX12_daysOf_17 : decode cX12_daysOf 17 = .ok (.irem, 1) := by decide +kernel
theorem dX12_daysOf_18 : decode cX12_daysOf 18 = .ok (.ifCond .ne 7, 3) := by decide +kernel
theorem dX12_daysOf_21 : decode cX12_daysOf 21 = .ok (.iconst 1, 1) := by decide +kernel
theorem dX12_daysOf_22 : decode cX12_daysOf 22 = .ok (.goto 4, 3) := by decide +kernel
theorem dX12_daysOf_25 : decode cX12_daysOf 25 = .ok (.iconst 0, 1) := by decide +kernel
theorem dX12_daysOf_26 : decode cX12_daysOf 26 = .ok (.istore_n 2, 1) := by decide +kernel
theorem dX12_daysOf_27 : decode cX12_daysOf 27 = .ok (.iload_n 1, 1) := by decide +kernel
theorem dX12_daysOf_28 : decode cX12_daysOf 28 = .ok (.iconst 2, 1) := by decide +kernel
theorem dX12_daysOf_29 : decode cX12_daysOf 29 = .ok (.if_icmp .ne 15, 3) := by decide +kernel
theorem dX12_daysOf_32 : decode cX12_daysOf 32 = .ok (.iload_n 2, 1) := by decide +kernel
theorem dX12_daysOf_33 : decode cX12_daysOf 33 = .ok (.ifCond .eq 8, 3) := by decide +kernel
theorem dX12_daysOf_36 : decode cX12_daysOf 36 = .ok (.bipush 29, 2) := by decide +kernel
theorem dX12_daysOf_38 : decode cX12_daysOf 38 = .ok (.goto 5, 3) := by decide +kernel
theorem dX12_daysOf_41 : decode cX12_daysOf 41 = .ok (.bipush 28, 2) := by decide +kernel
theorem dX12_daysOf_43 : decode cX12_daysOf 43 = .ok (.ireturn, 1) := by decide +kernel
theorem dX12_daysOf_44 : decode cX12_daysOf 44 = .ok (.iload_n 1, 1) := by decide +kernel
theorem dX12_daysOf_45 : decode cX12_daysOf 45 = .ok (.iconst 4, 1) := by decide +kernel
theorem dX12_daysOf_46 : decode cX12_daysOf 46 = .ok (.if_icmp .eq 21, 3) := by decide +kernel
theorem dX12_daysOf_49 : decode cX12_daysOf 49 = .ok (.iload_n 1, 1) := by decide +kernel
theorem dX12_daysOf_50 : decode cX12_daysOf 50 = .ok (.bipush 6, 2) := by decide +kernel
theorem dX12_daysOf_52 : decode cX12_daysOf 52 = .ok (.if_icmp .eq 15, 3) := by decide +kernel
theorem dX12_daysOf_55 : decode cX12_daysOf 55 = .ok (.iload_n 1, 1) := by decide +kernel
theorem dX12_daysOf_56 : decode cX12_daysOf 56 = .ok (.bipush 9, 2) := by decide +kernel
theorem dX12_daysOf_58 : decode cX12_daysOf 58 = .ok (.if_icmp .eq 9, 3) := by decide +kernel
theorem dX12_daysOf_61 : decode cX12_daysOf 61 = .ok (.iload_n 1, 1) := by decide +kernel
theorem dX12_daysOf_62 : decode cX12_daysOf 62 = .ok (.bipush 11, 2) := by decide +kernel
theorem dX12_daysOf_64 : decode cX12_daysOf 64 = .ok (.if_icmp .ne 8, 3) := by decide +kernel
theorem dX12_daysOf_67 : decode cX12_daysOf 67 = .ok (.bipush 30, 2) := by decide +kernel
theorem dX12_daysOf_69 : decode cX12_daysOf 69 = .ok (.goto 5, 3) := by decide +kernel
theorem dX12_daysOf_72 : decode cX12_daysOf 72 = .ok (.bipush 31, 2) := by decide +kernel
theorem dX12_daysOf_74 : decode cX12_daysOf 74 = .ok (.ireturn, 1) := by decide +kernel
theorem dX12_calendar_0 : decode cX12_calendar 0 = .ok (.iload_n 3, 1) := by decide +kernel
theorem dX12_calendar_1 : decode cX12_calendar 1 = .ok (.i2l, 1) := by decide +kernel
theorem dX12_calendar_2 : decode cX12_calendar 2 = .ok (.lconst 0, 1) := by decide +kernel
theorem dX12_calendar_3 : decode cX12_calendar 3 = .ok (.ldc2_w 326, 3) := by decide +kernel
theorem dX12_calendar_6 : decode cX12_calendar 6 = .ok (.invokestatic 144, 3) := by decide +kernel
theorem dX12_calendar_9 : decode cX12_calendar 9 = .ok (.ifCond .eq 16, 3) := by decide +kernel
theorem dX12_calendar_12 : decode cX12_calendar 12 = .ok (.lload_n 1, 1) := by decide +kernel
theorem dX12_calendar_13 : decode cX12_calendar 13 = .ok (.ldc2_w 328, 3) := by decide +kernel
theorem dX12_calendar_16 : decode cX12_calendar 16 = .ok (.ldc2_w 152, 3) := by decide +kernel
theorem dX12_calendar_19 : decode cX12_calendar 19 = .ok (.invokestatic 144, 3) := by decide +kernel
theorem dX12_calendar_22 : decode cX12_calendar 22 = .ok (.ifCond .ne 6, 3) := by decide +kernel
theorem dX12_calendar_25 : decode cX12_calendar 25 = .ok (.bipush (-102), 2) := by decide +kernel
theorem dX12_calendar_27 : decode cX12_calendar 27 = .ok (.ireturn, 1) := by decide +kernel
theorem dX12_calendar_28 : decode cX12_calendar 28 = .ok (.lload_n 1, 1) := by decide +kernel
theorem dX12_calendar_29 : decode cX12_calendar 29 = .ok (.ldc2_w 237, 3) := by decide +kernel
theorem dX12_calendar_32 : decode cX12_calendar 32 = .ok (.invokestatic 239, 3) := by decide +kernel
theorem dX12_calendar_35 : decode cX12_calendar 35 = .ok (.lstore 4, 2) := by decide +kernel
theorem dX12_calendar_37 : decode cX12_calendar 37 = .ok (.iload_n 3, 1) := by decide +kernel
theorem dX12_calendar_38 : decode cX12_calendar 38 = .ok (.iconst 4, 1) := by decide +kernel
theorem dX12_calendar_39 : decode cX12_calendar 39 = .ok (.if_icmp .ne 7, 3) := by decide +kernel
theorem dX12_calendar_42 : decode cX12_calendar 42 = .ok (.lload 4, 2) := by decide +kernel
theorem dX12_calendar_44 : decode cX12_calendar 44 = .ok (.l2i, 1) := by decide +kernel
theorem dX12_calendar_45 : decode cX12_calendar 45 = .ok (.ireturn, 1) := by decide +kernel
theorem dX12_calendar_46 : decode cX12_calendar 46 = .ok (.iload_n 3, 1) := by decide +kernel
theorem dX12_calendar_47 : decode cX12_calendar 47 = .ok (.iconst 3, 1) := by decide +kernel
theorem dX12_calendar_48 : decode cX12_calendar 48 = .ok (.if_icmp .ne 28, 3) := by decide +kernel
theorem dX12_calendar_51 : decode cX12_calendar 51 = .ok (.lload 4, 2) := by decide +kernel
theorem dX12_calendar_53 : decode cX12_calendar 53 = .ok (.ldc2_w 154, 3) := by decide +kernel
theorem dX12_calendar_56 : decode cX12_calendar 56 = .ok (.ladd, 1) := by decide +kernel
theorem dX12_calendar_57 : decode cX12_calendar 57 = .ok (.ldc2_w 243, 3) := by decide +kernel
theorem dX12_calendar_60 : decode cX12_calendar 60 = .ok (.lload 4, 2) := by decide +kernel
theorem dX12_calendar_62 : decode cX12_calendar 62 = .ok (.ldc2_w 154, 3) := by decide +kernel
theorem dX12_calendar_65 : decode cX12_calendar 65 = .ok (.ladd, 1) := by decide +kernel
theorem dX12_calendar_66 : decode cX12_calendar 66 = .ok (.ldc2_w 243, 3) := by decide +kernel
theorem dX12_calendar_69 : decode cX12_calendar 69 = .ok (.invokestatic 239, 3) := by decide +kernel
theorem dX12_calendar_72 : decode cX12_calendar 72 = .ok (.lmul, 1) := by decide +kernel
theorem dX12_calendar_73 : decode cX12_calendar 73 = .ok (.lsub, 1) := by decide +kernel
theorem dX12_calendar_74 : decode cX12_calendar 74 = .ok (.l2i, 1) := by decide +kernel
theorem dX12_calendar_75 : decode cX12_calendar 75 = .ok (.ireturn, 1) := by decide +kernel
theorem dX12_calendar_76 : decode cX12_calendar 76 = .ok (.lload 4, 2) := by decide +kernel
theorem dX12_calendar_78 : decode cX12_calendar 78 = .ok (.ldc2_w 330, 3) := by decide +kernel
theorem dX12_calendar_81 : decode cX12_calendar 81 = .ok (.ladd, 1) := by decide +kernel
theorem dX12_calendar_82 : decode cX12_calendar 82 = .ok (.lstore 6, 2) := by decide +kernel
theorem dX12_calendar_84 : decode cX12_calendar 84 = .ok (.lload 6, 2) := by decide +kernel
theorem dX12_calendar_86 : decode cX12_calendar 86 = .ok (.ldc2_w 332, 3) := by decide +kernel
theorem dX12_calendar_89 : decode cX12_calendar 89 = .ok (.invokestatic 239, 3) := by decide +kernel
theorem dX12_calendar_92 : decode cX12_calendar 92 = .ok (.lstore 8, 2) := by decide +kernel
theorem dX12_calendar_94 : decode cX12_calendar 94 = .ok (.lload 6, 2) := by decide +kernel
theorem dX12_calendar_96 : decode cX12_calendar 96 = .ok (.ldc2_w 332, 3) := by decide +kernel
theorem dX12_calendar_99 : decode cX12_calendar 99 = .ok (.lload 8, 2) := by decide +kernel
theorem dX12_calendar_101 : decode cX12_calendar 101 = .ok (.lmul, 1) := by decide +kernel
theorem dX12_calendar_102 : decode cX12_calendar 102 = .ok (.lsub, 1) := by decide +kernel
theorem dX12_calendar_103 : decode cX12_calendar 103 = .ok (.l2i, 1) := by decide +kernel
theorem dX12_calendar_104 : decode cX12_calendar 104 = .ok (.istore 10, 2) := by decide +kernel
theorem dX12_calendar_106 : decode cX12_calendar 106 = .ok (.iconst 0, 1) := by decide +kernel
theorem dX12_calendar_107 : decode cX12_calendar 107 = .ok (.istore 11, 2) := by decide +kernel
theorem dX12_calendar_109 : decode cX12_calendar 109 = .ok (.iconst 1, 1) := by decide +kernel
theorem dX12_calendar_110 : decode cX12_calendar 110 = .ok (.istore 12, 2) := by decide +kernel
theorem dX12_calendar_112 : decode cX12_calendar 112 = .ok (.iload 10, 2) := by decide +kernel
theorem dX12_calendar_114 : decode cX12_calendar 114 = .ok (.iload 11, 2) := by decide +kernel
theorem dX12_calendar_116 : decode cX12_calendar 116 = .ok (.iload 12, 2) := by decide +kernel
theorem dX12_calendar_118 : decode cX12_calendar 118 = .ok (.invokestatic 334, 3) := by decide +kernel
theorem dX12_calendar_121 : decode cX12_calendar 121 = .ok (.if_icmp .lt 53, 3) := by decide +kernel
theorem dX12_calendar_124 : decode cX12_calendar 124 = .ok (.iload 10, 2) := by decide +kernel
theorem dX12_calendar_126 : decode cX12_calendar 126 = .ok (.iload 11, 2) := by decide +kernel
theorem dX12_calendar_128 : decode cX12_calendar 128 = .ok (.iload 12, 2) := by decide +kernel
theorem dX12_calendar_130 : decode cX12_calendar 130 = .ok (.invokestatic 334, 3) := by decide +kernel
theorem dX12_calendar_133 : decode cX12_calendar 133 = .ok (.isub, 1) := by decide +kernel
theorem dX12_calendar_134 : decode cX12_calendar 134 = .ok (.istore 10, 2) := by decide +kernel
theorem dX12_calendar_136 : decode cX12_calendar 136 = .ok (.iload 12, 2) := by decide +kernel
theorem dX12_calendar_138 : decode cX12_calendar 138 = .ok (.bipush 12, 2) := by decide +kernel
theorem dX12_calendar_140 : decode cX12_calendar 140 = .ok (.if_icmp .ne 10, 3) := by decide +kernel
theorem dX12_calendar_143 : decode cX12_calendar 143 = .ok (.iload 11, 2) := by decide +kernel
theorem dX12_calendar_145 : decode cX12_calendar 145 = .ok (.iconst 1, 1) := by decide +kernel
theorem dX12_calendar_146 : decode cX12_calendar 146 = .ok (.iadd, 1) := by decide +kernel
theorem dX12_calendar_147 : decode cX12_calendar 147 = .ok (.goto 5, 3) := by decide +kernel
theorem dX12_calendar_150 : decode cX12_calendar 150 = .ok (.iload 11, 2) := by decide +kernel
theorem dX12_calendar_152 : decode cX12_calendar 152 = .ok (.istore 11, 2) := by decide +kernel
theorem dX12_calendar_154 : decode cX12_calendar 154 = .ok (.iload 12, 2) := by decide +kernel
theorem dX12_calendar_156 : decode cX12_calendar 156 = .ok (.bipush 12, 2) := by decide +kernel
theorem dX12_calendar_158 : decode cX12_calendar 158 = .ok (.if_icmp .ne 7, 3) := by decide +kernel
theorem dX12_calendar_161 : decode cX12_calendar 161 = .ok (.iconst 1, 1) := by decide +kernel
theorem dX12_calendar_162 : decode cX12_calendar 162 = .ok (.goto 7, 3) := by decide +kernel
theorem dX12_calendar_165 : decode cX12_calendar 165 = .ok (.iload 12, 2) := by decide +kernel
theorem dX12_calendar_167 : decode cX12_calendar 167 = .ok (.iconst 1, 1) := by decide +kernel
theorem dX12_calendar_168 : decode cX12_calendar 168 = .ok (.iadd, 1) := by decide +kernel
theorem dX12_calendar_169 : decode cX12_calendar 169 = .ok (.istore 12, 2) := by decide +kernel
theorem dX12_calendar_171 : decode cX12_calendar 171 = .ok (.goto (-59), 3) := by decide +kernel
theorem dX12_calendar_174 : decode cX12_calendar 174 = .ok (.iload_n 3, 1) := by decide +kernel
theorem dX12_calendar_175 : decode cX12_calendar 175 = .ok (.ifCond .ne 17, 3) := by decide +kernel
theorem dX12_calendar_178 : decode cX12_calendar 178 = .ok (.ldc2_w 337, 3) := by decide +kernel
theorem dX12_calendar_181 : decode cX12_calendar 181 = .ok (.lload 8, 2) := by decide +kernel
theorem dX12_calendar_183 : decode cX12_calendar 183 = .ok (.lmul, 1) := by decide +kernel
theorem dX12_calendar_184 : decode cX12_calendar 184 = .ok (.iload 11, 2) := by decide +kernel
theorem dX12_calendar_186 : decode cX12_calendar 186 = .ok (.i2l, 1) := by decide +kernel
theorem dX12_calendar_187 : decode cX12_calendar 187 = .ok (.ladd, 1) := by decide +kernel
theorem dX12_calendar_188 : decode cX12_calendar 188 = .ok (.l2i, 1) := by decide +kernel
theorem dX12_calendar_189 : decode cX12_calendar 189 = .ok (.goto 17, 3) := by decide +kernel
theorem dX12_calendar_192 : decode cX12_calendar 192 = .ok (.iload_n 3, 1) := by decide +kernel
theorem dX12_calendar_193 : decode cX12_calendar 193 = .ok (.iconst 1, 1) := by decide +kernel
theorem dX12_calendar_194 : decode cX12_calendar 194 = .ok (.if_icmp .ne 8, 3) := by decide +kernel
theorem dX12_calendar_197 : decode cX12_calendar 197 = .ok (.iload 12, 2) := by decide +kernel
theorem dX12_calendar_199 : decode cX12_calendar 199 = .ok (.goto 7, 3) := by decide +kernel
theorem dX12_calendar_202 : decode cX12_calendar 202 = .ok (.iload 10, 2) := by decide +kernel
theorem dX12_calendar_204 : decode cX12_calendar 204 = .ok (.iconst 1, 1) := by decide +kernel
theorem dX12_calendar_205 : decode cX12_calendar 205 = .ok (.iadd, 1) := by decide +kernel
theorem dX12_calendar_206 : decode cX12_calendar 206 = .ok (.ireturn, 1) := by decide +kernel
theorem dX12_isMirror_0 : decode cX12_isMirror 0 = .ok (.iload_n 1, 1) := by decide +kernel
theorem dX12_isMirror_1 : decode cX12_isMirror 1 = .ok (.ifCond .eq 8, 3) := by decide +kernel
theorem dX12_isMirror_4 : decode cX12_isMirror 4 = .ok (.iload_n 1, 1) := by decide +kernel
theorem dX12_isMirror_5 : decode cX12_isMirror 5 = .ok (.iconst 1, 1) := by decide +kernel
theorem dX12_isMirror_6 : decode cX12_isMirror 6 = .ok (.if_icmp .ne 7, 3) := by decide +kernel
theorem dX12_isMirror_9 : decode cX12_isMirror 9 = .ok (.iconst 1, 1) := by decide +kernel
theorem dX12_isMirror_10 : decode cX12_isMirror 10 = .ok (.goto 4, 3) := by decide +kernel
theorem dX12_isMirror_13 : decode cX12_isMirror 13 = .ok (.iconst 0, 1) := by decide +kernel
theorem dX12_isMirror_14 : decode cX12_isMirror 14 = .ok (.ireturn, 1) := by decide +kernel
theorem dX12_follow_0 : decode cX12_follow 0 = .ok (.aload_n 0, 1) := by decide +kernel
theorem dX12_follow_1 : decode cX12_follow 1 = .ok (.iload_n 1, 1) := by decide +kernel
theorem dX12_follow_2 : decode cX12_follow 2 = .ok (.invokevirtual 339, 3) := by decide +kernel
theorem dX12_follow_5 : decode cX12_follow 5 = .ok (.ifCond .ne 6, 3) := by decide +kernel
theorem dX12_follow_8 : decode cX12_follow 8 = .ok (.bipush (-101), 2) := by decide +kernel
theorem dX12_follow_10 : decode cX12_follow 10 = .ok (.ireturn, 1) := by decide +kernel
theorem dX12_follow_11 : decode cX12_follow 11 = .ok (.iload_n 2, 1) := by decide +kernel
theorem dX12_follow_12 : decode cX12_follow 12 = .ok (.i2l, 1) := by decide +kernel
theorem dX12_follow_13 : decode cX12_follow 13 = .ok (.lconst 0, 1) := by decide +kernel
theorem dX12_follow_14 : decode cX12_follow 14 = .ok (.ldc2_w 142, 3) := by decide +kernel
theorem dX12_follow_17 : decode cX12_follow 17 = .ok (.invokestatic 144, 3) := by decide +kernel
theorem dX12_follow_20 : decode cX12_follow 20 = .ok (.ifCond .ne 6, 3) := by decide +kernel
theorem dX12_follow_23 : decode cX12_follow 23 = .ok (.bipush (-102), 2) := by decide +kernel
theorem dX12_follow_25 : decode cX12_follow 25 = .ok (.ireturn, 1) := by decide +kernel
theorem dX12_follow_26 : decode cX12_follow 26 = .ok (.aload_n 0, 1) := by decide +kernel
theorem dX12_follow_27 : decode cX12_follow 27 = .ok (.getfield 76, 3) := by decide +kernel
theorem dX12_follow_30 : decode cX12_follow 30 = .ok (.iload_n 1, 1) := by decide +kernel
theorem dX12_follow_31 : decode cX12_follow 31 = .ok (.aload_n 0, 1) := by decide +kernel
theorem dX12_follow_32 : decode cX12_follow 32 = .ok (.getfield 76, 3) := by decide +kernel
theorem dX12_follow_35 : decode cX12_follow 35 = .ok (.iload_n 1, 1) := by decide +kernel
theorem dX12_follow_36 : decode cX12_follow 36 = .ok (.iaload, 1) := by decide +kernel
theorem dX12_follow_37 : decode cX12_follow 37 = .ok (.iload_n 2, 1) := by decide +kernel
theorem dX12_follow_38 : decode cX12_follow 38 = .ok (.iadd, 1) := by decide +kernel
theorem dX12_follow_39 : decode cX12_follow 39 = .ok (.aload_n 0, 1) := by decide +kernel
theorem dX12_follow_40 : decode cX12_follow 40 = .ok (.getfield 137, 3) := by decide +kernel
theorem dX12_follow_43 : decode cX12_follow 43 = .ok (.if_icmp .ge 14, 3) := by decide +kernel
theorem dX12_follow_46 : decode cX12_follow 46 = .ok (.aload_n 0, 1) := by decide +kernel
theorem dX12_follow_47 : decode cX12_follow 47 = .ok (.getfield 76, 3) := by decide +kernel
theorem dX12_follow_50 : decode cX12_follow 50 = .ok (.iload_n 1, 1) := by decide +kernel
theorem dX12_follow_51 : decode cX12_follow 51 = .ok (.iaload, 1) := by decide +kernel
theorem dX12_follow_52 : decode cX12_follow 52 = .ok (.iload_n 2, 1) := by decide +kernel
theorem dX12_follow_53 : decode cX12_follow 53 = .ok (.iadd, 1) := by decide +kernel
theorem dX12_follow_54 : decode cX12_follow 54 = .ok (.goto 7, 3) := by decide +kernel
theorem dX12_follow_57 : decode cX12_follow 57 = .ok (.aload_n 0, 1) := by decide +kernel
theorem dX12_follow_58 : decode cX12_follow 58 = .ok (.getfield 137, 3) := by decide +kernel
theorem dX12_follow_61 : decode cX12_follow 61 = .ok (.iastore, 1) := by decide +kernel
theorem dX12_follow_62 : decode cX12_follow 62 = .ok (.aload_n 0, 1) := by decide +kernel
theorem dX12_follow_63 : decode cX12_follow 63 = .ok (.getfield 137, 3) := by decide +kernel
theorem dX12_follow_66 : decode cX12_follow 66 = .ok (.aload_n 0, 1) := by decide +kernel
theorem dX12_follow_67 : decode cX12_follow 67 = .ok (.getfield 76, 3) := by decide +kernel
theorem dX12_follow_70 : decode cX12_follow 70 = .ok (.iload_n 1, 1) := by decide +kernel
theorem dX12_follow_71 : decode cX12_follow 71 = .ok (.iaload, 1) := by decide +kernel
theorem dX12_follow_72 : decode cX12_follow 72 = .ok (.isub, 1) := by decide +kernel
theorem dX12_follow_73 : decode cX12_follow 73 = .ok (.ireturn, 1) := by decide +kernel
theorem dX12_mirrorHas_0 : decode cX12_mirrorHas 0 = .ok (.iconst 0, 1) := by decide +kernel
theorem dX12_mirrorHas_1 : decode cX12_mirrorHas 1 = .ok (.istore 4, 2) := by decide +kernel
theorem dX12_mirrorHas_3 : decode cX12_mirrorHas 3 = .ok (.iconst 0, 1) := by decide +kernel
theorem dX12_mirrorHas_4 : decode cX12_mirrorHas 4 = .ok (.istore 5, 2) := by decide +kernel
theorem dX12_mirrorHas_6 : decode cX12_mirrorHas 6 = .ok (.iload 5, 2) := by decide +kernel
theorem dX12_mirrorHas_8 : decode cX12_mirrorHas 8 = .ok (.aload_n 0, 1) := by decide +kernel
theorem dX12_mirrorHas_9 : decode cX12_mirrorHas 9 = .ok (.getfield 76, 3) := by decide +kernel
theorem dX12_mirrorHas_12 : decode cX12_mirrorHas 12 = .ok (.iload_n 1, 1) := by decide +kernel
theorem dX12_mirrorHas_13 : decode cX12_mirrorHas 13 = .ok (.iaload, 1) := by decide +kernel
theorem dX12_mirrorHas_14 : decode cX12_mirrorHas 14 = .ok (.if_icmp .ge 62, 3) := by decide +kernel
theorem dX12_mirrorHas_17 : decode cX12_mirrorHas 17 = .ok (.aload_n 0, 1) := by decide +kernel
theorem dX12_mirrorHas_18 : decode cX12_mirrorHas 18 = .ok (.getfield 73, 3) := by decide +kernel
theorem dX12_mirrorHas_21 : decode cX12_mirrorHas 21 = .ok (.iload 5, 2) := by decide +kernel
theorem dX12_mirrorHas_23 : decode cX12_mirrorHas 23 = .ok (.iaload, 1) := by decide +kernel
theorem dX12_mirrorHas_24 : decode cX12_mirrorHas 24 = .ok (.iload_n 3, 1) := by decide +kernel
theorem dX12_mirrorHas_25 : decode cX12_mirrorHas 25 = .ok (.if_icmp .ne 45, 3) := by decide +kernel
theorem dX12_mirrorHas_28 : decode cX12_mirrorHas 28 = .ok (.aload_n 0, 1) := by decide +kernel
theorem dX12_mirrorHas_29 : decode cX12_mirrorHas 29 = .ok (.getfield 70, 3) := by decide +kernel
theorem dX12_mirrorHas_32 : decode cX12_mirrorHas 32 = .ok (.iload 5, 2) := by decide +kernel
theorem dX12_mirrorHas_34 : decode cX12_mirrorHas 34 = .ok (.iaload, 1) := by decide +kernel
theorem dX12_mirrorHas_35 : decode cX12_mirrorHas 35 = .ok (.iload_n 2, 1) := by decide +kernel
theorem dX12_mirrorHas_36 : decode cX12_mirrorHas 36 = .ok (.if_icmp .eq 16, 3) := by decide +kernel
theorem dX12_mirrorHas_39 : decode cX12_mirrorHas 39 = .ok (.aload_n 0, 1) := by decide +kernel
theorem dX12_mirrorHas_40 : decode cX12_mirrorHas 40 = .ok (.getfield 70, 3) := by decide +kernel
theorem dX12_mirrorHas_43 : decode cX12_mirrorHas 43 = .ok (.iload 5, 2) := by decide +kernel
theorem dX12_mirrorHas_45 : decode cX12_mirrorHas 45 = .ok (.iaload, 1) := by decide +kernel
theorem dX12_mirrorHas_46 : decode cX12_mirrorHas 46 = .ok (.iload_n 2, 1) := by decide +kernel
theorem dX12_mirrorHas_47 : decode cX12_mirrorHas 47 = .ok (.iconst 1, 1) := by decide +kernel
theorem dX12_mirrorHas_48 : decode cX12_mirrorHas 48 = .ok (.iadd, 1) := by decide +kernel
theorem dX12_mirrorHas_49 : decode cX12_mirrorHas 49 = .ok (.if_icmp .ne 21, 3) := by decide +kernel
theorem dX12_mirrorHas_52 : decode cX12_mirrorHas 52 = .ok (.aload_n 0, 1) := by decide +kernel
theorem dX12_mirrorHas_53 : decode cX12_mirrorHas 53 = .ok (.getfield 70, 3) := by decide +kernel
theorem dX12_mirrorHas_56 : decode cX12_mirrorHas 56 = .ok (.iload 5, 2) := by decide +kernel
theorem dX12_mirrorHas_58 : decode cX12_mirrorHas 58 = .ok (.iaload, 1) := by decide +kernel
theorem dX12_mirrorHas_59 : decode cX12_mirrorHas 59 = .ok (.iload_n 2, 1) := by decide +kernel
theorem dX12_mirrorHas_60 : decode cX12_mirrorHas 60 = .ok (.if_icmp .ne 7, 3) := by decide +kernel
theorem dX12_mirrorHas_63 : decode cX12_mirrorHas 63 = .ok (.iconst 1, 1) := by decide +kernel
theorem dX12_mirrorHas_64 : decode cX12_mirrorHas 64 = .ok (.goto 4, 3) := by decide +kernel
theorem dX12_mirrorHas_67 : decode cX12_mirrorHas 67 = .ok (.iconst 0, 1) := by decide +kernel
theorem dX12_mirrorHas_68 : decode cX12_mirrorHas 68 = .ok (.istore 4, 2) := by decide +kernel
theorem dX12_mirrorHas_70 : decode cX12_mirrorHas 70 = .ok (.iinc 5 1, 3) := by decide +kernel
theorem dX12_mirrorHas_73 : decode cX12_mirrorHas 73 = .ok (.goto (-67), 3) := by decide +kernel
theorem dX12_mirrorHas_76 : decode cX12_mirrorHas 76 = .ok (.iload 4, 2) := by decide +kernel
theorem dX12_mirrorHas_78 : decode cX12_mirrorHas 78 = .ok (.ireturn, 1) := by decide +kernel
theorem dX12_has_0 : decode cX12_has 0 = .ok (.aload_n 0, 1) := by decide +kernel
theorem dX12_has_1 : decode cX12_has 1 = .ok (.iload_n 1, 1) := by decide +kernel
theorem dX12_has_2 : decode cX12_has 2 = .ok (.invokevirtual 339, 3) := by decide +kernel
theorem dX12_has_5 : decode cX12_has 5 = .ok (.ifCond .eq 33, 3) := by decide +kernel
theorem dX12_has_8 : decode cX12_has 8 = .ok (.iload_n 2, 1) := by decide +kernel
theorem dX12_has_9 : decode cX12_has 9 = .ok (.i2l, 1) := by decide +kernel
theorem dX12_has_10 : decode cX12_has 10 = .ok (.lconst 0, 1) := by decide +kernel
theorem dX12_has_11 : decode cX12_has 11 = .ok (.aload_n 0, 1) := by decide +kernel
theorem dX12_has_12 : decode cX12_has 12 = .ok (.getfield 156, 3) := by decide +kernel
theorem dX12_has_15 : decode cX12_has 15 = .ok (.iconst 1, 1) := by decide +kernel
theorem dX12_has_16 : decode cX12_has 16 = .ok (.isub, 1) := by decide +kernel
theorem dX12_has_17 : decode cX12_has 17 = .ok (.i2l, 1) := by decide +kernel
theorem dX12_has_18 : decode cX12_has 18 = .ok (.invokestatic 144, 3) := by decide +kernel
theorem dX12_has_21 : decode cX12_has 21 = .ok (.ifCond .eq 17, 3) := by decide +kernel
theorem dX12_has_24 : decode cX12_has 24 = .ok (.aload_n 0, 1) := by decide +kernel
theorem dX12_has_25 : decode cX12_has 25 = .ok (.iload_n 1, 1) := by decide +kernel
theorem dX12_has_26 : decode cX12_has 26 = .ok (.iconst 0, 1) := by decide +kernel
theorem dX12_has_27 : decode cX12_has 27 = .ok (.iload_n 2, 1) := by decide +kernel
theorem dX12_has_28 : decode cX12_has 28 = .ok (.invokevirtual 342, 3) := by decide +kernel
theorem dX12_has_31 : decode cX12_has 31 = .ok (.ifCond .eq 7, 3) := by decide +kernel
theorem dX12_has_34 : decode cX12_has 34 = .ok (.iconst 1, 1) := by decide +kernel
theorem dX12_has_35 : decode cX12_has 35 = .ok (.goto 4, 3) := by decide +kernel
theorem dX12_has_38 : decode cX12_has 38 = .ok (.iconst 0, 1) := by decide +kernel
theorem dX12_has_39 : decode cX12_has 39 = .ok (.ireturn, 1) := by decide +kernel
theorem dX12_lacks_0 : decode cX12_lacks 0 = .ok (.iconst 0, 1) := by decide +kernel
theorem dX12_lacks_1 : decode cX12_lacks 1 = .ok (.istore_n 3, 1) := by decide +kernel
theorem dX12_lacks_2 : decode cX12_lacks 2 = .ok (.iconst 0, 1) := by decide +kernel
theorem dX12_lacks_3 : decode cX12_lacks 3 = .ok (.istore 4, 2) := by decide +kernel
theorem dX12_lacks_5 : decode cX12_lacks 5 = .ok (.iload 4, 2) := by decide +kernel
theorem dX12_lacks_7 : decode cX12_lacks 7 = .ok (.aload_n 0, 1) := by decide +kernel
theorem dX12_lacks_8 : decode cX12_lacks 8 = .ok (.getfield 64, 3) := by decide +kernel
theorem dX12_lacks_11 : decode cX12_lacks 11 = .ok (.iload_n 2, 1) := by decide +kernel
theorem dX12_lacks_12 : decode cX12_lacks 12 = .ok (.iaload, 1) := by decide +kernel
theorem dX12_lacks_13 : decode cX12_lacks 13 = .ok (.if_icmp .ge 74, 3) := by decide +kernel
theorem dX12_lacks_16 : decode cX12_lacks 16 = .ok (.aload_n 0, 1) := by decide +kernel
theorem dX12_lacks_17 : decode cX12_lacks 17 = .ok (.aload_n 0, 1) := by decide +kernel
theorem dX12_lacks_18 : decode cX12_lacks 18 = .ok (.getfield 67, 3) := by decide +kernel
theorem dX12_lacks_21 : decode cX12_lacks 21 = .ok (.bipush 8, 2) := by decide +kernel
theorem dX12_lacks_23 : decode cX12_lacks 23 = .ok (.iload_n 2, 1) := by decide +kernel
theorem dX12_lacks_24 : decode cX12_lacks 24 = .ok (.imul, 1) := by decide +kernel
theorem dX12_lacks_25 : decode cX12_lacks 25 = .ok (.iload 4, 2) := by decide +kernel
theorem dX12_lacks_27 : decode cX12_lacks 27 = .ok (.iadd, 1) := by decide +kernel
theorem dX12_lacks_28 : decode cX12_lacks 28 = .ok (.iaload, 1) := by decide +kernel
theorem dX12_lacks_29 : decode cX12_lacks 29 = .ok (.invokevirtual 208, 3) := by decide +kernel
theorem dX12_lacks_32 : decode cX12_lacks 32 = .ok (.iconst 0, 1) := by decide +kernel
theorem dX12_lacks_33 : decode cX12_lacks 33 = .ok (.istore 5, 2) := by decide +kernel
theorem dX12_lacks_35 : decode cX12_lacks 35 = .ok (.iload 5, 2) := by decide +kernel
theorem dX12_lacks_37 : decode cX12_lacks 37 = .ok (.aload_n 0, 1) := by decide +kernel
theorem dX12_lacks_38 : decode cX12_lacks 38 = .ok (.getfield 156, 3) := by decide +kernel
theorem dX12_lacks_41 : decode cX12_lacks 41 = .ok (.if_icmp .ge 40, 3) := by decide +kernel
theorem dX12_lacks_44 : decode cX12_lacks 44 = .ok (.iload_n 3, 1) := by decide +kernel
theorem dX12_lacks_45 : decode cX12_lacks 45 = .ok (.ifCond .ne 24, 3) := by decide +kernel
theorem dX12_lacks_48 : decode cX12_lacks 48 = .ok (.aload_n 0, 1) := by decide +kernel
theorem dX12_lacks_49 : decode cX12_lacks 49 = .ok (.getfield 109, 3) := by decide +kernel
theorem dX12_lacks_52 : decode cX12_lacks 52 = .ok (.iload 5, 2) := by decide +kernel
theorem dX12_lacks_54 : decode cX12_lacks 54 = .ok (.baload, 1) := by decide +kernel
theorem dX12_lacks_55 : decode cX12_lacks 55 = .ok (.ifCond .eq 18, 3) := by decide +kernel
theorem dX12_lacks_58 : decode cX12_lacks 58 = .ok (.aload_n 0, 1) := by decide +kernel
theorem dX12_lacks_59 : decode cX12_lacks 59 = .ok (.iload_n 1, 1) := by decide +kernel
theorem dX12_lacks_60 : decode cX12_lacks 60 = .ok (.iconst 0, 1) := by decide +kernel
theorem dX12_lacks_61 : decode cX12_lacks 61 = .ok (.iload 5, 2) := by decide +kernel
theorem dX12_lacks_63 : decode cX12_lacks 63 = .ok (.invokevirtual 342, 3) := by decide +kernel
theorem dX12_lacks_66 : decode cX12_lacks 66 = .ok (.ifCond .ne 7, 3) := by decide +kernel
theorem dX12_lacks_69 : decode cX12_lacks 69 = .ok (.iconst 1, 1) := by decide +kernel
theorem dX12_lacks_70 : decode cX12_lacks 70 = .ok (.goto 4, 3) := by decide +kernel
theorem dX12_lacks_73 : decode cX12_lacks 73 = .ok (.iconst 0, 1) := by decide +kernel
theorem dX12_lacks_74 : decode cX12_lacks 74 = .ok (.istore_n 3, 1) := by decide +kernel
theorem dX12_lacks_75 : decode cX12_lacks 75 = .ok (.iinc 5 1, 3) := by decide +kernel
theorem dX12_lacks_78 : decode cX12_lacks 78 = .ok (.goto (-43), 3) := by decide +kernel
theorem dX12_lacks_81 : decode cX12_lacks 81 = .ok (.iinc 4 1, 3) := by decide +kernel
theorem dX12_lacks_84 : decode cX12_lacks 84 = .ok (.goto (-79), 3) := by decide +kernel
theorem dX12_lacks_87 : decode cX12_lacks 87 = .ok (.iload_n 3, 1) := by decide +kernel
theorem dX12_lacks_88 : decode cX12_lacks 88 = .ok (.ireturn, 1) := by decide +kernel
theorem dX12_mirrored_0 : decode cX12_mirrored 0 = .ok (.aload_n 0, 1) := by decide +kernel
theorem dX12_mirrored_1 : decode cX12_mirrored 1 = .ok (.iload_n 1, 1) := by decide +kernel
theorem dX12_mirrored_2 : decode cX12_mirrored 2 = .ok (.invokevirtual 339, 3) := by decide +kernel
theorem dX12_mirrored_5 : decode cX12_mirrored 5 = .ok (.ifCond .ne 6, 3) := by decide +kernel
theorem dX12_mirrored_8 : decode cX12_mirrored 8 = .ok (.bipush (-101), 2) := by decide +kernel
theorem dX12_mirrored_10 : decode cX12_mirrored 10 = .ok (.ireturn, 1) := by decide +kernel
theorem dX12_mirrored_11 : decode cX12_mirrored 11 = .ok (.iload_n 2, 1) := by decide +kernel
theorem dX12_mirrored_12 : decode cX12_mirrored 12 = .ok (.i2l, 1) := by decide +kernel
theorem dX12_mirrored_13 : decode cX12_mirrored 13 = .ok (.lconst 0, 1) := by decide +kernel
theorem dX12_mirrored_14 : decode cX12_mirrored 14 = .ok (.ldc2_w 154, 3) := by decide +kernel
theorem dX12_mirrored_17 : decode cX12_mirrored 17 = .ok (.invokestatic 144, 3) := by decide +kernel
theorem dX12_mirrored_20 : decode cX12_mirrored 20 = .ok (.ifCond .ne 6, 3) := by decide +kernel
theorem dX12_mirrored_23 : decode cX12_mirrored 23 = .ok (.bipush (-102), 2) := by decide +kernel
theorem dX12_mirrored_25 : decode cX12_mirrored 25 = .ok (.ireturn, 1) := by decide +kernel
theorem dX12_mirrored_26 : decode cX12_mirrored 26 = .ok (.iload_n 2, 1) := by decide +kernel
theorem dX12_mirrored_27 : decode cX12_mirrored 27 = .ok (.ifCond .ne 12, 3) := by decide +kernel
theorem dX12_mirrored_30 : decode cX12_mirrored 30 = .ok (.aload_n 0, 1) := by decide +kernel
theorem dX12_mirrored_31 : decode cX12_mirrored 31 = .ok (.getfield 76, 3) := by decide +kernel
theorem dX12_mirrored_34 : decode cX12_mirrored 34 = .ok (.iload_n 1, 1) := by decide +kernel
theorem dX12_mirrored_35 : decode cX12_mirrored 35 = .ok (.iaload, 1) := by decide +kernel
theorem dX12_mirrored_36 : decode cX12_mirrored 36 = .ok (.goto 4, 3) := by decide +kernel
theorem dX12_mirrored_39 : decode cX12_mirrored 39 = .ok (.iconst 0, 1) := by decide +kernel
theorem dX12_mirrored_40 : decode cX12_mirrored 40 = .ok (.istore_n 3, 1) := by decide +kernel
theorem dX12_mirrored_41 : decode cX12_mirrored 41 = .ok (.iconst 0, 1) := by decide +kernel
theorem dX12_mirrored_42 : decode cX12_mirrored 42 = .ok (.istore 4, 2) := by decide +kernel
theorem dX12_mirrored_44 : decode cX12_mirrored 44 = .ok (.iload 4, 2) := by decide +kernel
theorem dX12_mirrored_46 : decode cX12_mirrored 46 = .ok (.aload_n 0, 1) := by decide +kernel
theorem dX12_mirrored_47 : decode cX12_mirrored 47 = .ok (.getfield 156, 3) := by decide +kernel
theorem dX12_mirrored_50 : decode cX12_mirrored 50 = .ok (.if_icmp .ge 33, 3) := by decide +kernel
theorem dX12_mirrored_53 : decode cX12_mirrored 53 = .ok (.iload_n 2, 1) := by decide +kernel
theorem dX12_mirrored_54 : decode cX12_mirrored 54 = .ok (.iconst 1, 1) := by decide +kernel
theorem dX12_mirrored_55 : decode cX12_mirrored 55 = .ok (.if_icmp .ne 28, 3) := by decide +kernel
theorem dX12_mirrored_58 : decode cX12_mirrored 58 = .ok (.iload_n 3, 1) := by decide +kernel
theorem dX12_mirrored_59 : decode cX12_mirrored 59 = .ok (.aload_n 0, 1) := by decide +kernel
theorem dX12_mirrored_60 : decode cX12_mirrored 60 = .ok (.iload_n 1, 1) := by decide +kernel
theorem dX12_mirrored_61 : decode cX12_mirrored 61 = .ok (.iconst 0, 1) := by decide +kernel
theorem dX12_mirrored_62 : decode cX12_mirrored 62 = .ok (.iload 4, 2) := by decide +kernel
theorem dX12_mirrored_64 : decode cX12_mirrored 64 = .ok (.invokevirtual 342, 3) := by decide +kernel
theorem dX12_mirrored_67 : decode cX12_mirrored 67 = .ok (.ifCond .eq 7, 3) := by decide +kernel
theorem dX12_mirrored_70 : decode cX12_mirrored 70 = .ok (.iconst 1, 1) := by decide +kernel
theorem dX12_mirrored_71 : decode cX12_mirrored 71 = .ok (.goto 4, 3) := by decide +kernel
theorem dX12_mirrored_74 : decode cX12_mirrored 74 = .ok (.iconst 0, 1) := by decide +kernel
theorem dX12_mirrored_75 : decode cX12_mirrored 75 = .ok (.iadd, 1) := by decide +kernel
theorem dX12_mirrored_76 : decode cX12_mirrored 76 = .ok (.istore_n 3, 1) := by decide +kernel
theorem dX12_mirrored_77 : decode cX12_mirrored 77 = .ok (.iinc 4 1, 3) := by decide +kernel
theorem dX12_mirrored_80 : decode cX12_mirrored 80 = .ok (.goto (-36), 3) := by decide +kernel
theorem dX12_mirrored_83 : decode cX12_mirrored 83 = .ok (.iconst 0, 1) := by decide +kernel
theorem dX12_mirrored_84 : decode cX12_mirrored 84 = .ok (.istore 4, 2) := by decide +kernel
theorem dX12_mirrored_86 : decode cX12_mirrored 86 = .ok (.iload 4, 2) := by decide +kernel
theorem dX12_mirrored_88 : decode cX12_mirrored 88 = .ok (.aload_n 0, 1) := by decide +kernel
theorem dX12_mirrored_89 : decode cX12_mirrored 89 = .ok (.getfield 218, 3) := by decide +kernel
theorem dX12_mirrored_92 : decode cX12_mirrored 92 = .ok (.if_icmp .ge 48, 3) := by decide +kernel
theorem dX12_mirrored_95 : decode cX12_mirrored 95 = .ok (.iload_n 2, 1) := by decide +kernel
theorem dX12_mirrored_96 : decode cX12_mirrored 96 = .ok (.iconst 1, 1) := by decide +kernel
theorem dX12_mirrored_97 : decode cX12_mirrored 97 = .ok (.if_icmp .le 43, 3) := by decide +kernel
theorem dX12_mirrored_100 : decode cX12_mirrored 100 = .ok (.iload_n 3, 1) := by decide +kernel
theorem dX12_mirrored_101 : decode cX12_mirrored 101 = .ok (.aload_n 0, 1) := by decide +kernel
theorem dX12_mirrored_102 : decode cX12_mirrored 102 = .ok (.iload_n 1, 1) := by decide +kernel
theorem dX12_mirrored_103 : decode cX12_mirrored 103 = .ok (.iconst 2, 1) := by decide +kernel
theorem dX12_mirrored_104 : decode cX12_mirrored 104 = .ok (.iload 4, 2) := by decide +kernel
theorem dX12_mirrored_106 : decode cX12_mirrored 106 = .ok (.invokevirtual 342, 3) := by decide +kernel
theorem dX12_mirrored_109 : decode cX12_mirrored 109 = .ok (.ifCond .eq 22, 3) := by decide +kernel
theorem dX12_mirrored_112 : decode cX12_mirrored 112 = .ok (.iload_n 2, 1) := by decide +kernel
theorem dX12_mirrored_113 : decode cX12_mirrored 113 = .ok (.iconst 2, 1) := by decide +kernel
theorem dX12_mirrored_114 : decode cX12_mirrored 114 = .ok (.if_icmp .eq 13, 3) := by decide +kernel
theorem dX12_mirrored_117 : decode cX12_mirrored 117 = .ok (.aload_n 0, 1) := by decide +kernel
theorem dX12_mirrored_118 : decode cX12_mirrored 118 = .ok (.iload_n 1, 1) := by decide +kernel
theorem dX12_mirrored_119 : decode cX12_mirrored 119 = .ok (.iload 4, 2) := by decide +kernel
theorem dX12_mirrored_121 : decode cX12_mirrored 121 = .ok (.invokevirtual 346, 3) := by decide +kernel
theorem dX12_mirrored_124 : decode cX12_mirrored 124 = .ok (.ifCond .eq 7, 3) := by decide +kernel
theorem dX12_mirrored_127 : decode cX12_mirrored 127 = .ok (.iconst 1, 1) := by decide +kernel
theorem dX12_mirrored_128 : decode cX12_mirrored 128 = .ok (.goto 4, 3) := by decide +kernel
theorem dX12_mirrored_131 : decode cX12_mirrored 131 = .ok (.iconst 0, 1) := by decide +kernel
theorem dX12_mirrored_132 : decode cX12_mirrored 132 = .ok (.iadd, 1) := by decide +kernel
theorem dX12_mirrored_133 : decode cX12_mirrored 133 = .ok (.istore_n 3, 1) := by decide +kernel
theorem dX12_mirrored_134 : decode cX12_mirrored 134 = .ok (.iinc 4 1, 3) := by decide +kernel
theorem dX12_mirrored_137 : decode cX12_mirrored 137 = .ok (.goto (-51), 3) := by decide +kernel
theorem dX12_mirrored_140 : decode cX12_mirrored 140 = .ok (.iload_n 3, 1) := by decide +kernel
theorem dX12_mirrored_141 : decode cX12_mirrored 141 = .ok (.ireturn, 1) := by decide +kernel
theorem dX12_lostFrom_0 : decode cX12_lostFrom 0 = .ok (.aload_n 0, 1) := by decide +kernel
theorem dX12_lostFrom_1 : decode cX12_lostFrom 1 = .ok (.iload_n 1, 1) := by decide +kernel
theorem dX12_lostFrom_2 : decode cX12_lostFrom 2 = .ok (.invokevirtual 208, 3) := by decide +kernel
theorem dX12_lostFrom_5 : decode cX12_lostFrom 5 = .ok (.iconst 0, 1) := by decide +kernel
theorem dX12_lostFrom_6 : decode cX12_lostFrom 6 = .ok (.istore_n 2, 1) := by decide +kernel
theorem dX12_lostFrom_7 : decode cX12_lostFrom 7 = .ok (.iconst 0, 1) := by decide +kernel
theorem dX12_lostFrom_8 : decode cX12_lostFrom 8 = .ok (.istore_n 3, 1) := by decide +kernel
theorem dX12_lostFrom_9 : decode cX12_lostFrom 9 = .ok (.iload_n 3, 1) := by decide +kernel
theorem dX12_lostFrom_10 : decode cX12_lostFrom 10 = .ok (.iload_n 1, 1) := by decide +kernel
theorem dX12_lostFrom_11 : decode cX12_lostFrom 11 = .ok (.if_icmp .gt 35, 3) := by decide +kernel
theorem dX12_lostFrom_14 : decode cX12_lostFrom 14 = .ok (.iload_n 2, 1) := by decide +kernel
theorem dX12_lostFrom_15 : decode cX12_lostFrom 15 = .ok (.aload_n 0, 1) := by decide +kernel
theorem dX12_lostFrom_16 : decode cX12_lostFrom 16 = .ok (.getfield 109, 3) := by decide +kernel
theorem dX12_lostFrom_19 : decode cX12_lostFrom 19 = .ok (.iload_n 3, 1) := by decide +kernel
theorem dX12_lostFrom_20 : decode cX12_lostFrom 20 = .ok (.baload, 1) := by decide +kernel
theorem dX12_lostFrom_21 : decode cX12_lostFrom 21 = .ok (.ifCond .eq 16, 3) := by decide +kernel
theorem dX12_lostFrom_24 : decode cX12_lostFrom 24 = .ok (.aload_n 0, 1) := by decide +kernel
theorem dX12_lostFrom_25 : decode cX12_lostFrom 25 = .ok (.getfield 33, 3) := by decide +kernel
theorem dX12_lostFrom_28 : decode cX12_lostFrom 28 = .ok (.iload_n 3, 1) := by decide +kernel
theorem dX12_lostFrom_29 : decode cX12_lostFrom 29 = .ok (.baload, 1) := by decide +kernel
theorem dX12_lostFrom_30 : decode cX12_lostFrom 30 = .ok (.ifCond .ne 7, 3) := by decide +kernel
theorem dX12_lostFrom_33 : decode cX12_lostFrom 33 = .ok (.iconst 1, 1) := by decide +kernel
theorem dX12_lostFrom_34 : decode cX12_lostFrom 34 = .ok (.goto 4, 3) := by decide +kernel
theorem dX12_lostFrom_37 : decode cX12_lostFrom 37 = .ok (.iconst 0, 1) := by decide +kernel
theorem dX12_lostFrom_38 : decode cX12_lostFrom 38 = .ok (.iadd, 1) := by decide +kernel
theorem dX12_lostFrom_39 : decode cX12_lostFrom 39 = .ok (.istore_n 2, 1) := by decide +kernel
theorem dX12_lostFrom_40 : decode cX12_lostFrom 40 = .ok (.iinc 3 1, 3) := by decide +kernel
theorem dX12_lostFrom_43 : decode cX12_lostFrom 43 = .ok (.goto (-34), 3) := by decide +kernel
theorem dX12_lostFrom_46 : decode cX12_lostFrom 46 = .ok (.iload_n 2, 1) := by decide +kernel
theorem dX12_lostFrom_47 : decode cX12_lostFrom 47 = .ok (.ireturn, 1) := by decide +kernel
theorem dX12_wrongPlaces_0 : decode cX12_wrongPlaces 0 = .ok (.iconst 0, 1) := by decide +kernel
theorem dX12_wrongPlaces_1 : decode cX12_wrongPlaces 1 = .ok (.istore_n 1, 1) := by decide +kernel
theorem dX12_wrongPlaces_2 : decode cX12_wrongPlaces 2 = .ok (.iconst 0, 1) := by decide +kernel
theorem dX12_wrongPlaces_3 : decode cX12_wrongPlaces 3 = .ok (.istore_n 2, 1) := by decide +kernel
theorem dX12_wrongPlaces_4 : decode cX12_wrongPlaces 4 = .ok (.iload_n 2, 1) := by decide +kernel
theorem dX12_wrongPlaces_5 : decode cX12_wrongPlaces 5 = .ok (.aload_n 0, 1) := by decide +kernel
theorem dX12_wrongPlaces_6 : decode cX12_wrongPlaces 6 = .ok (.getfield 156, 3) := by decide +kernel
theorem dX12_wrongPlaces_9 : decode cX12_wrongPlaces 9 = .ok (.if_icmp .ge 176, 3) := by decide +kernel
theorem dX12_wrongPlaces_12 : decode cX12_wrongPlaces 12 = .ok (.aload_n 0, 1) := by decide +kernel
theorem dX12_wrongPlaces_13 : decode cX12_wrongPlaces 13 = .ok (.getfield 33, 3) := by decide +kernel
theorem dX12_wrongPlaces_16 : decode cX12_wrongPlaces 16 = .ok (.iload_n 2, 1) := by decide +kernel
theorem dX12_wrongPlaces_17 : decode cX12_wrongPlaces 17 = .ok (.baload, 1) := by decide +kernel
theorem dX12_wrongPlaces_18 : decode cX12_wrongPlaces 18 = .ok (.ifCond .eq 161, 3) := by decide +kernel
theorem dX12_wrongPlaces_21 : decode cX12_wrongPlaces 21 = .ok (.aload_n 0, 1) := by decide +kernel
theorem dX12_wrongPlaces_22 : decode cX12_wrongPlaces 22 = .ok (.getfield 37, 3) := by decide +kernel
theorem dX12_wrongPlaces_25 : decode cX12_wrongPlaces 25 = .ok (.iload_n 2, 1) := by decide +kernel
theorem dX12_wrongPlaces_26 : decode cX12_wrongPlaces 26 = .ok (.iaload, 1) := by decide +kernel
theorem dX12_wrongPlaces_27 : decode cX12_wrongPlaces 27 = .ok (.istore_n 3, 1) := by decide +kernel
theorem dX12_wrongPlaces_28 : decode cX12_wrongPlaces 28 = .ok (.iload_n 1, 1) := by decide +kernel
theorem dX12_wrongPlaces_29 : decode cX12_wrongPlaces 29 = .ok (.aload_n 0, 1) := by decide +kernel
theorem dX12_wrongPlaces_30 : decode cX12_wrongPlaces 30 = .ok (.getfield 46, 3) := by decide +kernel
theorem dX12_wrongPlaces_33 : decode cX12_wrongPlaces 33 = .ok (.iload_n 3, 1) := by decide +kernel
theorem dX12_wrongPlaces_34 : decode cX12_wrongPlaces 34 = .ok (.baload, 1) := by decide +kernel
theorem dX12_wrongPlaces_35 : decode cX12_wrongPlaces 35 = .ok (.ifCond .ne 34, 3) := by decide +kernel
theorem dX12_wrongPlaces_38 : decode cX12_wrongPlaces 38 = .ok (.aload_n 0, 1) := by decide +kernel
theorem dX12_wrongPlaces_39 : decode cX12_wrongPlaces 39 = .ok (.getfield 40, 3) := by decide +kernel
theorem dX12_wrongPlaces_42 : decode cX12_wrongPlaces 42 = .ok (.iload_n 2, 1) := by decide +kernel
theorem dX12_wrongPlaces_43 : decode cX12_wrongPlaces 43 = .ok (.iaload, 1) := by decide +kernel
theorem dX12_wrongPlaces_44 : decode cX12_wrongPlaces 44 = .ok (.ifCond .lt 25, 3) := by decide +kernel
theorem dX12_wrongPlaces_47 : decode cX12_wrongPlaces 47 = .ok (.aload_n 0, 1) := by decide +kernel
theorem dX12_wrongPlaces_48 : decode cX12_wrongPlaces 48 = .ok (.getfield 40, 3) := by decide +kernel
theorem dX12_wrongPlaces_51 : decode cX12_wrongPlaces 51 = .ok (.iload_n 2, 1) := by decide +kernel
theorem dX12_wrongPlaces_52 : decode cX12_wrongPlaces 52 = .ok (.iaload, 1) := by decide +kernel
theorem dX12_wrongPlaces_53 : decode cX12_wrongPlaces 53 = .ok (.aload_n 0, 1) := by decide +kernel
theorem dX12_wrongPlaces_54 : decode cX12_wrongPlaces 54 = .ok (.getfield 23, 3) := by decide +kernel
theorem dX12_wrongPlaces_57 : decode cX12_wrongPlaces 57 = .ok (.iload_n 2, 1) := by decide +kernel
theorem dX12_wrongPlaces_58 : decode cX12_wrongPlaces 58 = .ok (.iaload, 1) := by decide +kernel
theorem dX12_wrongPlaces_59 : decode cX12_wrongPlaces 59 = .ok (.iadd, 1) := by decide +kernel
theorem dX12_wrongPlaces_60 : decode cX12_wrongPlaces 60 = .ok (.aload_n 0, 1) := by decide +kernel
theorem dX12_wrongPlaces_61 : decode cX12_wrongPlaces 61 = .ok (.getfield 49, 3) := by decide +kernel
theorem dX12_wrongPlaces_64 : decode cX12_wrongPlaces 64 = .ok (.iload_n 3, 1) := by decide +kernel
theorem dX12_wrongPlaces_65 : decode cX12_wrongPlaces 65 = .ok (.iaload, 1) := by decide +kernel
theorem dX12_wrongPlaces_66 : decode cX12_wrongPlaces 66 = .ok (.if_icmp .le 7, 3) := by decide +kernel
theorem dX12_wrongPlaces_69 : decode cX12_wrongPlaces 69 = .ok (.iconst 1, 1) := by decide +kernel
theorem dX12_wrongPlaces_70 : decode cX12_wrongPlaces 70 = .ok (.goto 4, 3) := by decide +kernel
theorem dX12_wrongPlaces_73 : decode cX12_wrongPlaces 73 = .ok (.iconst 0, 1) := by decide +kernel
theorem dX12_wrongPlaces_74 : decode cX12_wrongPlaces 74 = .ok (.iadd, 1) := by decide +kernel
theorem dX12_wrongPlaces_75 : decode cX12_wrongPlaces 75 = .ok (.istore_n 1, 1) := by decide +kernel
theorem dX12_wrongPlaces_76 : decode cX12_wrongPlaces 76 = .ok (.iconst 0, 1) := by decide +kernel
theorem dX12_wrongPlaces_77 : decode cX12_wrongPlaces 77 = .ok (.istore 4, 2) := by decide +kernel
theorem dX12_wrongPlaces_79 : decode cX12_wrongPlaces 79 = .ok (.iload 4, 2) := by decide +kernel
theorem dX12_wrongPlaces_81 : decode cX12_wrongPlaces 81 = .ok (.iload_n 2, 1) := by decide +kernel
theorem dX12_wrongPlaces_82 : decode cX12_wrongPlaces 82 = .ok (.if_icmp .ge 97, 3) := by decide +kernel
theorem dX12_wrongPlaces_85 : decode cX12_wrongPlaces 85 = .ok (.aload_n 0, 1) := by decide +kernel
theorem dX12_wrongPlaces_86 : decode cX12_wrongPlaces 86 = .ok (.getfield 40, 3) := by decide +kernel
theorem dX12_wrongPlaces_89 : decode cX12_wrongPlaces 89 = .ok (.iload 4, 2) := by decide +kernel
theorem dX12_wrongPlaces_91 : decode cX12_wrongPlaces 91 = .ok (.iaload, 1) := by decide +kernel
theorem dX12_wrongPlaces_92 : decode cX12_wrongPlaces 92 = .ok (.aload_n 0, 1) := by decide +kernel
theorem dX12_wrongPlaces_93 : decode cX12_wrongPlaces 93 = .ok (.getfield 40, 3) := by decide +kernel
theorem dX12_wrongPlaces_96 : decode cX12_wrongPlaces 96 = .ok (.iload_n 2, 1) := by decide +kernel
theorem dX12_wrongPlaces_97 : decode cX12_wrongPlaces 97 = .ok (.iaload, 1) := by decide +kernel
theorem dX12_wrongPlaces_98 : decode cX12_wrongPlaces 98 = .ok (.aload_n 0, 1) := by decide +kernel
theorem dX12_wrongPlaces_99 : decode cX12_wrongPlaces 99 = .ok (.getfield 23, 3) := by decide +kernel
theorem dX12_wrongPlaces_102 : decode cX12_wrongPlaces 102 = .ok (.iload_n 2, 1) := by decide +kernel
theorem dX12_wrongPlaces_103 : decode cX12_wrongPlaces 103 = .ok (.iaload, 1) := by decide +kernel
theorem dX12_wrongPlaces_104 : decode cX12_wrongPlaces 104 = .ok (.iadd, 1) := by decide +kernel
theorem dX12_wrongPlaces_105 : decode cX12_wrongPlaces 105 = .ok (.if_icmp .ge 31, 3) := by decide +kernel
theorem dX12_wrongPlaces_108 : decode cX12_wrongPlaces 108 = .ok (.aload_n 0, 1) := by decide +kernel
theorem dX12_wrongPlaces_109 : decode cX12_wrongPlaces 109 = .ok (.getfield 40, 3) := by decide +kernel
theorem dX12_wrongPlaces_112 : decode cX12_wrongPlaces 112 = .ok (.iload_n 2, 1) := by decide +kernel
theorem dX12_wrongPlaces_113 : decode cX12_wrongPlaces 113 = .ok (.iaload, 1) := by decide +kernel
theorem dX12_wrongPlaces_114 : decode cX12_wrongPlaces 114 = .ok (.aload_n 0, 1) := by decide +kernel
theorem dX12_wrongPlaces_115 : decode cX12_wrongPlaces 115 = .ok (.getfield 40, 3) := by decide +kernel
theorem dX12_wrongPlaces_118 : decode cX12_wrongPlaces 118 = .ok (.iload 4, 2) := by decide +kernel
theorem dX12_wrongPlaces_120 : decode cX12_wrongPlaces 120 = .ok (.iaload, 1) := by decide +kernel
theorem dX12_wrongPlaces_121 : decode cX12_wrongPlaces 121 = .ok (.aload_n 0, 1) := by decide +kernel
theorem dX12_wrongPlaces_122 : decode cX12_wrongPlaces 122 = .ok (.getfield 23, 3) := by decide +kernel
theorem dX12_wrongPlaces_125 : decode cX12_wrongPlaces 125 = .ok (.iload 4, 2) := by decide +kernel
theorem dX12_wrongPlaces_127 : decode cX12_wrongPlaces 127 = .ok (.iaload, 1) := by decide +kernel
theorem dX12_wrongPlaces_128 : decode cX12_wrongPlaces 128 = .ok (.iadd, 1) := by decide +kernel
theorem dX12_wrongPlaces_129 : decode cX12_wrongPlaces 129 = .ok (.if_icmp .ge 7, 3) := by decide +kernel
theorem dX12_wrongPlaces_132 : decode cX12_wrongPlaces 132 = .ok (.iconst 1, 1) := by decide +kernel
theorem dX12_wrongPlaces_133 : decode cX12_wrongPlaces 133 = .ok (.goto 4, 3) := by decide +kernel
theorem dX12_wrongPlaces_136 : decode cX12_wrongPlaces 136 = .ok (.iconst 0, 1) := by decide +kernel
theorem dX12_wrongPlaces_137 : decode cX12_wrongPlaces 137 = .ok (.istore 5, 2) := by decide +kernel
theorem dX12_wrongPlaces_139 : decode cX12_wrongPlaces 139 = .ok (.iload_n 1, 1) := by decide +kernel
theorem dX12_wrongPlaces_140 : decode cX12_wrongPlaces 140 = .ok (.aload_n 0, 1) := by decide +kernel
theorem dX12_wrongPlaces_141 : decode cX12_wrongPlaces 141 = .ok (.getfield 33, 3) := by decide +kernel
theorem dX12_wrongPlaces_144 : decode cX12_wrongPlaces 144 = .ok (.iload 4, 2) := by decide +kernel
theorem dX12_wrongPlaces_146 : decode cX12_wrongPlaces 146 = .ok (.baload, 1) := by decide +kernel
theorem dX12_wrongPlaces_147 : decode cX12_wrongPlaces 147 = .ok (.ifCond .eq 23, 3) := by decide +kernel
theorem dX12_wrongPlaces_150 : decode cX12_wrongPlaces 150 = .ok (.aload_n 0, 1) := by decide +kernel
theorem dX12_wrongPlaces_151 : decode cX12_wrongPlaces 151 = .ok (.getfield 37, 3) := by decide +kernel
theorem dX12_wrongPlaces_154 : decode cX12_wrongPlaces 154 = .ok (.iload 4, 2) := by decide +kernel
theorem dX12_wrongPlaces_156 : decode cX12_wrongPlaces 156 = .ok (.iaload, 1) := by decide +kernel
theorem dX12_wrongPlaces_157 : decode cX12_wrongPlaces 157 = .ok (.iload_n 3, 1) := by decide +kernel
theorem dX12_wrongPlaces_158 : decode cX12_wrongPlaces 158 = .ok (.if_icmp .ne 12, 3) := by decide +kernel
theorem dX12_wrongPlaces_161 : decode cX12_wrongPlaces 161 = .ok (.iload 5, 2) := by decide +kernel
theorem dX12_wrongPlaces_163 : decode cX12_wrongPlaces 163 = .ok (.ifCond .eq 7, 3) := by decide +kernel
theorem dX12_wrongPlaces_166 : decode cX12_wrongPlaces 166 = .ok (.iconst 1, 1) := by decide +kernel
theorem dX12_wrongPlaces_167 : decode cX12_wrongPlaces 167 = .ok (.goto 4, 3) := by decide +kernel
theorem dX12_wrongPlaces_170 : decode cX12_wrongPlaces 170 = .ok (.iconst 0, 1) := by decide +kernel
theorem dX12_wrongPlaces_171 : decode cX12_wrongPlaces 171 = .ok (.iadd, 1) := by decide +kernel
theorem dX12_wrongPlaces_172 : decode cX12_wrongPlaces 172 = .ok (.istore_n 1, 1) := by decide +kernel
theorem dX12_wrongPlaces_173 : decode cX12_wrongPlaces 173 = .ok (.iinc 4 1, 3) := by decide +kernel
theorem dX12_wrongPlaces_176 : decode cX12_wrongPlaces 176 = .ok (.goto (-97), 3) := by decide +kernel
theorem dX12_wrongPlaces_179 : decode cX12_wrongPlaces 179 = .ok (.iinc 2 1, 3) := by decide +kernel
theorem dX12_wrongPlaces_182 : decode cX12_wrongPlaces 182 = .ok (.goto (-178), 3) := by decide +kernel
theorem dX12_wrongPlaces_185 : decode cX12_wrongPlaces 185 = .ok (.iconst 0, 1) := by decide +kernel
theorem dX12_wrongPlaces_186 : decode cX12_wrongPlaces 186 = .ok (.istore_n 2, 1) := by decide +kernel
theorem dX12_wrongPlaces_187 : decode cX12_wrongPlaces 187 = .ok (.iload_n 2, 1) := by decide +kernel
theorem dX12_wrongPlaces_188 : decode cX12_wrongPlaces 188 = .ok (.aload_n 0, 1) := by decide +kernel
theorem dX12_wrongPlaces_189 : decode cX12_wrongPlaces 189 = .ok (.getfield 178, 3) := by decide +kernel
theorem dX12_wrongPlaces_192 : decode cX12_wrongPlaces 192 = .ok (.if_icmp .ge 53, 3) := by decide +kernel
theorem dX12_wrongPlaces_195 : decode cX12_wrongPlaces 195 = .ok (.iload_n 1, 1) := by decide +kernel
theorem dX12_wrongPlaces_196 : decode cX12_wrongPlaces 196 = .ok (.aload_n 0, 1) := by decide +kernel
theorem dX12_wrongPlaces_197 : decode cX12_wrongPlaces 197 = .ok (.getfield 49, 3) := by decide +kernel
theorem dX12_wrongPlaces_200 : decode cX12_wrongPlaces 200 = .ok (.iload_n 2, 1) := by decide +kernel
theorem dX12_wrongPlaces_201 : decode cX12_wrongPlaces 201 = .ok (.iaload, 1) := by decide +kernel
theorem dX12_wrongPlaces_202 : decode cX12_wrongPlaces 202 = .ok (.aload_n 0, 1) := by decide +kernel
theorem dX12_wrongPlaces_203 : decode cX12_wrongPlaces 203 = .ok (.getfield 124, 3) := by decide +kernel
theorem dX12_wrongPlaces_206 : decode cX12_wrongPlaces 206 = .ok (.if_icmp .gt 26, 3) := by decide +kernel
theorem dX12_wrongPlaces_209 : decode cX12_wrongPlaces 209 = .ok (.aload_n 0, 1) := by decide +kernel
theorem dX12_wrongPlaces_210 : decode cX12_wrongPlaces 210 = .ok (.getfield 46, 3) := by decide +kernel
theorem dX12_wrongPlaces_213 : decode cX12_wrongPlaces 213 = .ok (.iload_n 2, 1) := by decide +kernel
theorem dX12_wrongPlaces_214 : decode cX12_wrongPlaces 214 = .ok (.baload, 1) := by decide +kernel
theorem dX12_wrongPlaces_215 : decode cX12_wrongPlaces 215 = .ok (.ifCond .ne 21, 3) := by decide +kernel
theorem dX12_wrongPlaces_218 : decode cX12_wrongPlaces 218 = .ok (.aload_n 0, 1) := by decide +kernel
theorem dX12_wrongPlaces_219 : decode cX12_wrongPlaces 219 = .ok (.iload_n 2, 1) := by decide +kernel
theorem dX12_wrongPlaces_220 : decode cX12_wrongPlaces 220 = .ok (.invokevirtual 288, 3) := by decide +kernel
theorem dX12_wrongPlaces_223 : decode cX12_wrongPlaces 223 = .ok (.aload_n 0, 1) := by decide +kernel
theorem dX12_wrongPlaces_224 : decode cX12_wrongPlaces 224 = .ok (.getfield 49, 3) := by decide +kernel
theorem dX12_wrongPlaces_227 : decode cX12_wrongPlaces 227 = .ok (.iload_n 2, 1) := by decide +kernel
theorem dX12_wrongPlaces_228 : decode cX12_wrongPlaces 228 = .ok (.iaload, 1) := by decide +kernel
theorem dX12_wrongPlaces_229 : decode cX12_wrongPlaces 229 = .ok (.if_icmp .le 7, 3) := by decide +kernel
theorem dX12_wrongPlaces_232 : decode cX12_wrongPlaces 232 = .ok (.iconst 1, 1) := by decide +kernel
theorem dX12_wrongPlaces_233 : decode cX12_wrongPlaces 233 = .ok (.goto 4, 3) := by decide +kernel
theorem dX12_wrongPlaces_236 : decode cX12_wrongPlaces 236 = .ok (.iconst 0, 1) := by decide +kernel
theorem dX12_wrongPlaces_237 : decode cX12_wrongPlaces 237 = .ok (.iadd, 1) := by decide +kernel
theorem dX12_wrongPlaces_238 : decode cX12_wrongPlaces 238 = .ok (.istore_n 1, 1) := by decide +kernel
theorem dX12_wrongPlaces_239 : decode cX12_wrongPlaces 239 = .ok (.iinc 2 1, 3) := by decide +kernel
theorem dX12_wrongPlaces_242 : decode cX12_wrongPlaces 242 = .ok (.goto (-55), 3) := by decide +kernel
theorem dX12_wrongPlaces_245 : decode cX12_wrongPlaces 245 = .ok (.iload_n 1, 1) := by decide +kernel
theorem dX12_wrongPlaces_246 : decode cX12_wrongPlaces 246 = .ok (.ireturn, 1) := by decide +kernel
theorem dX12_audit_0 : decode cX12_audit 0 = .ok (.aload_n 0, 1) := by decide +kernel
theorem dX12_audit_1 : decode cX12_audit 1 = .ok (.invokevirtual 349, 3) := by decide +kernel
theorem dX12_audit_4 : decode cX12_audit 4 = .ok (.istore_n 1, 1) := by decide +kernel
theorem dX12_audit_5 : decode cX12_audit 5 = .ok (.iconst 0, 1) := by decide +kernel
theorem dX12_audit_6 : decode cX12_audit 6 = .ok (.istore_n 2, 1) := by decide +kernel
theorem dX12_audit_7 : decode cX12_audit 7 = .ok (.iload_n 2, 1) := by decide +kernel
theorem dX12_audit_8 : decode cX12_audit 8 = .ok (.aload_n 0, 1) := by decide +kernel
theorem dX12_audit_9 : decode cX12_audit 9 = .ok (.getfield 218, 3) := by decide +kernel
theorem dX12_audit_12 : decode cX12_audit 12 = .ok (.if_icmp .ge 54, 3) := by decide +kernel
theorem dX12_audit_15 : decode cX12_audit 15 = .ok (.iconst 0, 1) := by decide +kernel
theorem dX12_audit_16 : decode cX12_audit 16 = .ok (.istore_n 3, 1) := by decide +kernel
theorem dX12_audit_17 : decode cX12_audit 17 = .ok (.iload_n 3, 1) := by decide +kernel
theorem dX12_audit_18 : decode cX12_audit 18 = .ok (.aload_n 0, 1) := by decide +kernel
theorem dX12_audit_19 : decode cX12_audit 19 = .ok (.getfield 64, 3) := by decide +kernel
theorem dX12_audit_22 : decode cX12_audit 22 = .ok (.iload_n 2, 1) := by decide +kernel
theorem dX12_audit_23 : decode cX12_audit 23 = .ok (.iaload, 1) := by decide +kernel
theorem dX12_audit_24 : decode cX12_audit 24 = .ok (.if_icmp .ge 36, 3) := by decide +kernel
theorem dX12_audit_27 : decode cX12_audit 27 = .ok (.aload_n 0, 1) := by decide +kernel
theorem dX12_audit_28 : decode cX12_audit 28 = .ok (.getfield 55, 3) := by decide +kernel
theorem dX12_audit_31 : decode cX12_audit 31 = .ok (.iload_n 2, 1) := by decide +kernel
theorem dX12_audit_32 : decode cX12_audit 32 = .ok (.baload, 1) := by decide +kernel
theorem dX12_audit_33 : decode cX12_audit 33 = .ok (.ifCond .eq 27, 3) := by decide +kernel
theorem dX12_audit_36 : decode cX12_audit 36 = .ok (.iload_n 1, 1) := by decide +kernel
theorem dX12_audit_37 : decode cX12_audit 37 = .ok (.aload_n 0, 1) := by decide +kernel
theorem dX12_audit_38 : decode cX12_audit 38 = .ok (.aload_n 0, 1) := by decide +kernel
theorem dX12_audit_39 : decode cX12_audit 39 = .ok (.getfield 67, 3) := by decide +kernel
theorem dX12_audit_42 : decode cX12_audit 42 = .ok (.bipush 8, 2) := by decide +kernel
theorem dX12_audit_44 : decode cX12_audit 44 = .ok (.iload_n 2, 1) := by decide +kernel
theorem dX12_audit_45 : decode cX12_audit 45 = .ok (.imul, 1) := by decide +kernel
theorem dX12_audit_46 : decode cX12_audit 46 = .ok (.iload_n 3, 1) := by decide +kernel
theorem dX12_audit_47 : decode cX12_audit 47 = .ok (.iadd, 1) := by decide +kernel
theorem dX12_audit_48 : decode cX12_audit 48 = .ok (.iaload, 1) := by decide +kernel
theorem dX12_audit_49 : decode cX12_audit 49 = .ok (.invokevirtual 352, 3) := by decide +kernel
theorem dX12_audit_52 : decode cX12_audit 52 = .ok (.iadd, 1) := by decide +kernel
theorem dX12_audit_53 : decode cX12_audit 53 = .ok (.istore_n 1, 1) := by decide +kernel
theorem dX12_audit_54 : decode cX12_audit 54 = .ok (.iinc 3 1, 3) := by decide +kernel
theorem dX12_audit_57 : decode cX12_audit 57 = .ok (.goto (-40), 3) := by decide +kernel
theorem dX12_audit_60 : decode cX12_audit 60 = .ok (.iinc 2 1, 3) := by decide +kernel
theorem dX12_audit_63 : decode cX12_audit 63 = .ok (.goto (-56), 3) := by decide +kernel
theorem dX12_audit_66 : decode cX12_audit 66 = .ok (.iconst 0, 1) := by decide +kernel
theorem dX12_audit_67 : decode cX12_audit 67 = .ok (.istore_n 2, 1) := by decide +kernel
theorem dX12_audit_68 : decode cX12_audit 68 = .ok (.iload_n 2, 1) := by decide +kernel
theorem dX12_audit_69 : decode cX12_audit 69 = .ok (.iconst 4, 1) := by decide +kernel
theorem dX12_audit_70 : decode cX12_audit 70 = .ok (.if_icmp .ge 54, 3) := by decide +kernel
theorem dX12_audit_73 : decode cX12_audit 73 = .ok (.iconst 0, 1) := by decide +kernel
theorem dX12_audit_74 : decode cX12_audit 74 = .ok (.istore_n 3, 1) := by decide +kernel
theorem dX12_audit_75 : decode cX12_audit 75 = .ok (.iload_n 3, 1) := by decide +kernel
theorem dX12_audit_76 : decode cX12_audit 76 = .ok (.aload_n 0, 1) := by decide +kernel
theorem dX12_audit_77 : decode cX12_audit 77 = .ok (.getfield 88, 3) := by decide +kernel
theorem dX12_audit_80 : decode cX12_audit 80 = .ok (.iload_n 2, 1) := by decide +kernel
theorem dX12_audit_81 : decode cX12_audit 81 = .ok (.iaload, 1) := by decide +kernel
theorem dX12_audit_82 : decode cX12_audit 82 = .ok (.if_icmp .ge 36, 3) := by decide +kernel
theorem dX12_audit_85 : decode cX12_audit 85 = .ok (.aload_n 0, 1) := by decide +kernel
theorem dX12_audit_86 : decode cX12_audit 86 = .ok (.getfield 79, 3) := by decide +kernel
theorem dX12_audit_89 : decode cX12_audit 89 = .ok (.iload_n 2, 1) := by decide +kernel
theorem dX12_audit_90 : decode cX12_audit 90 = .ok (.baload, 1) := by decide +kernel
theorem dX12_audit_91 : decode cX12_audit 91 = .ok (.ifCond .eq 27, 3) := by decide +kernel
theorem dX12_audit_94 : decode cX12_audit 94 = .ok (.iload_n 1, 1) := by decide +kernel
theorem dX12_audit_95 : decode cX12_audit 95 = .ok (.aload_n 0, 1) := by decide +kernel
theorem dX12_audit_96 : decode cX12_audit 96 = .ok (.aload_n 0, 1) := by decide +kernel
theorem dX12_audit_97 : decode cX12_audit 97 = .ok (.getfield 91, 3) := by decide +kernel
theorem dX12_audit_100 : decode cX12_audit 100 = .ok (.bipush 8, 2) := by decide +kernel
theorem dX12_audit_102 : decode cX12_audit 102 = .ok (.iload_n 2, 1) := by decide +kernel
theorem dX12_audit_103 : decode cX12_audit 103 = .ok (.imul, 1) := by decide +kernel
theorem dX12_audit_104 : decode cX12_audit 104 = .ok (.iload_n 3, 1) := by decide +kernel
theorem dX12_audit_105 : decode cX12_audit 105 = .ok (.iadd, 1) := by decide +kernel
theorem dX12_audit_106 : decode cX12_audit 106 = .ok (.iaload, 1) := by decide +kernel
theorem dX12_audit_107 : decode cX12_audit 107 = .ok (.invokevirtual 352, 3) := by decide +kernel
theorem dX12_audit_110 : decode cX12_audit 110 = .ok (.iadd, 1) := by decide +kernel
theorem dX12_audit_111 : decode cX12_audit 111 = .ok (.istore_n 1, 1) := by decide +kernel
theorem dX12_audit_112 : decode cX12_audit 112 = .ok (.iinc 3 1, 3) := by decide +kernel
theorem dX12_audit_115 : decode cX12_audit 115 = .ok (.goto (-40), 3) := by decide +kernel
theorem dX12_audit_118 : decode cX12_audit 118 = .ok (.iinc 2 1, 3) := by decide +kernel
theorem dX12_audit_121 : decode cX12_audit 121 = .ok (.goto (-53), 3) := by decide +kernel
theorem dX12_audit_124 : decode cX12_audit 124 = .ok (.iconst 0, 1) := by decide +kernel
theorem dX12_audit_125 : decode cX12_audit 125 = .ok (.istore_n 2, 1) := by decide +kernel
theorem dX12_audit_126 : decode cX12_audit 126 = .ok (.iload_n 2, 1) := by decide +kernel
theorem dX12_audit_127 : decode cX12_audit 127 = .ok (.aload_n 0, 1) := by decide +kernel
theorem dX12_audit_128 : decode cX12_audit 128 = .ok (.getfield 156, 3) := by decide +kernel
theorem dX12_audit_131 : decode cX12_audit 131 = .ok (.if_icmp .ge 30, 3) := by decide +kernel
theorem dX12_audit_134 : decode cX12_audit 134 = .ok (.iload_n 1, 1) := by decide +kernel
theorem dX12_audit_135 : decode cX12_audit 135 = .ok (.aload_n 0, 1) := by decide +kernel
theorem dX12_audit_136 : decode cX12_audit 136 = .ok (.getfield 33, 3) := by decide +kernel
theorem dX12_audit_139 : decode cX12_audit 139 = .ok (.iload_n 2, 1) := by decide +kernel
theorem dX12_audit_140 : decode cX12_audit 140 = .ok (.baload, 1) := by decide +kernel
theorem dX12_audit_141 : decode cX12_audit 141 = .ok (.ifCond .eq 11, 3) := by decide +kernel
theorem dX12_audit_144 : decode cX12_audit 144 = .ok (.aload_n 0, 1) := by decide +kernel
theorem dX12_audit_145 : decode cX12_audit 145 = .ok (.iload_n 2, 1) := by decide +kernel
theorem dX12_audit_146 : decode cX12_audit 146 = .ok (.invokevirtual 352, 3) := by decide +kernel
theorem dX12_audit_149 : decode cX12_audit 149 = .ok (.goto 4, 3) := by decide +kernel
theorem dX12_audit_152 : decode cX12_audit 152 = .ok (.iconst 0, 1) := by decide +kernel
theorem dX12_audit_153 : decode cX12_audit 153 = .ok (.iadd, 1) := by decide +kernel
theorem dX12_audit_154 : decode cX12_audit 154 = .ok (.istore_n 1, 1) := by decide +kernel
theorem dX12_audit_155 : decode cX12_audit 155 = .ok (.iinc 2 1, 3) := by decide +kernel
theorem dX12_audit_158 : decode cX12_audit 158 = .ok (.goto (-32), 3) := by decide +kernel
theorem dX12_audit_161 : decode cX12_audit 161 = .ok (.iload_n 1, 1) := by decide +kernel
theorem dX12_audit_162 : decode cX12_audit 162 = .ok (.ireturn, 1) := by decide +kernel
