theorem dX8_lay_115 : decode cX8_lay 115 = .ok (.iastore, 1) := by decide +kernel
theorem dX8_lay_116 : decode cX8_lay 116 = .ok (.aload_n 0, 1) := by decide +kernel
theorem dX8_lay_117 : decode cX8_lay 117 = .ok (.getfield 19, 3) := by decide +kernel
theorem dX8_lay_120 : decode cX8_lay 120 = .ok (.iload_n 1, 1) := by decide +kernel
theorem dX8_lay_121 : decode cX8_lay 121 = .ok (.aload_n 0, 1) := by decide +kernel
theorem dX8_lay_122 : decode cX8_lay 122 = .ok (.getfield 19, 3) := by decide +kernel
theorem dX8_lay_125 : decode cX8_lay 125 = .ok (.bipush 8, 2) := by decide +kernel
theorem dX8_lay_127 : decode cX8_lay 127 = .ok (.iload_n 1, 1) := by decide +kernel
theorem dX8_lay_128 : decode cX8_lay 128 = .ok (.iadd, 1) := by decide +kernel
theorem dX8_lay_129 : decode cX8_lay 129 = .ok (.iaload, 1) := by decide +kernel
theorem dX8_lay_130 : decode cX8_lay 130 = .ok (.iastore, 1) := by decide +kernel
theorem dX8_lay_131 : decode cX8_lay 131 = .ok (.aload_n 0, 1) := by decide +kernel
theorem dX8_lay_132 : decode cX8_lay 132 = .ok (.getfield 22, 3) := by decide +kernel
theorem dX8_lay_135 : decode cX8_lay 135 = .ok (.iload_n 1, 1) := by decide +kernel
theorem dX8_lay_136 : decode cX8_lay 136 = .ok (.aload_n 0, 1) := by decide +kernel
theorem dX8_lay_137 : decode cX8_lay 137 = .ok (.getfield 22, 3) := by decide +kernel
theorem dX8_lay_140 : decode cX8_lay 140 = .ok (.bipush 8, 2) := by decide +kernel
theorem dX8_lay_142 : decode cX8_lay 142 = .ok (.iload_n 1, 1) := by decide +kernel
theorem dX8_lay_143 : decode cX8_lay 143 = .ok (.iadd, 1) := by decide +kernel
theorem dX8_lay_144 : decode cX8_lay 144 = .ok (.iaload, 1) := by decide +kernel
theorem dX8_lay_145 : decode cX8_lay 145 = .ok (.iastore, 1) := by decide +kernel
theorem dX8_lay_146 : decode cX8_lay 146 = .ok (.aload_n 0, 1) := by decide +kernel
theorem dX8_lay_147 : decode cX8_lay 147 = .ok (.getfield 25, 3) := by decide +kernel
theorem dX8_lay_150 : decode cX8_lay 150 = .ok (.iload_n 1, 1) := by decide +kernel
theorem dX8_lay_151 : decode cX8_lay 151 = .ok (.aload_n 0, 1) := by decide +kernel
theorem dX8_lay_152 : decode cX8_lay 152 = .ok (.getfield 25, 3) := by decide +kernel
theorem dX8_lay_155 : decode cX8_lay 155 = .ok (.bipush 8, 2) := by decide +kernel
theorem dX8_lay_157 : decode cX8_lay 157 = .ok (.iload_n 1, 1) := by decide +kernel
theorem dX8_lay_158 : decode cX8_lay 158 = .ok (.iadd, 1) := by decide +kernel
theorem dX8_lay_159 : decode cX8_lay 159 = .ok (.iaload, 1) := by decide +kernel
theorem dX8_lay_160 : decode cX8_lay 160 = .ok (.iastore, 1) := by decide +kernel
theorem dX8_lay_161 : decode cX8_lay 161 = .ok (.iinc 1 1, 3) := by decide +kernel
theorem dX8_lay_164 : decode cX8_lay 164 = .ok (.goto (-69), 3) := by decide +kernel
theorem dX8_lay_167 : decode cX8_lay 167 = .ok (.iconst 0, 1) := by decide +kernel
theorem dX8_lay_168 : decode cX8_lay 168 = .ok (.istore_n 1, 1) := by decide +kernel
theorem dX8_lay_169 : decode cX8_lay 169 = .ok (.iload_n 1, 1) := by decide +kernel
theorem dX8_lay_170 : decode cX8_lay 170 = .ok (.iconst 3, 1) := by decide +kernel
theorem dX8_lay_171 : decode cX8_lay 171 = .ok (.if_icmp .ge 65, 3) := by decide +kernel
theorem dX8_lay_174 : decode cX8_lay 174 = .ok (.aload_n 0, 1) := by decide +kernel
theorem dX8_lay_175 : decode cX8_lay 175 = .ok (.getfield 31, 3) := by decide +kernel
theorem dX8_lay_178 : decode cX8_lay 178 = .ok (.iload_n 1, 1) := by decide +kernel
theorem dX8_lay_179 : decode cX8_lay 179 = .ok (.aload_n 0, 1) := by decide +kernel
theorem dX8_lay_180 : decode cX8_lay 180 = .ok (.getfield 31, 3) := by decide +kernel
theorem dX8_lay_183 : decode cX8_lay 183 = .ok (.iconst 3, 1) := by decide +kernel
theorem dX8_lay_184 : decode cX8_lay 184 = .ok (.iload_n 1, 1) := by decide +kernel
theorem dX8_lay_185 : decode cX8_lay 185 = .ok (.iadd, 1) := by decide +kernel
theorem dX8_lay_186 : decode cX8_lay 186 = .ok (.iaload, 1) := by decide +kernel
theorem dX8_lay_187 : decode cX8_lay 187 = .ok (.iastore, 1) := by decide +kernel
theorem dX8_lay_188 : decode cX8_lay 188 = .ok (.aload_n 0, 1) := by decide +kernel
theorem dX8_lay_189 : decode cX8_lay 189 = .ok (.getfield 34, 3) := by decide +kernel
theorem dX8_lay_192 : decode cX8_lay 192 = .ok (.iload_n 1, 1) := by decide +kernel
theorem dX8_lay_193 : decode cX8_lay 193 = .ok (.aload_n 0, 1) := by decide +kernel
theorem dX8_lay_194 : decode cX8_lay 194 = .ok (.getfield 34, 3) := by decide +kernel
theorem dX8_lay_197 : decode cX8_lay 197 = .ok (.iconst 3, 1) := by decide +kernel
theorem dX8_lay_198 : decode cX8_lay 198 = .ok (.iload_n 1, 1) := by decide +kernel
theorem dX8_lay_199 : decode cX8_lay 199 = .ok (.iadd, 1) := by decide +kernel
theorem dX8_lay_200 : decode cX8_lay 200 = .ok (.iaload, 1) := by decide +kernel
theorem dX8_lay_201 : decode cX8_lay 201 = .ok (.iastore, 1) := by decide +kernel
theorem dX8_lay_202 : decode cX8_lay 202 = .ok (.aload_n 0, 1) := by decide +kernel
theorem dX8_lay_203 : decode cX8_lay 203 = .ok (.getfield 46, 3) := by decide +kernel
theorem dX8_lay_206 : decode cX8_lay 206 = .ok (.iload_n 1, 1) := by decide +kernel
theorem dX8_lay_207 : decode cX8_lay 207 = .ok (.aload_n 0, 1) := by decide +kernel
theorem dX8_lay_208 : decode cX8_lay 208 = .ok (.getfield 46, 3) := by decide +kernel
theorem dX8_lay_211 : decode cX8_lay 211 = .ok (.iconst 3, 1) := by decide +kernel
theorem dX8_lay_212 : decode cX8_lay 212 = .ok (.iload_n 1, 1) := by decide +kernel
theorem dX8_lay_213 : decode cX8_lay 213 = .ok (.iadd, 1) := by decide +kernel
theorem dX8_lay_214 : decode cX8_lay 214 = .ok (.iaload, 1) := by decide +kernel
theorem dX8_lay_215 : decode cX8_lay 215 = .ok (.iastore, 1) := by decide +kernel
theorem dX8_lay_216 : decode cX8_lay 216 = .ok (.aload_n 0, 1) := by decide +kernel
theorem dX8_lay_217 : decode cX8_lay 217 = .ok (.getfield 49, 3) := by decide +kernel
theorem dX8_lay_220 : decode cX8_lay 220 = .ok (.iload_n 1, 1) := by decide +kernel
theorem dX8_lay_221 : decode cX8_lay 221 = .ok (.aload_n 0, 1) := by decide +kernel
theorem dX8_lay_222 : decode cX8_lay 222 = .ok (.getfield 49, 3) := by decide +kernel
theorem dX8_lay_225 : decode cX8_lay 225 = .ok (.iconst 3, 1) := by decide +kernel
theorem dX8_lay_226 : decode cX8_lay 226 = .ok (.iload_n 1, 1) := by decide +kernel
theorem dX8_lay_227 : decode cX8_lay 227 = .ok (.iadd, 1) := by decide +kernel
theorem dX8_lay_228 : decode cX8_lay 228 = .ok (.iaload, 1) := by decide +kernel
theorem dX8_lay_229 : decode cX8_lay 229 = .ok (.iastore, 1) := by decide +kernel
theorem dX8_lay_230 : decode cX8_lay 230 = .ok (.iinc 1 1, 3) := by decide +kernel
theorem dX8_lay_233 : decode cX8_lay 233 = .ok (.goto (-64), 3) := by decide +kernel
theorem dX8_lay_236 : decode cX8_lay 236 = .ok (.iconst 0, 1) := by decide +kernel
theorem dX8_lay_237 : decode cX8_lay 237 = .ok (.istore_n 1, 1) := by decide +kernel
theorem dX8_lay_238 : decode cX8_lay 238 = .ok (.iload_n 1, 1) := by decide +kernel
theorem dX8_lay_239 : decode cX8_lay 239 = .ok (.bipush 6, 2) := by decide +kernel
theorem dX8_lay_241 : decode cX8_lay 241 = .ok (.if_icmp .ge 54, 3) := by decide +kernel
theorem dX8_lay_244 : decode cX8_lay 244 = .ok (.aload_n 0, 1) := by decide +kernel
theorem dX8_lay_245 : decode cX8_lay 245 = .ok (.getfield 55, 3) := by decide +kernel
theorem dX8_lay_248 : decode cX8_lay 248 = .ok (.iload_n 1, 1) := by decide +kernel
theorem dX8_lay_249 : decode cX8_lay 249 = .ok (.aload_n 0, 1) := by decide +kernel
theorem dX8_lay_250 : decode cX8_lay 250 = .ok (.getfield 55, 3) := by decide +kernel
theorem dX8_lay_253 : decode cX8_lay 253 = .ok (.bipush 6, 2) := by decide +kernel
theorem dX8_lay_255 : decode cX8_lay 255 = .ok (.iload_n 1, 1) := by decide +kernel
theorem dX8_lay_256 : decode cX8_lay 256 = .ok (.iadd, 1) := by decide +kernel
theorem dX8_lay_257 : decode cX8_lay 257 = .ok (.iaload, 1) := by decide +kernel
theorem dX8_lay_258 : decode cX8_lay 258 = .ok (.iastore, 1) := by decide +kernel
theorem dX8_lay_259 : decode cX8_lay 259 = .ok (.aload_n 0, 1) := by decide +kernel
theorem dX8_lay_260 : decode cX8_lay 260 = .ok (.getfield 58, 3) := by decide +kernel
theorem dX8_lay_263 : decode cX8_lay 263 = .ok (.iload_n 1, 1) := by decide +kernel
theorem dX8_lay_264 : decode cX8_lay 264 = .ok (.aload_n 0, 1) := by decide +kernel
theorem dX8_lay_265 : decode cX8_lay 265 = .ok (.getfield 58, 3) := by decide +kernel
theorem dX8_lay_268 : decode cX8_lay 268 = .ok (.bipush 6, 2) := by decide +kernel
theorem dX8_lay_270 : decode cX8_lay 270 = .ok (.iload_n 1, 1) := by decide +kernel
theorem dX8_lay_271 : decode cX8_lay 271 = .ok (.iadd, 1) := by decide +kernel
theorem dX8_lay_272 : decode cX8_lay 272 = .ok (.iaload, 1) := by decide +kernel
theorem dX8_lay_273 : decode cX8_lay 273 = .ok (.iastore, 1) := by decide +kernel
theorem dX8_lay_274 : decode cX8_lay 274 = .ok (.aload_n 0, 1) := by decide +kernel
theorem dX8_lay_275 : decode cX8_lay 275 = .ok (.getfield 61, 3) := by decide +kernel
theorem dX8_lay_278 : decode cX8_lay 278 = .ok (.iload_n 1, 1) := by decide +kernel
theorem dX8_lay_279 : decode cX8_lay 279 = .ok (.aload_n 0, 1) := by decide +kernel
theorem dX8_lay_280 : decode cX8_lay 280 = .ok (.getfield 61, 3) := by decide +kernel
theorem dX8_lay_283 : decode cX8_lay 283 = .ok (.bipush 6, 2) := by decide +kernel
theorem dX8_lay_285 : decode cX8_lay 285 = .ok (.iload_n 1, 1) := by decide +kernel
theorem dX8_lay_286 : decode cX8_lay 286 = .ok (.iadd, 1) := by decide +kernel
theorem dX8_lay_287 : decode cX8_lay 287 = .ok (.iaload, 1) := by decide +kernel
theorem dX8_lay_288 : decode cX8_lay 288 = .ok (.iastore, 1) := by decide +kernel
theorem dX8_lay_289 : decode cX8_lay 289 = .ok (.iinc 1 1, 3) := by decide +kernel
theorem dX8_lay_292 : decode cX8_lay 292 = .ok (.goto (-54), 3) := by decide +kernel
theorem dX8_lay_295 : decode cX8_lay 295 = .ok (.aload_n 0, 1) := by decide +kernel
theorem dX8_lay_296 : decode cX8_lay 296 = .ok (.iconst 1, 1) := by decide +kernel
theorem dX8_lay_297 : decode cX8_lay 297 = .ok (.iconst 0, 1) := by decide +kernel
theorem dX8_lay_298 : decode cX8_lay 298 = .ok (.invokevirtual 157, 3) := by decide +kernel
theorem dX8_lay_301 : decode cX8_lay 301 = .ok (.aload_n 0, 1) := by decide +kernel
theorem dX8_lay_302 : decode cX8_lay 302 = .ok (.iconst 0, 1) := by decide +kernel
theorem dX8_lay_303 : decode cX8_lay 303 = .ok (.putfield 161, 3) := by decide +kernel
theorem dX8_lay_306 : decode cX8_lay 306 = .ok (.aload_n 0, 1) := by decide +kernel
theorem dX8_lay_307 : decode cX8_lay 307 = .ok (.iconst 0, 1) := by decide +kernel
theorem dX8_lay_308 : decode cX8_lay 308 = .ok (.putfield 164, 3) := by decide +kernel
theorem dX8_lay_311 : decode cX8_lay 311 = .ok (.aload_n 0, 1) := by decide +kernel
theorem dX8_lay_312 : decode cX8_lay 312 = .ok (.getfield 13, 3) := by decide +kernel
theorem dX8_lay_315 : decode cX8_lay 315 = .ok (.iconst 0, 1) := by decide +kernel
theorem dX8_lay_316 : decode cX8_lay 316 = .ok (.iaload, 1) := by decide +kernel
theorem dX8_lay_317 : decode cX8_lay 317 = .ok (.ireturn, 1) := by decide +kernel
theorem dX8_isGuest_0 : decode cX8_isGuest 0 = .ok (.iload_n 1, 1) := by decide +kernel
theorem dX8_isGuest_1 : decode cX8_isGuest 1 = .ok (.i2l, 1) := by decide +kernel
theorem dX8_isGuest_2 : decode cX8_isGuest 2 = .ok (.lconst 0, 1) := by decide +kernel
theorem dX8_isGuest_3 : decode cX8_isGuest 3 = .ok (.aload_n 0, 1) := by decide +kernel
theorem dX8_isGuest_4 : decode cX8_isGuest 4 = .ok (.getfield 13, 3) := by decide +kernel
theorem dX8_isGuest_7 : decode cX8_isGuest 7 = .ok (.iconst 0, 1) := by decide +kernel
theorem dX8_isGuest_8 : decode cX8_isGuest 8 = .ok (.iaload, 1) := by decide +kernel
theorem dX8_isGuest_9 : decode cX8_isGuest 9 = .ok (.iconst 1, 1) := by decide +kernel
theorem dX8_isGuest_10 : decode cX8_isGuest 10 = .ok (.isub, 1) := by decide +kernel
theorem dX8_isGuest_11 : decode cX8_isGuest 11 = .ok (.i2l, 1) := by decide +kernel
theorem dX8_isGuest_12 : decode cX8_isGuest 12 = .ok (.invokestatic 109, 3) := by decide +kernel
theorem dX8_isGuest_15 : decode cX8_isGuest 15 = .ok (.ireturn, 1) := by decide +kernel
theorem dX8_guest_0 : decode cX8_guest 0 = .ok (.aload_n 0, 1) := by decide +kernel
theorem dX8_guest_1 : decode cX8_guest 1 = .ok (.iload_n 1, 1) := by decide +kernel
theorem dX8_guest_2 : decode cX8_guest 2 = .ok (.invokevirtual 167, 3) := by decide +kernel
theorem dX8_guest_5 : decode cX8_guest 5 = .ok (.ifCond .eq 15, 3) := by decide +kernel
theorem dX8_guest_8 : decode cX8_guest 8 = .ok (.iload_n 2, 1) := by decide +kernel
theorem dX8_guest_9 : decode cX8_guest 9 = .ok (.i2l, 1) := by decide +kernel
theorem dX8_guest_10 : decode cX8_guest 10 = .ok (.lconst 0, 1) := by decide +kernel
theorem dX8_guest_11 : decode cX8_guest 11 = .ok (.ldc2_w 130, 3) := by decide +kernel
theorem dX8_guest_14 : decode cX8_guest 14 = .ok (.invokestatic 109, 3) := by decide +kernel
theorem dX8_guest_17 : decode cX8_guest 17 = .ok (.ifCond .ne 5, 3) := by decide +kernel
theorem dX8_guest_20 : decode cX8_guest 20 = .ok (.iconst (-1), 1) := by decide +kernel
theorem dX8_guest_21 : decode cX8_guest 21 = .ok (.ireturn, 1) := by decide +kernel
theorem dX8_guest_22 : decode cX8_guest 22 = .ok (.iload_n 2, 1) := by decide +kernel
theorem dX8_guest_23 : decode cX8_guest 23 = .ok (.ifCond .ne 12, 3) := by decide +kernel
theorem dX8_guest_26 : decode cX8_guest 26 = .ok (.aload_n 0, 1) := by decide +kernel
theorem dX8_guest_27 : decode cX8_guest 27 = .ok (.getfield 16, 3) := by decide +kernel
theorem dX8_guest_30 : decode cX8_guest 30 = .ok (.iload_n 1, 1) := by decide +kernel
theorem dX8_guest_31 : decode cX8_guest 31 = .ok (.iaload, 1) := by decide +kernel
theorem dX8_guest_32 : decode cX8_guest 32 = .ok (.goto 37, 3) := by decide +kernel
theorem dX8_guest_35 : decode cX8_guest 35 = .ok (.iload_n 2, 1) := by decide +kernel
theorem dX8_guest_36 : decode cX8_guest 36 = .ok (.iconst 1, 1) := by decide +kernel
theorem dX8_guest_37 : decode cX8_guest 37 = .ok (.if_icmp .ne 12, 3) := by decide +kernel
theorem dX8_guest_40 : decode cX8_guest 40 = .ok (.aload_n 0, 1) := by decide +kernel
theorem dX8_guest_41 : decode cX8_guest 41 = .ok (.getfield 19, 3) := by decide +kernel
theorem dX8_guest_44 : decode cX8_guest 44 = .ok (.iload_n 1, 1) := by decide +kernel
theorem dX8_guest_45 : decode cX8_guest 45 = .ok (.iaload, 1) := by decide +kernel
theorem dX8_guest_46 : decode cX8_guest 46 = .ok (.goto 23, 3) := by decide +kernel
theorem dX8_guest_49 : decode cX8_guest 49 = .ok (.iload_n 2, 1) := by decide +kernel
theorem dX8_guest_50 : decode cX8_guest 50 = .ok (.iconst 2, 1) := by decide +kernel
theorem dX8_guest_51 : decode cX8_guest 51 = .ok (.if_icmp .ne 12, 3) := by decide +kernel
theorem dX8_guest_54 : decode cX8_guest 54 = .ok (.aload_n 0, 1) := by decide +kernel
theorem dX8_guest_55 : decode cX8_guest 55 = .ok (.getfield 22, 3) := by decide +kernel
theorem dX8_guest_58 : decode cX8_guest 58 = .ok (.iload_n 1, 1) := by decide +kernel
theorem dX8_guest_59 : decode cX8_guest 59 = .ok (.iaload, 1) := by decide +kernel
theorem dX8_guest_60 : decode cX8_guest 60 = .ok (.goto 9, 3) := by decide +kernel
theorem dX8_guest_63 : decode cX8_guest 63 = .ok (.aload_n 0, 1) := by decide +kernel
theorem dX8_guest_64 : decode cX8_guest 64 = .ok (.getfield 25, 3) := by decide +kernel
theorem dX8_guest_67 : decode cX8_guest 67 = .ok (.iload_n 1, 1) := by decide +kernel
theorem dX8_guest_68 : decode cX8_guest 68 = .ok (.iaload, 1) := by decide +kernel
theorem dX8_guest_69 : decode cX8_guest 69 = .ok (.ireturn, 1) := by decide +kernel
theorem dX8_asItIs_0 : decode cX8_asItIs 0 = .ok (.aload_n 0, 1) := by decide +kernel
theorem dX8_asItIs_1 : decode cX8_asItIs 1 = .ok (.bipush (-4), 2) := by decide +kernel
theorem dX8_asItIs_3 : decode cX8_asItIs 3 = .ok (.putfield 170, 3) := by decide +kernel
theorem dX8_asItIs_6 : decode cX8_asItIs 6 = .ok (.aload_n 0, 1) := by decide +kernel
theorem dX8_asItIs_7 : decode cX8_asItIs 7 = .ok (.iconst 0, 1) := by decide +kernel
theorem dX8_asItIs_8 : decode cX8_asItIs 8 = .ok (.putfield 173, 3) := by decide +kernel
theorem dX8_asItIs_11 : decode cX8_asItIs 11 = .ok (.aload_n 0, 1) := by decide +kernel
theorem dX8_asItIs_12 : decode cX8_asItIs 12 = .ok (.bipush (-4), 2) := by decide +kernel
theorem dX8_asItIs_14 : decode cX8_asItIs 14 = .ok (.putfield 176, 3) := by decide +kernel
theorem dX8_asItIs_17 : decode cX8_asItIs 17 = .ok (.aload_n 0, 1) := by decide +kernel
theorem dX8_asItIs_18 : decode cX8_asItIs 18 = .ok (.bipush (-4), 2) := by decide +kernel
theorem dX8_asItIs_20 : decode cX8_asItIs 20 = .ok (.putfield 179, 3) := by decide +kernel
theorem dX8_asItIs_23 : decode cX8_asItIs 23 = .ok (.iconst 0, 1) := by decide +kernel
theorem dX8_asItIs_24 : decode cX8_asItIs 24 = .ok (.istore_n 1, 1) := by decide +kernel
theorem dX8_asItIs_25 : decode cX8_asItIs 25 = .ok (.iload_n 1, 1) := by decide +kernel
theorem dX8_asItIs_26 : decode cX8_asItIs 26 = .ok (.iconst 3, 1) := by decide +kernel
theorem dX8_asItIs_27 : decode cX8_asItIs 27 = .ok (.if_icmp .ge 17, 3) := by decide +kernel
theorem dX8_asItIs_30 : decode cX8_asItIs 30 = .ok (.aload_n 0, 1) := by decide +kernel
theorem dX8_asItIs_31 : decode cX8_asItIs 31 = .ok (.getfield 85, 3) := by decide +kernel
theorem dX8_asItIs_34 : decode cX8_asItIs 34 = .ok (.iload_n 1, 1) := by decide +kernel
theorem dX8_asItIs_35 : decode cX8_asItIs 35 = .ok (.bipush (-4), 2) := by decide +kernel
theorem dX8_asItIs_37 : decode cX8_asItIs 37 = .ok (.iastore, 1) := by decide +kernel
theorem dX8_asItIs_38 : decode cX8_asItIs 38 = .ok (.iinc 1 1, 3) := by decide +kernel
theorem dX8_asItIs_41 : decode cX8_asItIs 41 = .ok (.goto (-16), 3) := by decide +kernel
theorem dX8_asItIs_44 : decode cX8_asItIs 44 = .ok (.return_, 1) := by decide +kernel
theorem dX8_counts_0 : decode cX8_counts 0 = .ok (.aload_n 0, 1) := by decide +kernel
theorem dX8_counts_1 : decode cX8_counts 1 = .ok (.getfield 179, 3) := by decide +kernel
theorem dX8_counts_4 : decode cX8_counts 4 = .ok (.ifCond .ge 5, 3) := by decide +kernel
theorem dX8_counts_7 : decode cX8_counts 7 = .ok (.iconst 1, 1) := by decide +kernel
theorem dX8_counts_8 : decode cX8_counts 8 = .ok (.ireturn, 1) := by decide +kernel
theorem dX8_counts_9 : decode cX8_counts 9 = .ok (.ldc2_w 182, 3) := by decide +kernel
theorem dX8_counts_12 : decode cX8_counts 12 = .ok (.aload_n 0, 1) := by decide +kernel
theorem dX8_counts_13 : decode cX8_counts 13 = .ok (.getfield 179, 3) := by decide +kernel
theorem dX8_counts_16 : decode cX8_counts 16 = .ok (.i2l, 1) := by decide +kernel
theorem dX8_counts_17 : decode cX8_counts 17 = .ok (.lmul, 1) := by decide +kernel
theorem dX8_counts_18 : decode cX8_counts 18 = .ok (.ldc2_w 184, 3) := by decide +kernel
theorem dX8_counts_21 : decode cX8_counts 21 = .ok (.iload_n 1, 1) := by decide +kernel
theorem dX8_counts_22 : decode cX8_counts 22 = .ok (.i2l, 1) := by decide +kernel
theorem dX8_counts_23 : decode cX8_counts 23 = .ok (.lmul, 1) := by decide +kernel
theorem dX8_counts_24 : decode cX8_counts 24 = .ok (.ladd, 1) := by decide +kernel
theorem dX8_counts_25 : decode cX8_counts 25 = .ok (.ldc2_w 186, 3) := by decide +kernel
theorem dX8_counts_28 : decode cX8_counts 28 = .ok (.iload_n 2, 1) := by decide +kernel
theorem dX8_counts_29 : decode cX8_counts 29 = .ok (.i2l, 1) := by decide +kernel
theorem dX8_counts_30 : decode cX8_counts 30 = .ok (.lmul, 1) := by decide +kernel
theorem dX8_counts_31 : decode cX8_counts 31 = .ok (.ladd, 1) := by decide +kernel
theorem dX8_counts_32 : decode cX8_counts 32 = .ok (.lconst 1, 1) := by decide +kernel
theorem dX8_counts_33 : decode cX8_counts 33 = .ok (.ladd, 1) := by decide +kernel
theorem dX8_counts_34 : decode cX8_counts 34 = .ok (.lstore_n 3, 1) := by decide +kernel
theorem dX8_counts_35 : decode cX8_counts 35 = .ok (.lload_n 3, 1) := by decide +kernel
theorem dX8_counts_36 : decode cX8_counts 36 = .ok (.lload_n 3, 1) := by decide +kernel
theorem dX8_counts_37 : decode cX8_counts 37 = .ok (.lmul, 1) := by decide +kernel
theorem dX8_counts_38 : decode cX8_counts 38 = .ok (.ldc2_w 188, 3) := by decide +kernel
theorem dX8_counts_41 : decode cX8_counts 41 = .ok (.lrem, 1) := by decide +kernel
theorem dX8_counts_42 : decode cX8_counts 42 = .ok (.ldc2_w 190, 3) := by decide +kernel
theorem dX8_counts_45 : decode cX8_counts 45 = .ok (.lrem, 1) := by decide +kernel
theorem dX8_counts_46 : decode cX8_counts 46 = .ok (.ldc2_w 192, 3) := by decide +kernel
theorem dX8_counts_49 : decode cX8_counts 49 = .ok (.lcmp, 1) := by decide +kernel
theorem dX8_counts_50 : decode cX8_counts 50 = .ok (.ifCond .ge 7, 3) := by decide +kernel
theorem dX8_counts_53 : decode cX8_counts 53 = .ok (.iconst 1, 1) := by decide +kernel
theorem dX8_counts_54 : decode cX8_counts 54 = .ok (.goto 4, 3) := by decide +kernel
theorem dX8_counts_57 : decode cX8_counts 57 = .ok (.iconst 0, 1) := by decide +kernel
theorem dX8_counts_58 : decode cX8_counts 58 = .ok (.ireturn, 1) := by decide +kernel
theorem dX8_stoodAhead_0 : decode cX8_stoodAhead 0 = .ok (.iconst 0, 1) := by decide +kernel
theorem dX8_stoodAhead_1 : decode cX8_stoodAhead 1 = .ok (.istore_n 2, 1) := by decide +kernel
theorem dX8_stoodAhead_2 : decode cX8_stoodAhead 2 = .ok (.iconst 0, 1) := by decide +kernel
theorem dX8_stoodAhead_3 : decode cX8_stoodAhead 3 = .ok (.istore_n 3, 1) := by decide +kernel
theorem dX8_stoodAhead_4 : decode cX8_stoodAhead 4 = .ok (.iload_n 3, 1) := by decide +kernel
theorem dX8_stoodAhead_5 : decode cX8_stoodAhead 5 = .ok (.aload_n 0, 1) := by decide +kernel
theorem dX8_stoodAhead_6 : decode cX8_stoodAhead 6 = .ok (.getfield 13, 3) := by decide +kernel
theorem dX8_stoodAhead_9 : decode cX8_stoodAhead 9 = .ok (.iconst 0, 1) := by decide +kernel
theorem dX8_stoodAhead_10 : decode cX8_stoodAhead 10 = .ok (.iaload, 1) := by decide +kernel
theorem dX8_stoodAhead_11 : decode cX8_stoodAhead 11 = .ok (.if_icmp .ge 32, 3) := by decide +kernel
theorem dX8_stoodAhead_14 : decode cX8_stoodAhead 14 = .ok (.iload_n 2, 1) := by decide +kernel
theorem dX8_stoodAhead_15 : decode cX8_stoodAhead 15 = .ok (.aload_n 0, 1) := by decide +kernel
theorem dX8_stoodAhead_16 : decode cX8_stoodAhead 16 = .ok (.getfield 88, 3) := by decide +kernel
theorem dX8_stoodAhead_19 : decode cX8_stoodAhead 19 = .ok (.aload_n 0, 1) := by decide +kernel
theorem dX8_stoodAhead_20 : decode cX8_stoodAhead 20 = .ok (.getfield 16, 3) := by decide +kernel
theorem dX8_stoodAhead_23 : decode cX8_stoodAhead 23 = .ok (.iload_n 3, 1) := by decide +kernel
theorem dX8_stoodAhead_24 : decode cX8_stoodAhead 24 = .ok (.iaload, 1) := by decide +kernel
theorem dX8_stoodAhead_25 : decode cX8_stoodAhead 25 = .ok (.iaload, 1) := by decide +kernel
theorem dX8_stoodAhead_26 : decode cX8_stoodAhead 26 = .ok (.iload_n 1, 1) := by decide +kernel
theorem dX8_stoodAhead_27 : decode cX8_stoodAhead 27 = .ok (.if_icmp .ge 7, 3) := by decide +kernel
theorem dX8_stoodAhead_30 : decode cX8_stoodAhead 30 = .ok (.iconst 1, 1) := by decide +kernel
theorem dX8_stoodAhead_31 : decode cX8_stoodAhead 31 = .ok (.goto 4, 3) := by decide +kernel
theorem dX8_stoodAhead_34 : decode cX8_stoodAhead 34 = .ok (.iconst 0, 1) := by decide +kernel
theorem dX8_stoodAhead_35 : decode cX8_stoodAhead 35 = .ok (.iadd, 1) := by decide +kernel
theorem dX8_stoodAhead_36 : decode cX8_stoodAhead 36 = .ok (.istore_n 2, 1) := by decide +kernel
theorem dX8_stoodAhead_37 : decode cX8_stoodAhead 37 = .ok (.iinc 3 1, 3) := by decide +kernel
theorem dX8_stoodAhead_40 : decode cX8_stoodAhead 40 = .ok (.goto (-36), 3) := by decide +kernel
theorem dX8_stoodAhead_43 : decode cX8_stoodAhead 43 = .ok (.iload_n 2, 1) := by decide +kernel
theorem dX8_stoodAhead_44 : decode cX8_stoodAhead 44 = .ok (.ireturn, 1) := by decide +kernel
theorem dX8_shameOf_0 : decode cX8_shameOf 0 = .ok (.aload_n 0, 1) := by decide +kernel
theorem dX8_shameOf_1 : decode cX8_shameOf 1 = .ok (.getfield 22, 3) := by decide +kernel
theorem dX8_shameOf_4 : decode cX8_shameOf 4 = .ok (.iload_n 1, 1) := by decide +kernel
theorem dX8_shameOf_5 : decode cX8_shameOf 5 = .ok (.iaload, 1) := by decide +kernel
theorem dX8_shameOf_6 : decode cX8_shameOf 6 = .ok (.istore_n 3, 1) := by decide +kernel
theorem dX8_shameOf_7 : decode cX8_shameOf 7 = .ok (.iconst 0, 1) := by decide +kernel
theorem dX8_shameOf_8 : decode cX8_shameOf 8 = .ok (.istore 4, 2) := by decide +kernel
theorem dX8_shameOf_10 : decode cX8_shameOf 10 = .ok (.iload 4, 2) := by decide +kernel
theorem dX8_shameOf_12 : decode cX8_shameOf 12 = .ok (.aload_n 0, 1) := by decide +kernel
theorem dX8_shameOf_13 : decode cX8_shameOf 13 = .ok (.getfield 64, 3) := by decide +kernel
theorem dX8_shameOf_16 : decode cX8_shameOf 16 = .ok (.iconst 0, 1) := by decide +kernel
theorem dX8_shameOf_17 : decode cX8_shameOf 17 = .ok (.iaload, 1) := by decide +kernel
theorem dX8_shameOf_18 : decode cX8_shameOf 18 = .ok (.if_icmp .ge 54, 3) := by decide +kernel
theorem dX8_shameOf_21 : decode cX8_shameOf 21 = .ok (.iload_n 3, 1) := by decide +kernel
theorem dX8_shameOf_22 : decode cX8_shameOf 22 = .ok (.aload_n 0, 1) := by decide +kernel
theorem dX8_shameOf_23 : decode cX8_shameOf 23 = .ok (.getfield 25, 3) := by decide +kernel
theorem dX8_shameOf_26 : decode cX8_shameOf 26 = .ok (.iload_n 1, 1) := by decide +kernel
theorem dX8_shameOf_27 : decode cX8_shameOf 27 = .ok (.iaload, 1) := by decide +kernel
theorem dX8_shameOf_28 : decode cX8_shameOf 28 = .ok (.iconst 2, 1) := by decide +kernel
theorem dX8_shameOf_29 : decode cX8_shameOf 29 = .ok (.if_icmp .eq 34, 3) := by decide +kernel
theorem dX8_shameOf_32 : decode cX8_shameOf 32 = .ok (.aload_n 0, 1) := by decide +kernel
theorem dX8_shameOf_33 : decode cX8_shameOf 33 = .ok (.getfield 67, 3) := by decide +kernel
theorem dX8_shameOf_36 : decode cX8_shameOf 36 = .ok (.iload 4, 2) := by decide +kernel
theorem dX8_shameOf_38 : decode cX8_shameOf 38 = .ok (.iaload, 1) := by decide +kernel
theorem dX8_shameOf_39 : decode cX8_shameOf 39 = .ok (.iload_n 2, 1) := by decide +kernel
theorem dX8_shameOf_40 : decode cX8_shameOf 40 = .ok (.if_icmp .gt 23, 3) := by decide +kernel
theorem dX8_shameOf_43 : decode cX8_shameOf 43 = .ok (.aload_n 0, 1) := by decide +kernel
theorem dX8_shameOf_44 : decode cX8_shameOf 44 = .ok (.iload_n 1, 1) := by decide +kernel
theorem dX8_shameOf_45 : decode cX8_shameOf 45 = .ok (.iload 4, 2) := by decide +kernel
theorem dX8_shameOf_47 : decode cX8_shameOf 47 = .ok (.invokevirtual 194, 3) := by decide +kernel
theorem dX8_shameOf_50 : decode cX8_shameOf 50 = .ok (.ifCond .eq 13, 3) := by decide +kernel
theorem dX8_shameOf_53 : decode cX8_shameOf 53 = .ok (.aload_n 0, 1) := by decide +kernel
theorem dX8_shameOf_54 : decode cX8_shameOf 54 = .ok (.getfield 70, 3) := by decide +kernel
theorem dX8_shameOf_57 : decode cX8_shameOf 57 = .ok (.iload 4, 2) := by decide +kernel
theorem dX8_shameOf_59 : decode cX8_shameOf 59 = .ok (.iaload, 1) := by decide +kernel
theorem dX8_shameOf_60 : decode cX8_shameOf 60 = .ok (.goto 4, 3) := by decide +kernel
theorem dX8_shameOf_63 : decode cX8_shameOf 63 = .ok (.iconst 0, 1) := by decide +kernel
theorem dX8_shameOf_64 : decode cX8_shameOf 64 = .ok (.isub, 1) := by decide +kernel
theorem dX8_shameOf_65 : decode cX8_shameOf 65 = .ok (.istore_n 3, 1) := by decide +kernel
theorem dX8_shameOf_66 : decode cX8_shameOf 66 = .ok (.iinc 4 1, 3) := by decide +kernel
theorem dX8_shameOf_69 : decode cX8_shameOf 69 = .ok (.goto (-59), 3) := by decide +kernel
theorem dX8_shameOf_72 : decode cX8_shameOf 72 = .ok (.iconst 0, 1) := by decide +kernel
theorem dX8_shameOf_73 : decode cX8_shameOf 73 = .ok (.istore 4, 2) := by decide +kernel
theorem dX8_shameOf_75 : decode cX8_shameOf 75 = .ok (.iload 4, 2) := by decide +kernel
theorem dX8_shameOf_77 : decode cX8_shameOf 77 = .ok (.aload_n 0, 1) := by decide +kernel
theorem dX8_shameOf_78 : decode cX8_shameOf 78 = .ok (.getfield 28, 3) := by decide +kernel
theorem dX8_shameOf_81 : decode cX8_shameOf 81 = .ok (.iconst 0, 1) := by decide +kernel
theorem dX8_shameOf_82 : decode cX8_shameOf 82 = .ok (.iaload, 1) := by decide +kernel
theorem dX8_shameOf_83 : decode cX8_shameOf 83 = .ok (.if_icmp .ge 54, 3) := by decide +kernel
theorem dX8_shameOf_86 : decode cX8_shameOf 86 = .ok (.iload_n 3, 1) := by decide +kernel
theorem dX8_shameOf_87 : decode cX8_shameOf 87 = .ok (.aload_n 0, 1) := by decide +kernel
theorem dX8_shameOf_88 : decode cX8_shameOf 88 = .ok (.getfield 25, 3) := by decide +kernel
theorem dX8_shameOf_91 : decode cX8_shameOf 91 = .ok (.iload_n 1, 1) := by decide +kernel
theorem dX8_shameOf_92 : decode cX8_shameOf 92 = .ok (.iaload, 1) := by decide +kernel
theorem dX8_shameOf_93 : decode cX8_shameOf 93 = .ok (.iconst 2, 1) := by decide +kernel
theorem dX8_shameOf_94 : decode cX8_shameOf 94 = .ok (.if_icmp .eq 34, 3) := by decide +kernel
theorem dX8_shameOf_97 : decode cX8_shameOf 97 = .ok (.aload_n 0, 1) := by decide +kernel
theorem dX8_shameOf_98 : decode cX8_shameOf 98 = .ok (.getfield 85, 3) := by decide +kernel
theorem dX8_shameOf_101 : decode cX8_shameOf 101 = .ok (.iload 4, 2) := by decide +kernel
theorem dX8_shameOf_103 : decode cX8_shameOf 103 = .ok (.iaload, 1) := by decide +kernel
theorem dX8_shameOf_104 : decode cX8_shameOf 104 = .ok (.ifCond .lt 24, 3) := by decide +kernel
theorem dX8_shameOf_107 : decode cX8_shameOf 107 = .ok (.aload_n 0, 1) := by decide +kernel
theorem dX8_shameOf_108 : decode cX8_shameOf 108 = .ok (.getfield 85, 3) := by decide +kernel
theorem dX8_shameOf_111 : decode cX8_shameOf 111 = .ok (.iload 4, 2) := by decide +kernel
theorem dX8_shameOf_113 : decode cX8_shameOf 113 = .ok (.iaload, 1) := by decide +kernel
theorem dX8_shameOf_114 : decode cX8_shameOf 114 = .ok (.iload_n 2, 1) := by decide +kernel
theorem dX8_shameOf_115 : decode cX8_shameOf 115 = .ok (.if_icmp .gt 13, 3) := by decide +kernel
theorem dX8_shameOf_118 : decode cX8_shameOf 118 = .ok (.aload_n 0, 1) := by decide +kernel
theorem dX8_shameOf_119 : decode cX8_shameOf 119 = .ok (.getfield 31, 3) := by decide +kernel
theorem dX8_shameOf_122 : decode cX8_shameOf 122 = .ok (.iload 4, 2) := by decide +kernel
theorem dX8_shameOf_124 : decode cX8_shameOf 124 = .ok (.iaload, 1) := by decide +kernel
theorem dX8_shameOf_125 : decode cX8_shameOf 125 = .ok (.goto 4, 3) := by decide +kernel
theorem dX8_shameOf_128 : decode cX8_shameOf 128 = .ok (.iconst 0, 1) := by decide +kernel
theorem dX8_shameOf_129 : decode cX8_shameOf 129 = .ok (.isub, 1) := by decide +kernel
theorem dX8_shameOf_130 : decode cX8_shameOf 130 = .ok (.istore_n 3, 1) := by decide +kernel
theorem dX8_shameOf_131 : decode cX8_shameOf 131 = .ok (.iinc 4 1, 3) := by decide +kernel
theorem dX8_shameOf_134 : decode cX8_shameOf 134 = .ok (.goto (-59), 3) := by decide +kernel
theorem dX8_shameOf_137 : decode cX8_shameOf 137 = .ok (.iload_n 3, 1) := by decide +kernel
theorem dX8_shameOf_138 : decode cX8_shameOf 138 = .ok (.aload_n 0, 1) := by decide +kernel
theorem dX8_shameOf_139 : decode cX8_shameOf 139 = .ok (.getfield 37, 3) := by decide +kernel
theorem dX8_shameOf_142 : decode cX8_shameOf 142 = .ok (.iconst 0, 1) := by decide +kernel
theorem dX8_shameOf_143 : decode cX8_shameOf 143 = .ok (.iaload, 1) := by decide +kernel
theorem dX8_shameOf_144 : decode cX8_shameOf 144 = .ok (.aload_n 0, 1) := by decide +kernel
theorem dX8_shameOf_145 : decode cX8_shameOf 145 = .ok (.iload_n 2, 1) := by decide +kernel
theorem dX8_shameOf_146 : decode cX8_shameOf 146 = .ok (.invokevirtual 198, 3) := by decide +kernel
theorem dX8_shameOf_149 : decode cX8_shameOf 149 = .ok (.imul, 1) := by decide +kernel
theorem dX8_shameOf_150 : decode cX8_shameOf 150 = .ok (.isub, 1) := by decide +kernel
theorem dX8_shameOf_151 : decode cX8_shameOf 151 = .ok (.istore_n 3, 1) := by decide +kernel
theorem dX8_shameOf_152 : decode cX8_shameOf 152 = .ok (.iload_n 3, 1) := by decide +kernel
theorem dX8_shameOf_153 : decode cX8_shameOf 153 = .ok (.ifCond .ge 7, 3) := by decide +kernel
theorem dX8_shameOf_156 : decode cX8_shameOf 156 = .ok (.iconst 0, 1) := by decide +kernel
theorem dX8_shameOf_157 : decode cX8_shameOf 157 = .ok (.goto 4, 3) := by decide +kernel
theorem dX8_shameOf_160 : decode cX8_shameOf 160 = .ok (.iload_n 3, 1) := by decide +kernel
theorem dX8_shameOf_161 : decode cX8_shameOf 161 = .ok (.istore_n 3, 1) := by decide +kernel
theorem dX8_shameOf_162 : decode cX8_shameOf 162 = .ok (.iconst 0, 1) := by decide +kernel
theorem dX8_shameOf_163 : decode cX8_shameOf 163 = .ok (.istore 4, 2) := by decide +kernel
theorem dX8_shameOf_165 : decode cX8_shameOf 165 = .ok (.iload 4, 2) := by decide +kernel
theorem dX8_shameOf_167 : decode cX8_shameOf 167 = .ok (.aload_n 0, 1) := by decide +kernel
theorem dX8_shameOf_168 : decode cX8_shameOf 168 = .ok (.getfield 73, 3) := by decide +kernel
theorem dX8_shameOf_171 : decode cX8_shameOf 171 = .ok (.iconst 0, 1) := by decide +kernel
theorem dX8_shameOf_172 : decode cX8_shameOf 172 = .ok (.iaload, 1) := by decide +kernel
theorem dX8_shameOf_173 : decode cX8_shameOf 173 = .ok (.if_icmp .ge 39, 3) := by decide +kernel
theorem dX8_shameOf_176 : decode cX8_shameOf 176 = .ok (.iload_n 3, 1) := by decide +kernel
theorem dX8_shameOf_177 : decode cX8_shameOf 177 = .ok (.aload_n 0, 1) := by decide +kernel
theorem dX8_shameOf_178 : decode cX8_shameOf 178 = .ok (.getfield 25, 3) := by decide +kernel
theorem dX8_shameOf_181 : decode cX8_shameOf 181 = .ok (.iload_n 1, 1) := by decide +kernel
theorem dX8_shameOf_182 : decode cX8_shameOf 182 = .ok (.iaload, 1) := by decide +kernel
theorem dX8_shameOf_183 : decode cX8_shameOf 183 = .ok (.iconst 1, 1) := by decide +kernel
theorem dX8_shameOf_184 : decode cX8_shameOf 184 = .ok (.if_icmp .ne 19, 3) := by decide +kernel
theorem dX8_shameOf_187 : decode cX8_shameOf 187 = .ok (.aload_n 0, 1) := by decide +kernel
theorem dX8_shameOf_188 : decode cX8_shameOf 188 = .ok (.getfield 76, 3) := by decide +kernel
theorem dX8_shameOf_191 : decode cX8_shameOf 191 = .ok (.iload 4, 2) := by decide +kernel
theorem dX8_shameOf_193 : decode cX8_shameOf 193 = .ok (.iaload, 1) := by decide +kernel
theorem dX8_shameOf_194 : decode cX8_shameOf 194 = .ok (.iload_n 2, 1) := by decide +kernel
theorem dX8_shameOf_195 : decode cX8_shameOf 195 = .ok (.if_icmp .gt 8, 3) := by decide +kernel
theorem dX8_shameOf_198 : decode cX8_shameOf 198 = .ok (.bipush 10, 2) := by decide +kernel
theorem dX8_shameOf_200 : decode cX8_shameOf 200 = .ok (.goto 4, 3) := by decide +kernel
theorem dX8_shameOf_203 : decode cX8_shameOf 203 = .ok (.iconst 0, 1) := by decide +kernel
theorem dX8_shameOf_204 : decode cX8_shameOf 204 = .ok (.iadd, 1) := by decide +kernel
theorem dX8_shameOf_205 : decode cX8_shameOf 205 = .ok (.istore_n 3, 1) := by decide +kernel
theorem dX8_shameOf_206 : decode cX8_shameOf 206 = .ok (.iinc 4 1, 3) := by decide +kernel
theorem dX8_shameOf_209 : decode cX8_shameOf 209 = .ok (.goto (-44), 3) := by decide +kernel
theorem dX8_shameOf_212 : decode cX8_shameOf 212 = .ok (.iload_n 3, 1) := by decide +kernel
theorem dX8_shameOf_213 : decode cX8_shameOf 213 = .ok (.ireturn, 1) := by decide +kernel
theorem dX8_isBus_0 : decode cX8_isBus 0 = .ok (.iload_n 1, 1) := by decide +kernel
theorem dX8_isBus_1 : decode cX8_isBus 1 = .ok (.aload_n 0, 1) := by decide +kernel
theorem dX8_isBus_2 : decode cX8_isBus 2 = .ok (.getfield 170, 3) := by decide +kernel
theorem dX8_isBus_5 : decode cX8_isBus 5 = .ok (.if_icmp .eq 13, 3) := by decide +kernel
theorem dX8_isBus_8 : decode cX8_isBus 8 = .ok (.aload_n 0, 1) := by decide +kernel
theorem dX8_isBus_9 : decode cX8_isBus 9 = .ok (.getfield 25, 3) := by decide +kernel
theorem dX8_isBus_12 : decode cX8_isBus 12 = .ok (.iload_n 1, 1) := by decide +kernel
theorem dX8_isBus_13 : decode cX8_isBus 13 = .ok (.iaload, 1) := by decide +kernel
theorem dX8_isBus_14 : decode cX8_isBus 14 = .ok (.iconst 3, 1) := by decide +kernel
theorem dX8_isBus_15 : decode cX8_isBus 15 = .ok (.if_icmp .ne 7, 3) := by decide +kernel
theorem dX8_isBus_18 : decode cX8_isBus 18 = .ok (.iconst 1, 1) := by decide +kernel
theorem dX8_isBus_19 : decode cX8_isBus 19 = .ok (.goto 4, 3) := by decide +kernel
theorem dX8_isBus_22 : decode cX8_isBus 22 = .ok (.iconst 0, 1) := by decide +kernel
theorem dX8_isBus_23 : decode cX8_isBus 23 = .ok (.ireturn, 1) := by decide +kernel
theorem dX8_doesPress_0 : decode cX8_doesPress 0 = .ok (.aload_n 0, 1) := by decide +kernel
theorem dX8_doesPress_1 : decode cX8_doesPress 1 = .ok (.iload_n 1, 1) := by decide +kernel
theorem dX8_doesPress_2 : decode cX8_doesPress 2 = .ok (.invokevirtual 201, 3) := by decide +kernel
theorem dX8_doesPress_5 : decode cX8_doesPress 5 = .ok (.ifCond .eq 34, 3) := by decide +kernel
theorem dX8_doesPress_8 : decode cX8_doesPress 8 = .ok (.iload_n 2, 1) := by decide +kernel
theorem dX8_doesPress_9 : decode cX8_doesPress 9 = .ok (.iload_n 1, 1) := by decide +kernel
theorem dX8_doesPress_10 : decode cX8_doesPress 10 = .ok (.aload_n 0, 1) := by decide +kernel
theorem dX8_doesPress_11 : decode cX8_doesPress 11 = .ok (.getfield 170, 3) := by decide +kernel
theorem dX8_doesPress_14 : decode cX8_doesPress 14 = .ok (.if_icmp .ne 10, 3) := by decide +kernel
theorem dX8_doesPress_17 : decode cX8_doesPress 17 = .ok (.aload_n 0, 1) := by decide +kernel
theorem dX8_doesPress_18 : decode cX8_doesPress 18 = .ok (.getfield 173, 3) := by decide +kernel
theorem dX8_doesPress_21 : decode cX8_doesPress 21 = .ok (.goto 9, 3) := by decide +kernel
theorem dX8_doesPress_24 : decode cX8_doesPress 24 = .ok (.aload_n 0, 1) := by decide +kernel
theorem dX8_doesPress_25 : decode cX8_doesPress 25 = .ok (.getfield 19, 3) := by decide +kernel
theorem dX8_doesPress_28 : decode cX8_doesPress 28 = .ok (.iload_n 1, 1) := by decide +kernel
theorem dX8_doesPress_29 : decode cX8_doesPress 29 = .ok (.iaload, 1) := by decide +kernel
theorem dX8_doesPress_30 : decode cX8_doesPress 30 = .ok (.if_icmp .lt 7, 3) := by decide +kernel
theorem dX8_doesPress_33 : decode cX8_doesPress 33 = .ok (.iconst 1, 1) := by decide +kernel
theorem dX8_doesPress_34 : decode cX8_doesPress 34 = .ok (.goto 4, 3) := by decide +kernel
theorem dX8_doesPress_37 : decode cX8_doesPress 37 = .ok (.iconst 0, 1) := by decide +kernel
theorem dX8_doesPress_38 : decode cX8_doesPress 38 = .ok (.ireturn, 1) := by decide +kernel
theorem dX8_doesPress_39 : decode cX8_doesPress 39 = .ok (.iload_n 2, 1) := by decide +kernel
theorem dX8_doesPress_40 : decode cX8_doesPress 40 = .ok (.aload_n 0, 1) := by decide +kernel
theorem dX8_doesPress_41 : decode cX8_doesPress 41 = .ok (.getfield 19, 3) := by decide +kernel
theorem dX8_doesPress_44 : decode cX8_doesPress 44 = .ok (.iload_n 1, 1) := by decide +kernel
theorem dX8_doesPress_45 : decode cX8_doesPress 45 = .ok (.iaload, 1) := by decide +kernel
theorem dX8_doesPress_46 : decode cX8_doesPress 46 = .ok (.aload_n 0, 1) := by decide +kernel
theorem dX8_doesPress_47 : decode cX8_doesPress 47 = .ok (.iload_n 1, 1) := by decide +kernel
theorem dX8_doesPress_48 : decode cX8_doesPress 48 = .ok (.iload_n 2, 1) := by decide +kernel
theorem dX8_doesPress_49 : decode cX8_doesPress 49 = .ok (.invokevirtual 204, 3) := by decide +kernel
theorem dX8_doesPress_52 : decode cX8_doesPress 52 = .ok (.iadd, 1) := by decide +kernel
theorem dX8_doesPress_53 : decode cX8_doesPress 53 = .ok (.if_icmp .lt 7, 3) := by decide +kernel
theorem dX8_doesPress_56 : decode cX8_doesPress 56 = .ok (.iconst 1, 1) := by decide +kernel
theorem dX8_doesPress_57 : decode cX8_doesPress 57 = .ok (.goto 4, 3) := by decide +kernel
theorem dX8_doesPress_60 : decode cX8_doesPress 60 = .ok (.iconst 0, 1) := by decide +kernel
theorem dX8_doesPress_61 : decode cX8_doesPress 61 = .ok (.istore_n 3, 1) := by decide +kernel
theorem dX8_doesPress_62 : decode cX8_doesPress 62 = .ok (.aload_n 0, 1) := by decide +kernel
theorem dX8_doesPress_63 : decode cX8_doesPress 63 = .ok (.getfield 25, 3) := by decide +kernel
theorem dX8_doesPress_66 : decode cX8_doesPress 66 = .ok (.iload_n 1, 1) := by decide +kernel
theorem dX8_doesPress_67 : decode cX8_doesPress 67 = .ok (.iaload, 1) := by decide +kernel
theorem dX8_doesPress_68 : decode cX8_doesPress 68 = .ok (.iconst 4, 1) := by decide +kernel
theorem dX8_doesPress_69 : decode cX8_doesPress 69 = .ok (.if_icmp .ne 85, 3) := by decide +kernel
theorem dX8_doesPress_72 : decode cX8_doesPress 72 = .ok (.iconst 1, 1) := by decide +kernel
theorem dX8_doesPress_73 : decode cX8_doesPress 73 = .ok (.istore 4, 2) := by decide +kernel
theorem dX8_doesPress_75 : decode cX8_doesPress 75 = .ok (.iconst 0, 1) := by decide +kernel
theorem dX8_doesPress_76 : decode cX8_doesPress 76 = .ok (.istore 5, 2) := by decide +kernel
theorem dX8_doesPress_78 : decode cX8_doesPress 78 = .ok (.iload 5, 2) := by decide +kernel
theorem dX8_doesPress_80 : decode cX8_doesPress 80 = .ok (.aload_n 0, 1) := by decide +kernel
theorem dX8_doesPress_81 : decode cX8_doesPress 81 = .ok (.getfield 13, 3) := by decide +kernel
theorem dX8_doesPress_84 : decode cX8_doesPress 84 = .ok (.iconst 0, 1) := by decide +kernel
theorem dX8_doesPress_85 : decode cX8_doesPress 85 = .ok (.iaload, 1) := by decide +kernel
theorem dX8_doesPress_86 : decode cX8_doesPress 86 = .ok (.if_icmp .ge 53, 3) := by decide +kernel
theorem dX8_doesPress_89 : decode cX8_doesPress 89 = .ok (.iload 4, 2) := by decide +kernel
theorem dX8_doesPress_91 : decode cX8_doesPress 91 = .ok (.ifCond .eq 39, 3) := by decide +kernel
theorem dX8_doesPress_94 : decode cX8_doesPress 94 = .ok (.aload_n 0, 1) := by decide +kernel
theorem dX8_doesPress_95 : decode cX8_doesPress 95 = .ok (.getfield 16, 3) := by decide +kernel
theorem dX8_doesPress_98 : decode cX8_doesPress 98 = .ok (.iload 5, 2) := by decide +kernel
theorem dX8_doesPress_100 : decode cX8_doesPress 100 = .ok (.iaload, 1) := by decide +kernel
theorem dX8_doesPress_101 : decode cX8_doesPress 101 = .ok (.aload_n 0, 1) := by decide +kernel
theorem dX8_doesPress_102 : decode cX8_doesPress 102 = .ok (.getfield 16, 3) := by decide +kernel
theorem dX8_doesPress_105 : decode cX8_doesPress 105 = .ok (.iload_n 1, 1) := by decide +kernel
theorem dX8_doesPress_106 : decode cX8_doesPress 106 = .ok (.iaload, 1) := by decide +kernel
theorem dX8_doesPress_107 : decode cX8_doesPress 107 = .ok (.if_icmp .eq 19, 3) := by decide +kernel
theorem dX8_doesPress_110 : decode cX8_doesPress 110 = .ok (.aload_n 0, 1) := by decide +kernel
theorem dX8_doesPress_111 : decode cX8_doesPress 111 = .ok (.getfield 88, 3) := by decide +kernel
theorem dX8_doesPress_114 : decode cX8_doesPress 114 = .ok (.aload_n 0, 1) := by decide +kernel
theorem dX8_doesPress_115 : decode cX8_doesPress 115 = .ok (.getfield 16, 3) := by decide +kernel
theorem dX8_doesPress_118 : decode cX8_doesPress 118 = .ok (.iload 5, 2) := by decide +kernel
theorem dX8_doesPress_120 : decode cX8_doesPress 120 = .ok (.iaload, 1) := by decide +kernel
theorem dX8_doesPress_121 : decode cX8_doesPress 121 = .ok (.iaload, 1) := by decide +kernel
theorem dX8_doesPress_122 : decode cX8_doesPress 122 = .ok (.iload_n 2, 1) := by decide +kernel
theorem dX8_doesPress_123 : decode cX8_doesPress 123 = .ok (.if_icmp .ge 7, 3) := by decide +kernel
theorem dX8_doesPress_126 : decode cX8_doesPress 126 = .ok (.iconst 1, 1) := by decide +kernel
theorem dX8_doesPress_127 : decode cX8_doesPress 127 = .ok (.goto 4, 3) := by decide +kernel
theorem dX8_doesPress_130 : decode cX8_doesPress 130 = .ok (.iconst 0, 1) := by decide +kernel
theorem dX8_doesPress_131 : decode cX8_doesPress 131 = .ok (.istore 4, 2) := by decide +kernel
theorem dX8_doesPress_133 : decode cX8_doesPress 133 = .ok (.iinc 5 1, 3) := by decide +kernel
theorem dX8_doesPress_136 : decode cX8_doesPress 136 = .ok (.goto (-58), 3) := by decide +kernel
theorem dX8_doesPress_139 : decode cX8_doesPress 139 = .ok (.iload_n 3, 1) := by decide +kernel
theorem dX8_doesPress_140 : decode cX8_doesPress 140 = .ok (.ifCond .eq 12, 3) := by decide +kernel
theorem dX8_doesPress_143 : decode cX8_doesPress 143 = .ok (.iload 4, 2) := by decide +kernel
theorem dX8_doesPress_145 : decode cX8_doesPress 145 = .ok (.ifCond .eq 7, 3) := by decide +kernel
theorem dX8_doesPress_148 : decode cX8_doesPress 148 = .ok (.iconst 1, 1) := by decide +kernel
theorem dX8_doesPress_149 : decode cX8_doesPress 149 = .ok (.goto 4, 3) := by decide +kernel
theorem dX8_doesPress_152 : decode cX8_doesPress 152 = .ok (.iconst 0, 1) := by decide +kernel
theorem dX8_doesPress_153 : decode cX8_doesPress 153 = .ok (.ireturn, 1) := by decide +kernel
theorem dX8_doesPress_154 : decode cX8_doesPress 154 = .ok (.iload_n 3, 1) := by decide +kernel
theorem dX8_doesPress_155 : decode cX8_doesPress 155 = .ok (.ifCond .ne 31, 3) := by decide +kernel
theorem dX8_doesPress_158 : decode cX8_doesPress 158 = .ok (.aload_n 0, 1) := by decide +kernel
theorem dX8_doesPress_159 : decode cX8_doesPress 159 = .ok (.getfield 25, 3) := by decide +kernel
theorem dX8_doesPress_162 : decode cX8_doesPress 162 = .ok (.iload_n 1, 1) := by decide +kernel
theorem dX8_doesPress_163 : decode cX8_doesPress 163 = .ok (.iaload, 1) := by decide +kernel
theorem dX8_doesPress_164 : decode cX8_doesPress 164 = .ok (.iconst 5, 1) := by decide +kernel
theorem dX8_doesPress_165 : decode cX8_doesPress 165 = .ok (.if_icmp .ne 25, 3) := by decide +kernel
theorem dX8_doesPress_168 : decode cX8_doesPress 168 = .ok (.iload_n 2, 1) := by decide +kernel
theorem dX8_doesPress_169 : decode cX8_doesPress 169 = .ok (.aload_n 0, 1) := by decide +kernel
theorem dX8_doesPress_170 : decode cX8_doesPress 170 = .ok (.getfield 19, 3) := by decide +kernel
theorem dX8_doesPress_173 : decode cX8_doesPress 173 = .ok (.iload_n 1, 1) := by decide +kernel
theorem dX8_doesPress_174 : decode cX8_doesPress 174 = .ok (.iaload, 1) := by decide +kernel
theorem dX8_doesPress_175 : decode cX8_doesPress 175 = .ok (.if_icmp .lt 15, 3) := by decide +kernel
theorem dX8_doesPress_178 : decode cX8_doesPress 178 = .ok (.aload_n 0, 1) := by decide +kernel
theorem dX8_doesPress_179 : decode cX8_doesPress 179 = .ok (.iload_n 2, 1) := by decide +kernel
theorem dX8_doesPress_180 : decode cX8_doesPress 180 = .ok (.invokevirtual 198, 3) := by decide +kernel
theorem dX8_doesPress_183 : decode cX8_doesPress 183 = .ok (.ifCond .le 7, 3) := by decide +kernel
theorem dX8_doesPress_186 : decode cX8_doesPress 186 = .ok (.iconst 1, 1) := by decide +kernel
theorem dX8_doesPress_187 : decode cX8_doesPress 187 = .ok (.goto 4, 3) := by decide +kernel
theorem dX8_doesPress_190 : decode cX8_doesPress 190 = .ok (.iconst 0, 1) := by decide +kernel
theorem dX8_doesPress_191 : decode cX8_doesPress 191 = .ok (.ireturn, 1) := by decide +kernel
theorem dX8_standsAt_0 : decode cX8_standsAt 0 = .ok (.iconst 1, 1) := by decide +kernel
theorem dX8_standsAt_1 : decode cX8_standsAt 1 = .ok (.istore_n 3, 1) := by decide +kernel
theorem dX8_standsAt_2 : decode cX8_standsAt 2 = .ok (.iconst 0, 1) := by decide +kernel
theorem dX8_standsAt_3 : decode cX8_standsAt 3 = .ok (.istore 4, 2) := by decide +kernel
theorem dX8_standsAt_5 : decode cX8_standsAt 5 = .ok (.iconst 0, 1) := by decide +kernel
theorem dX8_standsAt_6 : decode cX8_standsAt 6 = .ok (.istore 5, 2) := by decide +kernel
theorem dX8_standsAt_8 : decode cX8_standsAt 8 = .ok (.iconst 0, 1) := by decide +kernel
theorem dX8_standsAt_9 : decode cX8_standsAt 9 = .ok (.istore 6, 2) := by decide +kernel
theorem dX8_standsAt_11 : decode cX8_standsAt 11 = .ok (.iload 6, 2) := by decide +kernel
theorem dX8_standsAt_13 : decode cX8_standsAt 13 = .ok (.aload_n 0, 1) := by decide +kernel
theorem dX8_standsAt_14 : decode cX8_standsAt 14 = .ok (.getfield 13, 3) := by decide +kernel
theorem dX8_standsAt_17 : decode cX8_standsAt 17 = .ok (.iconst 0, 1) := by decide +kernel
theorem dX8_standsAt_18 : decode cX8_standsAt 18 = .ok (.iaload, 1) := by decide +kernel
theorem dX8_standsAt_19 : decode cX8_standsAt 19 = .ok (.if_icmp .ge 73, 3) := by decide +kernel
theorem dX8_standsAt_22 : decode cX8_standsAt 22 = .ok (.aload_n 0, 1) := by decide +kernel
theorem dX8_standsAt_23 : decode cX8_standsAt 23 = .ok (.getfield 16, 3) := by decide +kernel
theorem dX8_standsAt_26 : decode cX8_standsAt 26 = .ok (.iload 6, 2) := by decide +kernel
theorem dX8_standsAt_28 : decode cX8_standsAt 28 = .ok (.iaload, 1) := by decide +kernel
theorem dX8_standsAt_29 : decode cX8_standsAt 29 = .ok (.iload_n 1, 1) := by decide +kernel
theorem dX8_standsAt_30 : decode cX8_standsAt 30 = .ok (.if_icmp .ne 56, 3) := by decide +kernel
theorem dX8_standsAt_33 : decode cX8_standsAt 33 = .ok (.aload_n 0, 1) := by decide +kernel
theorem dX8_standsAt_34 : decode cX8_standsAt 34 = .ok (.iload 6, 2) := by decide +kernel
theorem dX8_standsAt_36 : decode cX8_standsAt 36 = .ok (.iload_n 2, 1) := by decide +kernel
theorem dX8_standsAt_37 : decode cX8_standsAt 37 = .ok (.invokevirtual 208, 3) := by decide +kernel
theorem dX8_standsAt_40 : decode cX8_standsAt 40 = .ok (.istore 7, 2) := by decide +kernel
theorem dX8_standsAt_42 : decode cX8_standsAt 42 = .ok (.iconst 1, 1) := by decide +kernel
theorem dX8_standsAt_43 : decode cX8_standsAt 43 = .ok (.istore 5, 2) := by decide +kernel
theorem dX8_standsAt_45 : decode cX8_standsAt 45 = .ok (.iload_n 3, 1) := by decide +kernel
theorem dX8_standsAt_46 : decode cX8_standsAt 46 = .ok (.ifCond .eq 12, 3) := by decide +kernel
theorem dX8_standsAt_49 : decode cX8_standsAt 49 = .ok (.iload 7, 2) := by decide +kernel
theorem dX8_standsAt_51 : decode cX8_standsAt 51 = .ok (.ifCond .eq 7, 3) := by decide +kernel
theorem dX8_standsAt_54 : decode cX8_standsAt 54 = .ok (.iconst 1, 1) := by decide +kernel
theorem dX8_standsAt_55 : decode cX8_standsAt 55 = .ok (.goto 4, 3) := by decide +kernel
theorem dX8_standsAt_58 : decode cX8_standsAt 58 = .ok (.iconst 0, 1) := by decide +kernel
theorem dX8_standsAt_59 : decode cX8_standsAt 59 = .ok (.istore_n 3, 1) := by decide +kernel
theorem dX8_standsAt_60 : decode cX8_standsAt 60 = .ok (.iload 4, 2) := by decide +kernel
theorem dX8_standsAt_62 : decode cX8_standsAt 62 = .ok (.ifCond .ne 17, 3) := by decide +kernel
theorem dX8_standsAt_65 : decode cX8_standsAt 65 = .ok (.iload 7, 2) := by decide +kernel
theorem dX8_standsAt_67 : decode cX8_standsAt 67 = .ok (.ifCond .eq 16, 3) := by decide +kernel
theorem dX8_standsAt_70 : decode cX8_standsAt 70 = .ok (.aload_n 0, 1) := by decide +kernel
theorem dX8_standsAt_71 : decode cX8_standsAt 71 = .ok (.iload 6, 2) := by decide +kernel
theorem dX8_standsAt_73 : decode cX8_standsAt 73 = .ok (.invokevirtual 201, 3) := by decide +kernel
theorem dX8_standsAt_76 : decode cX8_standsAt 76 = .ok (.ifCond .eq 7, 3) := by decide +kernel
theorem dX8_standsAt_79 : decode cX8_standsAt 79 = .ok (.iconst 1, 1) := by decide +kernel
theorem dX8_standsAt_80 : decode cX8_standsAt 80 = .ok (.goto 4, 3) := by decide +kernel
theorem dX8_standsAt_83 : decode cX8_standsAt 83 = .ok (.iconst 0, 1) := by decide +kernel
theorem dX8_standsAt_84 : decode cX8_standsAt 84 = .ok (.istore 4, 2) := by decide +kernel
theorem dX8_standsAt_86 : decode cX8_standsAt 86 = .ok (.iinc 6 1, 3) := by decide +kernel
theorem dX8_standsAt_89 : decode cX8_standsAt 89 = .ok (.goto (-78), 3) := by decide +kernel
theorem dX8_standsAt_92 : decode cX8_standsAt 92 = .ok (.iload 5, 2) := by decide +kernel
theorem dX8_standsAt_94 : decode cX8_standsAt 94 = .ok (.ifCond .eq 31, 3) := by decide +kernel
theorem dX8_standsAt_97 : decode cX8_standsAt 97 = .ok (.iload_n 3, 1) := by decide +kernel
theorem dX8_standsAt_98 : decode cX8_standsAt 98 = .ok (.ifCond .ne 23, 3) := by decide +kernel
theorem dX8_standsAt_101 : decode cX8_standsAt 101 = .ok (.iload 4, 2) := by decide +kernel
theorem dX8_standsAt_103 : decode cX8_standsAt 103 = .ok (.ifCond .ne 18, 3) := by decide +kernel
theorem dX8_standsAt_106 : decode cX8_standsAt 106 = .ok (.iload_n 2, 1) := by decide +kernel
theorem dX8_standsAt_107 : decode cX8_standsAt 107 = .ok (.sipush 719, 3) := by decide +kernel
theorem dX8_standsAt_110 : decode cX8_standsAt 110 = .ok (.if_icmp .eq 11, 3) := by decide +kernel
theorem dX8_standsAt_113 : decode cX8_standsAt 113 = .ok (.iload_n 2, 1) := by decide +kernel
theorem dX8_standsAt_114 : decode cX8_standsAt 114 = .ok (.aload_n 0, 1) := by decide +kernel
theorem dX8_standsAt_115 : decode cX8_standsAt 115 = .ok (.getfield 176, 3) := by decide +kernel
theorem dX8_standsAt_118 : decode cX8_standsAt 118 = .ok (.if_icmp .ne 7, 3) := by decide +kernel
theorem dX8_standsAt_121 : decode cX8_standsAt 121 = .ok (.iconst 1, 1) := by decide +kernel
theorem dX8_standsAt_122 : decode cX8_standsAt 122 = .ok (.goto 4, 3) := by decide +kernel
theorem dX8_standsAt_125 : decode cX8_standsAt 125 = .ok (.iconst 0, 1) := by decide +kernel
theorem dX8_standsAt_126 : decode cX8_standsAt 126 = .ok (.ireturn, 1) := by decide +kernel
theorem dX8_goEvening_0 : decode cX8_goEvening 0 = .ok (.iconst 0, 1) := by decide +kernel
theorem dX8_goEvening_1 : decode cX8_goEvening 1 = .ok (.istore_n 1, 1) := by decide +kernel
theorem dX8_goEvening_2 : decode cX8_goEvening 2 = .ok (.iload_n 1, 1) := by decide +kernel
theorem dX8_goEvening_3 : decode cX8_goEvening 3 = .ok (.iconst 4, 1) := by decide +kernel
theorem dX8_goEvening_4 : decode cX8_goEvening 4 = .ok (.if_icmp .ge 17, 3) := by decide +kernel
theorem dX8_goEvening_7 : decode cX8_goEvening 7 = .ok (.aload_n 0, 1) := by decide +kernel
theorem dX8_goEvening_8 : decode cX8_goEvening 8 = .ok (.getfield 88, 3) := by decide +kernel
theorem dX8_goEvening_11 : decode cX8_goEvening 11 = .ok (.iload_n 1, 1) := by decide +kernel
theorem dX8_goEvening_12 : decode cX8_goEvening 12 = .ok (.ldc 211, 2) := by decide +kernel
theorem dX8_goEvening_14 : decode cX8_goEvening 14 = .ok (.iastore, 1) := by decide +kernel
theorem dX8_goEvening_15 : decode cX8_goEvening 15 = .ok (.iinc 1 1, 3) := by decide +kernel
theorem dX8_goEvening_18 : decode cX8_goEvening 18 = .ok (.goto (-16), 3) := by decide +kernel
theorem dX8_goEvening_21 : decode cX8_goEvening 21 = .ok (.iconst 0, 1) := by decide +kernel
theorem dX8_goEvening_22 : decode cX8_goEvening 22 = .ok (.istore_n 1, 1) := by decide +kernel
theorem dX8_goEvening_23 : decode cX8_goEvening 23 = .ok (.iload_n 1, 1) := by decide +kernel
theorem dX8_goEvening_24 : decode cX8_goEvening 24 = .ok (.bipush 8, 2) := by decide +kernel
theorem dX8_goEvening_26 : decode cX8_goEvening 26 = .ok (.if_icmp .ge 17, 3) := by decide +kernel
theorem dX8_goEvening_29 : decode cX8_goEvening 29 = .ok (.aload_n 0, 1) := by decide +kernel
theorem dX8_goEvening_30 : decode cX8_goEvening 30 = .ok (.getfield 91, 3) := by decide +kernel
theorem dX8_goEvening_33 : decode cX8_goEvening 33 = .ok (.iload_n 1, 1) := by decide +kernel
theorem dX8_goEvening_34 : decode cX8_goEvening 34 = .ok (.ldc 211, 2) := by decide +kernel
theorem dX8_goEvening_36 : decode cX8_goEvening 36 = .ok (.iastore, 1) := by decide +kernel
theorem dX8_goEvening_37 : decode cX8_goEvening 37 = .ok (.iinc 1 1, 3) := by decide +kernel
theorem dX8_goEvening_40 : decode cX8_goEvening 40 = .ok (.goto (-17), 3) := by decide +kernel
theorem dX8_goEvening_43 : decode cX8_goEvening 43 = .ok (.iconst 0, 1) := by decide +kernel
theorem dX8_goEvening_44 : decode cX8_goEvening 44 = .ok (.istore_n 1, 1) := by decide +kernel
theorem dX8_goEvening_45 : decode cX8_goEvening 45 = .ok (.iconst 0, 1) := by decide +kernel
theorem dX8_goEvening_46 : decode cX8_goEvening 46 = .ok (.istore_n 2, 1) := by decide +kernel
theorem dX8_goEvening_47 : decode cX8_goEvening 47 = .ok (.iload_n 2, 1) := by decide +kernel
theorem dX8_goEvening_48 : decode cX8_goEvening 48 = .ok (.sipush 719, 3) := by decide +kernel
theorem dX8_goEvening_51 : decode cX8_goEvening 51 = .ok (.aload_n 0, 1) := by decide +kernel
theorem dX8_goEvening_52 : decode cX8_goEvening 52 = .ok (.getfield 40, 3) := by decide +kernel
theorem dX8_goEvening_55 : decode cX8_goEvening 55 = .ok (.iconst 0, 1) := by decide +kernel
theorem dX8_goEvening_56 : decode cX8_goEvening 56 = .ok (.iaload, 1) := by decide +kernel
theorem dX8_goEvening_57 : decode cX8_goEvening 57 = .ok (.iadd, 1) := by decide +kernel
theorem dX8_goEvening_58 : decode cX8_goEvening 58 = .ok (.if_icmp .gt 209, 3) := by decide +kernel
theorem dX8_goEvening_61 : decode cX8_goEvening 61 = .ok (.iconst 0, 1) := by decide +kernel
theorem dX8_goEvening_62 : decode cX8_goEvening 62 = .ok (.istore_n 3, 1) := by decide +kernel
theorem dX8_goEvening_63 : decode cX8_goEvening 63 = .ok (.iconst 0, 1) := by decide +kernel
theorem dX8_goEvening_64 : decode cX8_goEvening 64 = .ok (.istore 4, 2) := by decide +kernel
theorem dX8_goEvening_66 : decode cX8_goEvening 66 = .ok (.iload 4, 2) := by decide +kernel
theorem dX8_goEvening_68 : decode cX8_goEvening 68 = .ok (.iconst 4, 1) := by decide +kernel
theorem dX8_goEvening_69 : decode cX8_goEvening 69 = .ok (.if_icmp .ge 49, 3) := by decide +kernel
theorem dX8_goEvening_72 : decode cX8_goEvening 72 = .ok (.iload_n 2, 1) := by decide +kernel
theorem dX8_goEvening_73 : decode cX8_goEvening 73 = .ok (.sipush 719, 3) := by decide +kernel
theorem dX8_goEvening_76 : decode cX8_goEvening 76 = .ok (.if_icmp .gt 42, 3) := by decide +kernel
theorem dX8_goEvening_79 : decode cX8_goEvening 79 = .ok (.iload_n 3, 1) := by decide +kernel
theorem dX8_goEvening_80 : decode cX8_goEvening 80 = .ok (.aload_n 0, 1) := by decide +kernel
theorem dX8_goEvening_81 : decode cX8_goEvening 81 = .ok (.getfield 88, 3) := by decide +kernel
theorem dX8_goEvening_84 : decode cX8_goEvening 84 = .ok (.iload 4, 2) := by decide +kernel
theorem dX8_goEvening_86 : decode cX8_goEvening 86 = .ok (.iaload, 1) := by decide +kernel
theorem dX8_goEvening_87 : decode cX8_goEvening 87 = .ok (.ldc 211, 2) := by decide +kernel
theorem dX8_goEvening_89 : decode cX8_goEvening 89 = .ok (.if_icmp .ne 20, 3) := by decide +kernel
theorem dX8_goEvening_92 : decode cX8_goEvening 92 = .ok (.aload_n 0, 1) := by decide +kernel
theorem dX8_goEvening_93 : decode cX8_goEvening 93 = .ok (.iload 4, 2) := by decide +kernel
theorem dX8_goEvening_95 : decode cX8_goEvening 95 = .ok (.iload_n 2, 1) := by decide +kernel
theorem dX8_goEvening_96 : decode cX8_goEvening 96 = .ok (.invokevirtual 212, 3) := by decide +kernel
theorem dX8_goEvening_99 : decode cX8_goEvening 99 = .ok (.ifCond .eq 10, 3) := by decide +kernel
theorem dX8_goEvening_102 : decode cX8_goEvening 102 = .ok (.iconst 1, 1) := by decide +kernel
theorem dX8_goEvening_103 : decode cX8_goEvening 103 = .ok (.iload 4, 2) := by decide +kernel
theorem dX8_goEvening_105 : decode cX8_goEvening 105 = .ok (.ishl, 1) := by decide +kernel
theorem dX8_goEvening_106 : decode cX8_goEvening 106 = .ok (.goto 4, 3) := by decide +kernel
theorem dX8_goEvening_109 : decode cX8_goEvening 109 = .ok (.iconst 0, 1) := by decide +kernel
theorem dX8_goEvening_110 : decode cX8_goEvening 110 = .ok (.ior, 1) := by decide +kernel
theorem dX8_goEvening_111 : decode cX8_goEvening 111 = .ok (.istore_n 3, 1) := by decide +kernel
theorem dX8_goEvening_112 : decode cX8_goEvening 112 = .ok (.iinc 4 1, 3) := by decide +kernel
theorem dX8_goEvening_115 : decode cX8_goEvening 115 = .ok (.goto (-49), 3) := by decide +kernel
theorem dX8_goEvening_118 : decode cX8_goEvening 118 = .ok (.iconst 0, 1) := by decide +kernel
theorem dX8_goEvening_119 : decode cX8_goEvening 119 = .ok (.istore 4, 2) := by decide +kernel
theorem dX8_goEvening_121 : decode cX8_goEvening 121 = .ok (.iload 4, 2) := by decide +kernel
theorem dX8_goEvening_123 : decode cX8_goEvening 123 = .ok (.iconst 4, 1) := by decide +kernel
theorem dX8_goEvening_124 : decode cX8_goEvening 124 = .ok (.if_icmp .ge 36, 3) := by decide +kernel
theorem dX8_goEvening_127 : decode cX8_goEvening 127 = .ok (.aload_n 0, 1) := by decide +kernel
theorem dX8_goEvening_128 : decode cX8_goEvening 128 = .ok (.getfield 88, 3) := by decide +kernel
theorem dX8_goEvening_131 : decode cX8_goEvening 131 = .ok (.iload 4, 2) := by decide +kernel
theorem dX8_goEvening_133 : decode cX8_goEvening 133 = .ok (.iload_n 3, 1) := by decide +kernel
theorem dX8_goEvening_134 : decode cX8_goEvening 134 = .ok (.iload 4, 2) := by decide +kernel
theorem dX8_goEvening_136 : decode cX8_goEvening 136 = .ok (.invokestatic 215, 3) := by decide +kernel
theorem dX8_goEvening_139 : decode cX8_goEvening 139 = .ok (.ifCond .eq 7, 3) := by decide +kernel
theorem dX8_goEvening_142 : decode cX8_goEvening 142 = .ok (.iload_n 2, 1) := by decide +kernel
theorem dX8_goEvening_143 : decode cX8_goEvening 143 = .ok (.goto 10, 3) := by decide +kernel
theorem dX8_goEvening_146 : decode cX8_goEvening 146 = .ok (.aload_n 0, 1) := by decide +kernel
theorem dX8_goEvening_147 : decode cX8_goEvening 147 = .ok (.getfield 88, 3) := by decide +kernel
theorem dX8_goEvening_150 : decode cX8_goEvening 150 = .ok (.iload 4, 2) := by decide +kernel
theorem dX8_goEvening_152 : decode cX8_goEvening 152 = .ok (.iaload, 1) := by decide +kernel
theorem dX8_goEvening_153 : decode cX8_goEvening 153 = .ok (.iastore, 1) := by decide +kernel
theorem dX8_goEvening_154 : decode cX8_goEvening 154 = .ok (.iinc 4 1, 3) := by decide +kernel
theorem dX8_goEvening_157 : decode cX8_goEvening 157 = .ok (.goto (-36), 3) := by decide +kernel
theorem dX8_goEvening_160 : decode cX8_goEvening 160 = .ok (.iload_n 3, 1) := by decide +kernel
theorem dX8_goEvening_161 : decode cX8_goEvening 161 = .ok (.ifCond .eq 7, 3) := by decide +kernel
theorem dX8_goEvening_164 : decode cX8_goEvening 164 = .ok (.iload_n 2, 1) := by decide +kernel
theorem dX8_goEvening_165 : decode cX8_goEvening 165 = .ok (.goto 4, 3) := by decide +kernel
theorem dX8_goEvening_168 : decode cX8_goEvening 168 = .ok (.iload_n 1, 1) := by decide +kernel
theorem dX8_goEvening_169 : decode cX8_goEvening 169 = .ok (.istore_n 1, 1) := by decide +kernel
theorem dX8_goEvening_170 : decode cX8_goEvening 170 = .ok (.iconst 0, 1) := by decide +kernel
theorem dX8_goEvening_171 : decode cX8_goEvening 171 = .ok (.istore 4, 2) := by decide +kernel
theorem dX8_goEvening_173 : decode cX8_goEvening 173 = .ok (.iload 4, 2) := by decide +kernel
theorem dX8_goEvening_175 : decode cX8_goEvening 175 = .ok (.aload_n 0, 1) := by decide +kernel
theorem dX8_goEvening_176 : decode cX8_goEvening 176 = .ok (.getfield 13, 3) := by decide +kernel
theorem dX8_goEvening_179 : decode cX8_goEvening 179 = .ok (.iconst 0, 1) := by decide +kernel
theorem dX8_goEvening_180 : decode cX8_goEvening 180 = .ok (.iaload, 1) := by decide +kernel
theorem dX8_goEvening_181 : decode cX8_goEvening 181 = .ok (.if_icmp .ge 80, 3) := by decide +kernel
theorem dX8_goEvening_184 : decode cX8_goEvening 184 = .ok (.aload_n 0, 1) := by decide +kernel
theorem dX8_goEvening_185 : decode cX8_goEvening 185 = .ok (.getfield 88, 3) := by decide +kernel
theorem dX8_goEvening_188 : decode cX8_goEvening 188 = .ok (.aload_n 0, 1) := by decide +kernel
theorem dX8_goEvening_189 : decode cX8_goEvening 189 = .ok (.getfield 16, 3) := by decide +kernel
theorem dX8_goEvening_192 : decode cX8_goEvening 192 = .ok (.iload 4, 2) := by decide +kernel
theorem dX8_goEvening_194 : decode cX8_goEvening 194 = .ok (.iaload, 1) := by decide +kernel
theorem dX8_goEvening_195 : decode cX8_goEvening 195 = .ok (.iaload, 1) := by decide +kernel
theorem dX8_goEvening_196 : decode cX8_goEvening 196 = .ok (.ldc 211, 2) := by decide +kernel
theorem dX8_goEvening_198 : decode cX8_goEvening 198 = .ok (.if_icmp .eq 19, 3) := by decide +kernel
theorem dX8_goEvening_201 : decode cX8_goEvening 201 = .ok (.aload_n 0, 1) := by decide +kernel
theorem dX8_goEvening_202 : decode cX8_goEvening 202 = .ok (.getfield 91, 3) := by decide +kernel
theorem dX8_goEvening_205 : decode cX8_goEvening 205 = .ok (.iload 4, 2) := by decide +kernel
theorem dX8_goEvening_207 : decode cX8_goEvening 207 = .ok (.iaload, 1) := by decide +kernel
theorem dX8_goEvening_208 : decode cX8_goEvening 208 = .ok (.ldc 211, 2) := by decide +kernel
theorem dX8_goEvening_210 : decode cX8_goEvening 210 = .ok (.if_icmp .ne 7, 3) := by decide +kernel
theorem dX8_goEvening_213 : decode cX8_goEvening 213 = .ok (.iconst 1, 1) := by decide +kernel
theorem dX8_goEvening_214 : decode cX8_goEvening 214 = .ok (.goto 4, 3) := by decide +kernel
theorem dX8_goEvening_217 : decode cX8_goEvening 217 = .ok (.iconst 0, 1) := by decide +kernel
theorem dX8_goEvening_218 : decode cX8_goEvening 218 = .ok (.istore 5, 2) := by decide +kernel
theorem dX8_goEvening_220 : decode cX8_goEvening 220 = .ok (.aload_n 0, 1) := by decide +kernel
theorem dX8_goEvening_221 : decode cX8_goEvening 221 = .ok (.getfield 91, 3) := by decide +kernel
theorem dX8_goEvening_224 : decode cX8_goEvening 224 = .ok (.iload 4, 2) := by decide +kernel
theorem dX8_goEvening_226 : decode cX8_goEvening 226 = .ok (.iload 5, 2) := by decide +kernel
theorem dX8_goEvening_228 : decode cX8_goEvening 228 = .ok (.ifCond .eq 19, 3) := by decide +kernel
theorem dX8_goEvening_231 : decode cX8_goEvening 231 = .ok (.iload_n 2, 1) := by decide +kernel
theorem dX8_goEvening_232 : decode cX8_goEvening 232 = .ok (.iload_n 1, 1) := by decide +kernel
theorem dX8_goEvening_233 : decode cX8_goEvening 233 = .ok (.isub, 1) := by decide +kernel
theorem dX8_goEvening_234 : decode cX8_goEvening 234 = .ok (.aload_n 0, 1) := by decide +kernel
theorem dX8_goEvening_235 : decode cX8_goEvening 235 = .ok (.getfield 40, 3) := by decide +kernel
theorem dX8_goEvening_238 : decode cX8_goEvening 238 = .ok (.iconst 0, 1) := by decide +kernel
theorem dX8_goEvening_239 : decode cX8_goEvening 239 = .ok (.iaload, 1) := by decide +kernel
theorem dX8_goEvening_240 : decode cX8_goEvening 240 = .ok (.if_icmp .lt 7, 3) := by decide +kernel
theorem dX8_goEvening_243 : decode cX8_goEvening 243 = .ok (.iload_n 2, 1) := by decide +kernel
theorem dX8_goEvening_244 : decode cX8_goEvening 244 = .ok (.goto 10, 3) := by decide +kernel
theorem dX8_goEvening_247 : decode cX8_goEvening 247 = .ok (.aload_n 0, 1) := by decide +kernel
theorem dX8_goEvening_248 : decode cX8_goEvening 248 = .ok (.getfield 91, 3) := by decide +kernel
theorem dX8_goEvening_251 : decode cX8_goEvening 251 = .ok (.iload 4, 2) := by decide +kernel
theorem dX8_goEvening_253 : decode cX8_goEvening 253 = .ok (.iaload, 1) := by decide +kernel
theorem dX8_goEvening_254 : decode cX8_goEvening 254 = .ok (.iastore, 1) := by decide +kernel
theorem dX8_goEvening_255 : decode cX8_goEvening 255 = .ok (.iinc 4 1, 3) := by decide +kernel
theorem dX8_goEvening_258 : decode cX8_goEvening 258 = .ok (.goto (-85), 3) := by decide +kernel
theorem dX8_goEvening_261 : decode cX8_goEvening 261 = .ok (.iinc 2 1, 3) := by decide +kernel
theorem dX8_goEvening_264 : decode cX8_goEvening 264 = .ok (.goto (-217), 3) := by decide +kernel
theorem dX8_goEvening_267 : decode cX8_goEvening 267 = .ok (.return_, 1) := by decide +kernel
theorem dX8_lastOf_0 : decode cX8_lastOf 0 = .ok (.iconst 0, 1) := by decide +kernel
theorem dX8_lastOf_1 : decode cX8_lastOf 1 = .ok (.istore_n 1, 1) := by decide +kernel
theorem dX8_lastOf_2 : decode cX8_lastOf 2 = .ok (.iconst 0, 1) := by decide +kernel
theorem dX8_lastOf_3 : decode cX8_lastOf 3 = .ok (.istore_n 2, 1) := by decide +kernel
theorem dX8_lastOf_4 : decode cX8_lastOf 4 = .ok (.iload_n 2, 1) := by decide +kernel
theorem dX8_lastOf_5 : decode cX8_lastOf 5 = .ok (.aload_n 0, 1) := by decide +kernel
theorem dX8_lastOf_6 : decode cX8_lastOf 6 = .ok (.getfield 13, 3) := by decide +kernel
theorem dX8_lastOf_9 : decode cX8_lastOf 9 = .ok (.iconst 0, 1) := by decide +kernel
theorem dX8_lastOf_10 : decode cX8_lastOf 10 = .ok (.iaload, 1) := by decide +kernel
theorem dX8_lastOf_11 : decode cX8_lastOf 11 = .ok (.if_icmp .ge 30, 3) := by decide +kernel
theorem dX8_lastOf_14 : decode cX8_lastOf 14 = .ok (.aload_n 0, 1) := by decide +kernel
theorem dX8_lastOf_15 : decode cX8_lastOf 15 = .ok (.getfield 91, 3) := by decide +kernel
theorem dX8_lastOf_18 : decode cX8_lastOf 18 = .ok (.iload_n 2, 1) := by decide +kernel
theorem dX8_lastOf_19 : decode cX8_lastOf 19 = .ok (.iaload, 1) := by decide +kernel
theorem dX8_lastOf_20 : decode cX8_lastOf 20 = .ok (.iload_n 1, 1) := by decide +kernel
theorem dX8_lastOf_21 : decode cX8_lastOf 21 = .ok (.if_icmp .le 12, 3) := by decide +kernel
theorem dX8_lastOf_24 : decode cX8_lastOf 24 = .ok (.aload_n 0, 1) := by decide +kernel
theorem dX8_lastOf_25 : decode cX8_lastOf 25 = .ok (.getfield 91, 3) := by decide +kernel
theorem dX8_lastOf_28 : decode cX8_lastOf 28 = .ok (.iload_n 2, 1) := by decide +kernel
theorem dX8_lastOf_29 : decode cX8_lastOf 29 = .ok (.iaload, 1) := by decide +kernel
theorem dX8_lastOf_30 : decode cX8_lastOf 30 = .ok (.goto 4, 3) := by decide +kernel
theorem dX8_lastOf_33 : decode cX8_lastOf 33 = .ok (.iload_n 1, 1) := by decide +kernel
theorem dX8_lastOf_34 : decode cX8_lastOf 34 = .ok (.istore_n 1, 1) := by decide +kernel
theorem dX8_lastOf_35 : decode cX8_lastOf 35 = .ok (.iinc 2 1, 3) := by decide +kernel
theorem dX8_lastOf_38 : decode cX8_lastOf 38 = .ok (.goto (-34), 3) := by decide +kernel
theorem dX8_lastOf_41 : decode cX8_lastOf 41 = .ok (.iload_n 1, 1) := by decide +kernel
theorem dX8_lastOf_42 : decode cX8_lastOf 42 = .ok (.ireturn, 1) := by decide +kernel
theorem dX8_away_0 : decode cX8_away 0 = .ok (.iload_n 0, 1) := by decide +kernel
theorem dX8_away_1 : decode cX8_away 1 = .ok (.iload_n 1, 1) := by decide +kernel
theorem dX8_away_2 : decode cX8_away 2 = .ok (.if_icmp .ge 9, 3) := by decide +kernel
theorem dX8_away_5 : decode cX8_away 5 = .ok (.iload_n 1, 1) := by decide +kernel
theorem dX8_away_6 : decode cX8_away 6 = .ok (.iload_n 0, 1) := by decide +kernel
theorem dX8_away_7 : decode cX8_away 7 = .ok (.isub, 1) := by decide +kernel
theorem dX8_away_8 : decode cX8_away 8 = .ok (.goto 6, 3) := by decide +kernel
theorem dX8_away_11 : decode cX8_away 11 = .ok (.iload_n 0, 1) := by decide +kernel
theorem dX8_away_12 : decode cX8_away 12 = .ok (.iload_n 1, 1) := by decide +kernel
theorem dX8_away_13 : decode cX8_away 13 = .ok (.isub, 1) := by decide +kernel
theorem dX8_away_14 : decode cX8_away 14 = .ok (.ireturn, 1) := by decide +kernel
theorem dX8_allWasted_0 : decode cX8_allWasted 0 = .ok (.aload_n 0, 1) := by decide +kernel
theorem dX8_allWasted_1 : decode cX8_allWasted 1 = .ok (.invokevirtual 218, 3) := by decide +kernel
theorem dX8_allWasted_4 : decode cX8_allWasted 4 = .ok (.aload_n 0, 1) := by decide +kernel
theorem dX8_allWasted_5 : decode cX8_allWasted 5 = .ok (.getfield 43, 3) := by decide +kernel
theorem dX8_allWasted_8 : decode cX8_allWasted 8 = .ok (.iconst 0, 1) := by decide +kernel
theorem dX8_allWasted_9 : decode cX8_allWasted 9 = .ok (.iaload, 1) := by decide +kernel
theorem dX8_allWasted_10 : decode cX8_allWasted 10 = .ok (.invokestatic 221, 3) := by decide +kernel
theorem dX8_allWasted_13 : decode cX8_allWasted 13 = .ok (.istore_n 1, 1) := by decide +kernel
theorem dX8_allWasted_14 : decode cX8_allWasted 14 = .ok (.iconst 0, 1) := by decide +kernel
theorem dX8_allWasted_15 : decode cX8_allWasted 15 = .ok (.istore_n 2, 1) := by decide +kernel
theorem dX8_allWasted_16 : decode cX8_allWasted 16 = .ok (.iload_n 2, 1) := by decide +kernel
theorem dX8_allWasted_17 : decode cX8_allWasted 17 = .ok (.aload_n 0, 1) := by decide +kernel
theorem dX8_allWasted_18 : decode cX8_allWasted 18 = .ok (.getfield 13, 3) := by decide +kernel
theorem dX8_allWasted_21 : decode cX8_allWasted 21 = .ok (.iconst 0, 1) := by decide +kernel
theorem dX8_allWasted_22 : decode cX8_allWasted 22 = .ok (.iaload, 1) := by decide +kernel
theorem dX8_allWasted_23 : decode cX8_allWasted 23 = .ok (.if_icmp .ge 27, 3) := by decide +kernel
theorem dX8_allWasted_26 : decode cX8_allWasted 26 = .ok (.iload_n 1, 1) := by decide +kernel
theorem dX8_allWasted_27 : decode cX8_allWasted 27 = .ok (.aload_n 0, 1) := by decide +kernel
theorem dX8_allWasted_28 : decode cX8_allWasted 28 = .ok (.getfield 91, 3) := by decide +kernel
theorem dX8_allWasted_31 : decode cX8_allWasted 31 = .ok (.iload_n 2, 1) := by decide +kernel
theorem dX8_allWasted_32 : decode cX8_allWasted 32 = .ok (.iaload, 1) := by decide +kernel
theorem dX8_allWasted_33 : decode cX8_allWasted 33 = .ok (.aload_n 0, 1) := by decide +kernel
theorem dX8_allWasted_34 : decode cX8_allWasted 34 = .ok (.getfield 19, 3) := by decide +kernel
theorem dX8_allWasted_37 : decode cX8_allWasted 37 = .ok (.iload_n 2, 1) := by decide +kernel
theorem dX8_allWasted_38 : decode cX8_allWasted 38 = .ok (.iaload, 1) := by decide +kernel
theorem dX8_allWasted_39 : decode cX8_allWasted 39 = .ok (.invokestatic 221, 3) := by decide +kernel
theorem dX8_allWasted_42 : decode cX8_allWasted 42 = .ok (.iadd, 1) := by decide +kernel
theorem dX8_allWasted_43 : decode cX8_allWasted 43 = .ok (.istore_n 1, 1) := by decide +kernel
theorem dX8_allWasted_44 : decode cX8_allWasted 44 = .ok (.iinc 2 1, 3) := by decide +kernel
theorem dX8_allWasted_47 : decode cX8_allWasted 47 = .ok (.goto (-31), 3) := by decide +kernel
theorem dX8_allWasted_50 : decode cX8_allWasted 50 = .ok (.iload_n 1, 1) := by decide +kernel
theorem dX8_allWasted_51 : decode cX8_allWasted 51 = .ok (.ireturn, 1) := by decide +kernel
theorem dX8_goAsItIs_0 : decode cX8_goAsItIs 0 = .ok (.aload_n 0, 1) := by decide +kernel
theorem dX8_goAsItIs_1 : decode cX8_goAsItIs 1 = .ok (.invokevirtual 224, 3) := by decide +kernel
theorem dX8_goAsItIs_4 : decode cX8_goAsItIs 4 = .ok (.aload_n 0, 1) := by decide +kernel
theorem dX8_goAsItIs_5 : decode cX8_goAsItIs 5 = .ok (.invokevirtual 227, 3) := by decide +kernel
theorem dX8_goAsItIs_8 : decode cX8_goAsItIs 8 = .ok (.return_, 1) := by decide +kernel
theorem dX8_isTime_0 : decode cX8_isTime 0 = .ok (.iload_n 0, 1) := by decide +kernel
theorem dX8_isTime_1 : decode cX8_isTime 1 = .ok (.i2l, 1) := by decide +kernel
theorem dX8_isTime_2 : decode cX8_isTime 2 = .ok (.lconst 0, 1) := by decide +kernel
theorem dX8_isTime_3 : decode cX8_isTime 3 = .ok (.ldc2_w 230, 3) := by decide +kernel
theorem dX8_isTime_6 : decode cX8_isTime 6 = .ok (.invokestatic 109, 3) := by decide +kernel
theorem dX8_isTime_9 : decode cX8_isTime 9 = .ok (.ireturn, 1) := by decide +kernel
theorem dX8_shame_0 : decode cX8_shame 0 = .ok (.aload_n 0, 1) := by decide +kernel
theorem dX8_shame_1 : decode cX8_shame 1 = .ok (.iload_n 1, 1) := by decide +kernel
theorem dX8_shame_2 : decode cX8_shame 2 = .ok (.invokevirtual 167, 3) := by decide +kernel
theorem dX8_shame_5 : decode cX8_shame 5 = .ok (.ifCond .eq 10, 3) := by decide +kernel
theorem dX8_shame_8 : decode cX8_shame 8 = .ok (.iload_n 2, 1) := by decide +kernel
theorem dX8_shame_9 : decode cX8_shame 9 = .ok (.invokestatic 232, 3) := by decide +kernel
theorem dX8_shame_12 : decode cX8_shame 12 = .ok (.ifCond .ne 5, 3) := by decide +kernel
theorem dX8_shame_15 : decode cX8_shame 15 = .ok (.iconst (-1), 1) := by decide +kernel
theorem dX8_shame_16 : decode cX8_shame 16 = .ok (.ireturn, 1) := by decide +kernel
theorem dX8_shame_17 : decode cX8_shame 17 = .ok (.aload_n 0, 1) := by decide +kernel
theorem dX8_shame_18 : decode cX8_shame 18 = .ok (.invokevirtual 235, 3) := by decide +kernel
theorem dX8_shame_21 : decode cX8_shame 21 = .ok (.aload_n 0, 1) := by decide +kernel
theorem dX8_shame_22 : decode cX8_shame 22 = .ok (.iload_n 1, 1) := by decide +kernel
theorem dX8_shame_23 : decode cX8_shame 23 = .ok (.iload_n 2, 1) := by decide +kernel
theorem dX8_shame_24 : decode cX8_shame 24 = .ok (.invokevirtual 204, 3) := by decide +kernel
theorem dX8_shame_27 : decode cX8_shame 27 = .ok (.ireturn, 1) := by decide +kernel
theorem dX8_presses_0 : decode cX8_presses 0 = .ok (.aload_n 0, 1) := by decide +kernel
theorem dX8_presses_1 : decode cX8_presses 1 = .ok (.iload_n 1, 1) := by decide +kernel
theorem dX8_presses_2 : decode cX8_presses 2 = .ok (.invokevirtual 167, 3) := by decide +kernel
theorem dX8_presses_5 : decode cX8_presses 5 = .ok (.ifCond .eq 10, 3) := by decide +kernel
theorem dX8_presses_8 : decode cX8_presses 8 = .ok (.iload_n 2, 1) := by decide +kernel
theorem dX8_presses_9 : decode cX8_presses 9 = .ok (.invokestatic 232, 3) := by decide +kernel
theorem dX8_presses_12 : decode cX8_presses 12 = .ok (.ifCond .ne 5, 3) := by decide +kernel
theorem dX8_presses_15 : decode cX8_presses 15 = .ok (.iconst (-1), 1) := by decide +kernel
theorem dX8_presses_16 : decode cX8_presses 16 = .ok (.ireturn, 1) := by decide +kernel
theorem dX8_presses_17 : decode cX8_presses 17 = .ok (.aload_n 0, 1) := by decide +kernel
theorem dX8_presses_18 : decode cX8_presses 18 = .ok (.invokevirtual 235, 3) := by decide +kernel
theorem dX8_presses_21 : decode cX8_presses 21 = .ok (.aload_n 0, 1) := by decide +kernel
theorem dX8_presses_22 : decode cX8_presses 22 = .ok (.iload_n 1, 1) := by decide +kernel
theorem dX8_presses_23 : decode cX8_presses 23 = .ok (.iload_n 2, 1) := by decide +kernel
theorem dX8_presses_24 : decode cX8_presses 24 = .ok (.invokevirtual 208, 3) := by decide +kernel
theorem dX8_presses_27 : decode cX8_presses 27 = .ok (.ifCond .eq 7, 3) := by decide +kernel
theorem dX8_presses_30 : decode cX8_presses 30 = .ok (.iconst 1, 1) := by decide +kernel
theorem dX8_presses_31 : decode cX8_presses 31 = .ok (.goto 4, 3) := by decide +kernel
theorem dX8_presses_34 : decode cX8_presses 34 = .ok (.iconst 0, 1) := by decide +kernel
theorem dX8_presses_35 : decode cX8_presses 35 = .ok (.ireturn, 1) := by decide +kernel
theorem dX8_is_0 : decode cX8_is 0 = .ok (.aload_n 0, 1) := by decide +kernel
theorem dX8_is_1 : decode cX8_is 1 = .ok (.iload_n 1, 1) := by decide +kernel
theorem dX8_is_2 : decode cX8_is 2 = .ok (.invokevirtual 167, 3) := by decide +kernel
theorem dX8_is_5 : decode cX8_is 5 = .ok (.ifCond .eq 15, 3) := by decide +kernel
theorem dX8_is_8 : decode cX8_is 8 = .ok (.iload_n 2, 1) := by decide +kernel
theorem dX8_is_9 : decode cX8_is 9 = .ok (.i2l, 1) := by decide +kernel
theorem dX8_is_10 : decode cX8_is 10 = .ok (.lconst 0, 1) := by decide +kernel
theorem dX8_is_11 : decode cX8_is 11 = .ok (.ldc2_w 238, 3) := by decide +kernel
theorem dX8_is_14 : decode cX8_is 14 = .ok (.invokestatic 109, 3) := by decide +kernel
theorem dX8_is_17 : decode cX8_is 17 = .ok (.ifCond .ne 5, 3) := by decide +kernel
theorem dX8_is_20 : decode cX8_is 20 = .ok (.iconst (-1), 1) := by decide +kernel
theorem dX8_is_21 : decode cX8_is 21 = .ok (.ireturn, 1) := by decide +kernel
theorem dX8_is_22 : decode cX8_is 22 = .ok (.aload_n 0, 1) := by decide +kernel
theorem dX8_is_23 : decode cX8_is 23 = .ok (.invokevirtual 235, 3) := by decide +kernel
theorem dX8_is_26 : decode cX8_is 26 = .ok (.iload_n 2, 1) := by decide +kernel
theorem dX8_is_27 : decode cX8_is 27 = .ok (.aload_n 0, 1) := by decide +kernel
theorem dX8_is_28 : decode cX8_is 28 = .ok (.getfield 88, 3) := by decide +kernel
theorem dX8_is_31 : decode cX8_is 31 = .ok (.aload_n 0, 1) := by decide +kernel
theorem dX8_is_32 : decode cX8_is 32 = .ok (.getfield 16, 3) := by decide +kernel
theorem dX8_is_35 : decode cX8_is 35 = .ok (.iload_n 1, 1) := by decide +kernel
theorem dX8_is_36 : decode cX8_is 36 = .ok (.iaload, 1) := by decide +kernel
theorem dX8_is_37 : decode cX8_is 37 = .ok (.iaload, 1) := by decide +kernel
theorem dX8_is_38 : decode cX8_is 38 = .ok (.if_icmp .ge 7, 3) := by decide +kernel
theorem dX8_is_41 : decode cX8_is 41 = .ok (.iconst 0, 1) := by decide +kernel
theorem dX8_is_42 : decode cX8_is 42 = .ok (.goto 18, 3) := by decide +kernel
theorem dX8_is_45 : decode cX8_is 45 = .ok (.iload_n 2, 1) := by decide +kernel
theorem dX8_is_46 : decode cX8_is 46 = .ok (.aload_n 0, 1) := by decide +kernel
theorem dX8_is_47 : decode cX8_is 47 = .ok (.getfield 91, 3) := by decide +kernel
theorem dX8_is_50 : decode cX8_is 50 = .ok (.iload_n 1, 1) := by decide +kernel
theorem dX8_is_51 : decode cX8_is 51 = .ok (.iaload, 1) := by decide +kernel
theorem dX8_is_52 : decode cX8_is 52 = .ok (.if_icmp .ge 7, 3) := by decide +kernel
theorem dX8_is_55 : decode cX8_is 55 = .ok (.iconst 1, 1) := by decide +kernel
theorem dX8_is_56 : decode cX8_is 56 = .ok (.goto 4, 3) := by decide +kernel
theorem dX8_is_59 : decode cX8_is 59 = .ok (.iconst 2, 1) := by decide +kernel
theorem dX8_is_60 : decode cX8_is 60 = .ok (.ireturn, 1) := by decide +kernel
theorem dX8_when_0 : decode cX8_when 0 = .ok (.aload_n 0, 1) := by decide +kernel
theorem dX8_when_1 : decode cX8_when 1 = .ok (.iload_n 1, 1) := by decide +kernel
theorem dX8_when_2 : decode cX8_when 2 = .ok (.invokevirtual 167, 3) := by decide +kernel
theorem dX8_when_5 : decode cX8_when 5 = .ok (.ifCond .eq 13, 3) := by decide +kernel
theorem dX8_when_8 : decode cX8_when 8 = .ok (.iload_n 2, 1) := by decide +kernel
theorem dX8_when_9 : decode cX8_when 9 = .ok (.i2l, 1) := by decide +kernel
theorem dX8_when_10 : decode cX8_when 10 = .ok (.lconst 0, 1) := by decide +kernel
theorem dX8_when_11 : decode cX8_when 11 = .ok (.lconst 1, 1) := by decide +kernel
theorem dX8_when_12 : decode cX8_when 12 = .ok (.invokestatic 109, 3) := by decide +kernel
theorem dX8_when_15 : decode cX8_when 15 = .ok (.ifCond .ne 5, 3) := by decide +kernel
theorem dX8_when_18 : decode cX8_when 18 = .ok (.iconst (-1), 1) := by decide +kernel
theorem dX8_when_19 : decode cX8_when 19 = .ok (.ireturn, 1) := by decide +kernel
theorem dX8_when_20 : decode cX8_when 20 = .ok (.aload_n 0, 1) := by decide +kernel
theorem dX8_when_21 : decode cX8_when 21 = .ok (.invokevirtual 235, 3) := by decide +kernel
theorem dX8_when_24 : decode cX8_when 24 = .ok (.iload_n 2, 1) := by decide +kernel
theorem dX8_when_25 : decode cX8_when 25 = .ok (.ifCond .ne 17, 3) := by decide +kernel
theorem dX8_when_28 : decode cX8_when 28 = .ok (.aload_n 0, 1) := by decide +kernel
theorem dX8_when_29 : decode cX8_when 29 = .ok (.getfield 88, 3) := by decide +kernel
theorem dX8_when_32 : decode cX8_when 32 = .ok (.aload_n 0, 1) := by decide +kernel
theorem dX8_when_33 : decode cX8_when 33 = .ok (.getfield 16, 3) := by decide +kernel
theorem dX8_when_36 : decode cX8_when 36 = .ok (.iload_n 1, 1) := by decide +kernel
theorem dX8_when_37 : decode cX8_when 37 = .ok (.iaload, 1) := by decide +kernel
theorem dX8_when_38 : decode cX8_when 38 = .ok (.iaload, 1) := by decide +kernel
theorem dX8_when_39 : decode cX8_when 39 = .ok (.goto 9, 3) := by decide +kernel
theorem dX8_when_42 : decode cX8_when 42 = .ok (.aload_n 0, 1) := by decide +kernel
theorem dX8_when_43 : decode cX8_when 43 = .ok (.getfield 91, 3) := by decide +kernel
theorem dX8_when_46 : decode cX8_when 46 = .ok (.iload_n 1, 1) := by decide +kernel
theorem dX8_when_47 : decode cX8_when 47 = .ok (.iaload, 1) := by decide +kernel
theorem dX8_when_48 : decode cX8_when 48 = .ok (.ireturn, 1) := by decide +kernel
theorem dX8_wasted_0 : decode cX8_wasted 0 = .ok (.iload_n 1, 1) := by decide +kernel
theorem dX8_wasted_1 : decode cX8_wasted 1 = .ok (.iconst (-1), 1) := by decide +kernel
theorem dX8_wasted_2 : decode cX8_wasted 2 = .ok (.if_icmp .eq 19, 3) := by decide +kernel
theorem dX8_wasted_5 : decode cX8_wasted 5 = .ok (.iload_n 1, 1) := by decide +kernel
theorem dX8_wasted_6 : decode cX8_wasted 6 = .ok (.bipush (-2), 2) := by decide +kernel
theorem dX8_wasted_8 : decode cX8_wasted 8 = .ok (.if_icmp .eq 13, 3) := by decide +kernel
theorem dX8_wasted_11 : decode cX8_wasted 11 = .ok (.aload_n 0, 1) := by decide +kernel
theorem dX8_wasted_12 : decode cX8_wasted 12 = .ok (.iload_n 1, 1) := by decide +kernel
theorem dX8_wasted_13 : decode cX8_wasted 13 = .ok (.invokevirtual 167, 3) := by decide +kernel
theorem dX8_wasted_16 : decode cX8_wasted 16 = .ok (.ifCond .ne 5, 3) := by decide +kernel
theorem dX8_wasted_19 : decode cX8_wasted 19 = .ok (.iconst (-1), 1) := by decide +kernel
theorem dX8_wasted_20 : decode cX8_wasted 20 = .ok (.ireturn, 1) := by decide +kernel
theorem dX8_wasted_21 : decode cX8_wasted 21 = .ok (.aload_n 0, 1) := by decide +kernel
theorem dX8_wasted_22 : decode cX8_wasted 22 = .ok (.invokevirtual 235, 3) := by decide +kernel
theorem dX8_wasted_25 : decode cX8_wasted 25 = .ok (.iload_n 1, 1) := by decide +kernel
theorem dX8_wasted_26 : decode cX8_wasted 26 = .ok (.bipush (-2), 2) := by decide +kernel
theorem dX8_wasted_28 : decode cX8_wasted 28 = .ok (.if_icmp .ne 10, 3) := by decide +kernel
theorem dX8_wasted_31 : decode cX8_wasted 31 = .ok (.aload_n 0, 1) := by decide +kernel
theorem dX8_wasted_32 : decode cX8_wasted 32 = .ok (.invokevirtual 240, 3) := by decide +kernel
theorem dX8_wasted_35 : decode cX8_wasted 35 = .ok (.goto 39, 3) := by decide +kernel
theorem dX8_wasted_38 : decode cX8_wasted 38 = .ok (.iload_n 1, 1) := by decide +kernel
theorem dX8_wasted_39 : decode cX8_wasted 39 = .ok (.iconst (-1), 1) := by decide +kernel
theorem dX8_wasted_40 : decode cX8_wasted 40 = .ok (.if_icmp .ne 19, 3) := by decide +kernel
theorem dX8_wasted_43 : decode cX8_wasted 43 = .ok (.aload_n 0, 1) := by decide +kernel
theorem dX8_wasted_44 : decode cX8_wasted 44 = .ok (.invokevirtual 218, 3) := by decide +kernel
theorem dX8_wasted_47 : decode cX8_wasted 47 = .ok (.aload_n 0, 1) := by decide +kernel
theorem dX8_wasted_48 : decode cX8_wasted 48 = .ok (.getfield 43, 3) := by decide +kernel
theorem dX8_wasted_51 : decode cX8_wasted 51 = .ok (.iconst 0, 1) := by decide +kernel
theorem dX8_wasted_52 : decode cX8_wasted 52 = .ok (.iaload, 1) := by decide +kernel
theorem dX8_wasted_53 : decode cX8_wasted 53 = .ok (.invokestatic 221, 3) := by decide +kernel
theorem dX8_wasted_56 : decode cX8_wasted 56 = .ok (.goto 18, 3) := by decide +kernel
theorem dX8_wasted_59 : decode cX8_wasted 59 = .ok (.aload_n 0, 1) := by decide +kernel
theorem dX8_wasted_60 : decode cX8_wasted 60 = .ok (.getfield 91, 3) := by decide +kernel
theorem dX8_wasted_63 : decode cX8_wasted 63 = .ok (.iload_n 1, 1) := by decide +kernel
theorem dX8_wasted_64 : decode cX8_wasted 64 = .ok (.iaload, 1) := by decide +kernel
theorem dX8_wasted_65 : decode cX8_wasted 65 = .ok (.aload_n 0, 1) := by decide +kernel
theorem dX8_wasted_66 : decode cX8_wasted 66 = .ok (.getfield 19, 3) := by decide +kernel
theorem dX8_wasted_69 : decode cX8_wasted 69 = .ok (.iload_n 1, 1) := by decide +kernel
theorem dX8_wasted_70 : decode cX8_wasted 70 = .ok (.iaload, 1) := by decide +kernel
theorem dX8_wasted_71 : decode cX8_wasted 71 = .ok (.invokestatic 221, 3) := by decide +kernel
theorem dX8_wasted_74 : decode cX8_wasted 74 = .ok (.ireturn, 1) := by decide +kernel
theorem dX8_freesOf_0 : decode cX8_freesOf 0 = .ok (.aload_n 0, 1) := by decide +kernel
theorem dX8_freesOf_1 : decode cX8_freesOf 1 = .ok (.invokevirtual 235, 3) := by decide +kernel
theorem dX8_freesOf_4 : decode cX8_freesOf 4 = .ok (.aload_n 0, 1) := by decide +kernel
theorem dX8_freesOf_5 : decode cX8_freesOf 5 = .ok (.invokevirtual 240, 3) := by decide +kernel
theorem dX8_freesOf_8 : decode cX8_freesOf 8 = .ok (.istore_n 3, 1) := by decide +kernel
theorem dX8_freesOf_9 : decode cX8_freesOf 9 = .ok (.aload_n 0, 1) := by decide +kernel
theorem dX8_freesOf_10 : decode cX8_freesOf 10 = .ok (.iload_n 1, 1) := by decide +kernel
theorem dX8_freesOf_11 : decode cX8_freesOf 11 = .ok (.putfield 170, 3) := by decide +kernel
theorem dX8_freesOf_14 : decode cX8_freesOf 14 = .ok (.aload_n 0, 1) := by decide +kernel
theorem dX8_freesOf_15 : decode cX8_freesOf 15 = .ok (.iload_n 2, 1) := by decide +kernel
theorem dX8_freesOf_16 : decode cX8_freesOf 16 = .ok (.putfield 173, 3) := by decide +kernel
theorem dX8_freesOf_19 : decode cX8_freesOf 19 = .ok (.aload_n 0, 1) := by decide +kernel
theorem dX8_freesOf_20 : decode cX8_freesOf 20 = .ok (.invokevirtual 227, 3) := by decide +kernel
theorem dX8_freesOf_23 : decode cX8_freesOf 23 = .ok (.iload_n 3, 1) := by decide +kernel
theorem dX8_freesOf_24 : decode cX8_freesOf 24 = .ok (.aload_n 0, 1) := by decide +kernel
theorem dX8_freesOf_25 : decode cX8_freesOf 25 = .ok (.invokevirtual 240, 3) := by decide +kernel
theorem dX8_freesOf_28 : decode cX8_freesOf 28 = .ok (.isub, 1) := by decide +kernel
theorem dX8_freesOf_29 : decode cX8_freesOf 29 = .ok (.ireturn, 1) := by decide +kernel
theorem dX8_frees_0 : decode cX8_frees 0 = .ok (.aload_n 0, 1) := by decide +kernel
theorem dX8_frees_1 : decode cX8_frees 1 = .ok (.iload_n 1, 1) := by decide +kernel
theorem dX8_frees_2 : decode cX8_frees 2 = .ok (.invokevirtual 167, 3) := by decide +kernel
theorem dX8_frees_5 : decode cX8_frees 5 = .ok (.ifCond .eq 22, 3) := by decide +kernel
theorem dX8_frees_8 : decode cX8_frees 8 = .ok (.iload_n 2, 1) := by decide +kernel
theorem dX8_frees_9 : decode cX8_frees 9 = .ok (.invokestatic 138, 3) := by decide +kernel
theorem dX8_frees_12 : decode cX8_frees 12 = .ok (.ifCond .eq 15, 3) := by decide +kernel
theorem dX8_frees_15 : decode cX8_frees 15 = .ok (.ldc 243, 2) := by decide +kernel
theorem dX8_frees_17 : decode cX8_frees 17 = .ok (.aload_n 0, 1) := by decide +kernel
theorem dX8_frees_18 : decode cX8_frees 18 = .ok (.iload_n 1, 1) := by decide +kernel
theorem dX8_frees_19 : decode cX8_frees 19 = .ok (.iload_n 2, 1) := by decide +kernel
theorem dX8_frees_20 : decode cX8_frees 20 = .ok (.invokevirtual 244, 3) := by decide +kernel
theorem dX8_frees_23 : decode cX8_frees 23 = .ok (.iadd, 1) := by decide +kernel
theorem dX8_frees_24 : decode cX8_frees 24 = .ok (.goto 4, 3) := by decide +kernel
theorem dX8_frees_27 : decode cX8_frees 27 = .ok (.iconst (-1), 1) := by decide +kernel
theorem dX8_frees_28 : decode cX8_frees 28 = .ok (.ireturn, 1) := by decide +kernel
theorem dX8_madeUp_0 : decode cX8_madeUp 0 = .ok (.aload_n 0, 1) := by decide +kernel
theorem dX8_madeUp_1 : decode cX8_madeUp 1 = .ok (.iload_n 1, 1) := by decide +kernel
theorem dX8_madeUp_2 : decode cX8_madeUp 2 = .ok (.invokevirtual 167, 3) := by decide +kernel
theorem dX8_madeUp_5 : decode cX8_madeUp 5 = .ok (.ifCond .eq 13, 3) := by decide +kernel
theorem dX8_madeUp_8 : decode cX8_madeUp 8 = .ok (.iload_n 2, 1) := by decide +kernel
theorem dX8_madeUp_9 : decode cX8_madeUp 9 = .ok (.i2l, 1) := by decide +kernel
theorem dX8_madeUp_10 : decode cX8_madeUp 10 = .ok (.lconst 0, 1) := by decide +kernel
theorem dX8_madeUp_11 : decode cX8_madeUp 11 = .ok (.lconst 1, 1) := by decide +kernel
theorem dX8_madeUp_12 : decode cX8_madeUp 12 = .ok (.invokestatic 109, 3) := by decide +kernel
theorem dX8_madeUp_15 : decode cX8_madeUp 15 = .ok (.ifCond .ne 5, 3) := by decide +kernel
theorem dX8_madeUp_18 : decode cX8_madeUp 18 = .ok (.iconst (-1), 1) := by decide +kernel
theorem dX8_madeUp_19 : decode cX8_madeUp 19 = .ok (.ireturn, 1) := by decide +kernel
theorem dX8_madeUp_20 : decode cX8_madeUp 20 = .ok (.bipush (-4), 2) := by decide +kernel
theorem dX8_madeUp_22 : decode cX8_madeUp 22 = .ok (.istore_n 3, 1) := by decide +kernel
theorem dX8_madeUp_23 : decode cX8_madeUp 23 = .ok (.iconst 0, 1) := by decide +kernel
theorem dX8_madeUp_24 : decode cX8_madeUp 24 = .ok (.istore 4, 2) := by decide +kernel
theorem dX8_madeUp_26 : decode cX8_madeUp 26 = .ok (.iconst 0, 1) := by decide +kernel
theorem dX8_madeUp_27 : decode cX8_madeUp 27 = .ok (.istore 5, 2) := by decide +kernel
theorem dX8_madeUp_29 : decode cX8_madeUp 29 = .ok (.iload 5, 2) := by decide +kernel
theorem dX8_madeUp_31 : decode cX8_madeUp 31 = .ok (.sipush 350, 3) := by decide +kernel
theorem dX8_madeUp_34 : decode cX8_madeUp 34 = .ok (.if_icmp .gt 48, 3) := by decide +kernel
theorem dX8_madeUp_37 : decode cX8_madeUp 37 = .ok (.aload_n 0, 1) := by decide +kernel
theorem dX8_madeUp_38 : decode cX8_madeUp 38 = .ok (.iload_n 1, 1) := by decide +kernel
theorem dX8_madeUp_39 : decode cX8_madeUp 39 = .ok (.iload 5, 2) := by decide +kernel
theorem dX8_madeUp_41 : decode cX8_madeUp 41 = .ok (.invokevirtual 244, 3) := by decide +kernel
theorem dX8_madeUp_44 : decode cX8_madeUp 44 = .ok (.istore 6, 2) := by decide +kernel
theorem dX8_madeUp_46 : decode cX8_madeUp 46 = .ok (.iload 6, 2) := by decide +kernel
theorem dX8_madeUp_48 : decode cX8_madeUp 48 = .ok (.iload 4, 2) := by decide +kernel
theorem dX8_madeUp_50 : decode cX8_madeUp 50 = .ok (.if_icmp .le 8, 3) := by decide +kernel
theorem dX8_madeUp_53 : decode cX8_madeUp 53 = .ok (.iload 5, 2) := by decide +kernel
theorem dX8_madeUp_55 : decode cX8_madeUp 55 = .ok (.goto 4, 3) := by decide +kernel
theorem dX8_madeUp_58 : decode cX8_madeUp 58 = .ok (.iload_n 3, 1) := by decide +kernel
theorem dX8_madeUp_59 : decode cX8_madeUp 59 = .ok (.istore_n 3, 1) := by decide +kernel
theorem dX8_madeUp_60 : decode cX8_madeUp 60 = .ok (.iload 6, 2) := by decide +kernel
theorem dX8_madeUp_62 : decode cX8_madeUp 62 = .ok (.iload 4, 2) := by decide +kernel
theorem dX8_madeUp_64 : decode cX8_madeUp 64 = .ok (.if_icmp .le 8, 3) := by decide +kernel
theorem dX8_madeUp_67 : decode cX8_madeUp 67 = .ok (.iload 6, 2) := by decide +kernel
theorem dX8_madeUp_69 : decode cX8_madeUp 69 = .ok (.goto 5, 3) := by decide +kernel
theorem dX8_madeUp_72 : decode cX8_madeUp 72 = .ok (.iload 4, 2) := by decide +kernel
theorem dX8_madeUp_74 : decode cX8_madeUp 74 = .ok (.istore 4, 2) := by decide +kernel
theorem dX8_madeUp_76 : decode cX8_madeUp 76 = .ok (.iinc 5 10, 3) := by decide +kernel
theorem dX8_madeUp_79 : decode cX8_madeUp 79 = .ok (.goto (-50), 3) := by decide +kernel
theorem dX8_madeUp_82 : decode cX8_madeUp 82 = .ok (.iload_n 3, 1) := by decide +kernel
theorem dX8_madeUp_83 : decode cX8_madeUp 83 = .ok (.ifCond .ge 8, 3) := by decide +kernel
theorem dX8_madeUp_86 : decode cX8_madeUp 86 = .ok (.bipush (-4), 2) := by decide +kernel
theorem dX8_madeUp_88 : decode cX8_madeUp 88 = .ok (.goto 16, 3) := by decide +kernel
theorem dX8_madeUp_91 : decode cX8_madeUp 91 = .ok (.iload_n 2, 1) := by decide +kernel
theorem dX8_madeUp_92 : decode cX8_madeUp 92 = .ok (.ifCond .ne 7, 3) := by decide +kernel
theorem dX8_madeUp_95 : decode cX8_madeUp 95 = .ok (.iload_n 3, 1) := by decide +kernel
theorem dX8_madeUp_96 : decode cX8_madeUp 96 = .ok (.goto 8, 3) := by decide +kernel
theorem dX8_madeUp_99 : decode cX8_madeUp 99 = .ok (.ldc 243, 2) := by decide +kernel
theorem dX8_madeUp_101 : decode cX8_madeUp 101 = .ok (.iload 4, 2) := by decide +kernel
theorem dX8_madeUp_103 : decode cX8_madeUp 103 = .ok (.iadd, 1) := by decide +kernel
theorem dX8_madeUp_104 : decode cX8_madeUp 104 = .ok (.ireturn, 1) := by decide +kernel
theorem dX8_bellOf_0 : decode cX8_bellOf 0 = .ok (.aload_n 0, 1) := by decide +kernel
theorem dX8_bellOf_1 : decode cX8_bellOf 1 = .ok (.invokevirtual 224, 3) := by decide +kernel
theorem dX8_bellOf_4 : decode cX8_bellOf 4 = .ok (.aload_n 0, 1) := by decide +kernel
theorem dX8_bellOf_5 : decode cX8_bellOf 5 = .ok (.iload_n 1, 1) := by decide +kernel
theorem dX8_bellOf_6 : decode cX8_bellOf 6 = .ok (.putfield 176, 3) := by decide +kernel
theorem dX8_bellOf_9 : decode cX8_bellOf 9 = .ok (.aload_n 0, 1) := by decide +kernel
theorem dX8_bellOf_10 : decode cX8_bellOf 10 = .ok (.invokevirtual 227, 3) := by decide +kernel
theorem dX8_bellOf_13 : decode cX8_bellOf 13 = .ok (.aload_n 0, 1) := by decide +kernel
theorem dX8_bellOf_14 : decode cX8_bellOf 14 = .ok (.invokevirtual 240, 3) := by decide +kernel
theorem dX8_bellOf_17 : decode cX8_bellOf 17 = .ok (.ireturn, 1) := by decide +kernel
theorem dX8_bell_0 : decode cX8_bell 0 = .ok (.iload_n 1, 1) := by decide +kernel
theorem dX8_bell_1 : decode cX8_bell 1 = .ok (.invokestatic 232, 3) := by decide +kernel
theorem dX8_bell_4 : decode cX8_bell 4 = .ok (.ifCond .eq 11, 3) := by decide +kernel
theorem dX8_bell_7 : decode cX8_bell 7 = .ok (.aload_n 0, 1) := by decide +kernel
theorem dX8_bell_8 : decode cX8_bell 8 = .ok (.iload_n 1, 1) := by decide +kernel
theorem dX8_bell_9 : decode cX8_bell 9 = .ok (.invokevirtual 247, 3) := by decide +kernel
theorem dX8_bell_12 : decode cX8_bell 12 = .ok (.goto 4, 3) := by decide +kernel
theorem dX8_bell_15 : decode cX8_bell 15 = .ok (.iconst (-1), 1) := by decide +kernel
theorem dX8_bell_16 : decode cX8_bell 16 = .ok (.ireturn, 1) := by decide +kernel
theorem dX8_best_0 : decode cX8_best 0 = .ok (.iload_n 1, 1) := by decide +kernel
theorem dX8_best_1 : decode cX8_best 1 = .ok (.i2l, 1) := by decide +kernel
theorem dX8_best_2 : decode cX8_best 2 = .ok (.lconst 0, 1) := by decide +kernel
theorem dX8_best_3 : decode cX8_best 3 = .ok (.lconst 1, 1) := by decide +kernel
theorem dX8_best_4 : decode cX8_best 4 = .ok (.invokestatic 109, 3) := by decide +kernel
theorem dX8_best_7 : decode cX8_best 7 = .ok (.ifCond .ne 5, 3) := by decide +kernel
theorem dX8_best_10 : decode cX8_best 10 = .ok (.iconst (-1), 1) := by decide +kernel
theorem dX8_best_11 : decode cX8_best 11 = .ok (.ireturn, 1) := by decide +kernel
theorem dX8_best_12 : decode cX8_best 12 = .ok (.iconst 0, 1) := by decide +kernel
theorem dX8_best_13 : decode cX8_best 13 = .ok (.istore_n 2, 1) := by decide +kernel
theorem dX8_best_14 : decode cX8_best 14 = .ok (.aload_n 0, 1) := by decide +kernel
theorem dX8_best_15 : decode cX8_best 15 = .ok (.iconst 0, 1) := by decide +kernel
theorem dX8_best_16 : decode cX8_best 16 = .ok (.invokevirtual 247, 3) := by decide +kernel
theorem dX8_best_19 : decode cX8_best 19 = .ok (.istore_n 3, 1) := by decide +kernel
theorem dX8_best_20 : decode cX8_best 20 = .ok (.bipush 10, 2) := by decide +kernel
theorem dX8_best_22 : decode cX8_best 22 = .ok (.istore 4, 2) := by decide +kernel
theorem dX8_best_24 : decode cX8_best 24 = .ok (.iload 4, 2) := by decide +kernel
theorem dX8_best_26 : decode cX8_best 26 = .ok (.sipush 350, 3) := by decide +kernel
theorem dX8_best_29 : decode cX8_best 29 = .ok (.if_icmp .gt 43, 3) := by decide +kernel
theorem dX8_best_32 : decode cX8_best 32 = .ok (.aload_n 0, 1) := by decide +kernel
theorem dX8_best_33 : decode cX8_best 33 = .ok (.iload 4, 2) := by decide +kernel
theorem dX8_best_35 : decode cX8_best 35 = .ok (.invokevirtual 247, 3) := by decide +kernel
theorem dX8_best_38 : decode cX8_best 38 = .ok (.istore 5, 2) := by decide +kernel
theorem dX8_best_40 : decode cX8_best 40 = .ok (.iload 5, 2) := by decide +kernel
theorem dX8_best_42 : decode cX8_best 42 = .ok (.iload_n 3, 1) := by decide +kernel
theorem dX8_best_43 : decode cX8_best 43 = .ok (.if_icmp .ge 8, 3) := by decide +kernel
theorem dX8_best_46 : decode cX8_best 46 = .ok (.iload 4, 2) := by decide +kernel
theorem dX8_best_48 : decode cX8_best 48 = .ok (.goto 4, 3) := by decide +kernel
theorem dX8_best_51 : decode cX8_best 51 = .ok (.iload_n 2, 1) := by decide +kernel
theorem dX8_best_52 : decode cX8_best 52 = .ok (.istore_n 2, 1) := by decide +kernel
theorem dX8_best_53 : decode cX8_best 53 = .ok (.iload 5, 2) := by decide +kernel
theorem dX8_best_55 : decode cX8_best 55 = .ok (.iload_n 3, 1) := by decide +kernel
theorem dX8_best_56 : decode cX8_best 56 = .ok (.if_icmp .ge 8, 3) := by decide +kernel
theorem dX8_best_59 : decode cX8_best 59 = .ok (.iload 5, 2) := by decide +kernel
theorem dX8_best_61 : decode cX8_best 61 = .ok (.goto 4, 3) := by decide +kernel
theorem dX8_best_64 : decode cX8_best 64 = .ok (.iload_n 3, 1) := by decide +kernel
theorem dX8_best_65 : decode cX8_best 65 = .ok (.istore_n 3, 1) := by decide +kernel
theorem dX8_best_66 : decode cX8_best 66 = .ok (.iinc 4 10, 3) := by decide +kernel
theorem dX8_best_69 : decode cX8_best 69 = .ok (.goto (-45), 3) := by decide +kernel
theorem dX8_best_72 : decode cX8_best 72 = .ok (.iload_n 1, 1) := by decide +kernel
theorem dX8_best_73 : decode cX8_best 73 = .ok (.ifCond .ne 7, 3) := by decide +kernel
theorem dX8_best_76 : decode cX8_best 76 = .ok (.iload_n 2, 1) := by decide +kernel
theorem dX8_best_77 : decode cX8_best 77 = .ok (.goto 4, 3) := by decide +kernel
theorem dX8_best_80 : decode cX8_best 80 = .ok (.iload_n 3, 1) := by decide +kernel
theorem dX8_best_81 : decode cX8_best 81 = .ok (.ireturn, 1) := by decide +kernel
theorem dX8_givenBy_0 : decode cX8_givenBy 0 = .ok (.aload_n 0, 1) := by decide +kernel
theorem dX8_givenBy_1 : decode cX8_givenBy 1 = .ok (.invokevirtual 224, 3) := by decide +kernel
theorem dX8_givenBy_4 : decode cX8_givenBy 4 = .ok (.iload_n 1, 1) := by decide +kernel
theorem dX8_givenBy_5 : decode cX8_givenBy 5 = .ok (.istore_n 2, 1) := by decide +kernel
theorem dX8_givenBy_6 : decode cX8_givenBy 6 = .ok (.iconst 0, 1) := by decide +kernel
theorem dX8_givenBy_7 : decode cX8_givenBy 7 = .ok (.istore_n 3, 1) := by decide +kernel
theorem dX8_givenBy_8 : decode cX8_givenBy 8 = .ok (.aload_n 0, 1) := by decide +kernel
theorem dX8_givenBy_9 : decode cX8_givenBy 9 = .ok (.getfield 28, 3) := by decide +kernel
theorem dX8_givenBy_12 : decode cX8_givenBy 12 = .ok (.iconst 0, 1) := by decide +kernel
theorem dX8_givenBy_13 : decode cX8_givenBy 13 = .ok (.iaload, 1) := by decide +kernel
theorem dX8_givenBy_14 : decode cX8_givenBy 14 = .ok (.iconst 1, 1) := by decide +kernel
theorem dX8_givenBy_15 : decode cX8_givenBy 15 = .ok (.isub, 1) := by decide +kernel
theorem dX8_givenBy_16 : decode cX8_givenBy 16 = .ok (.istore 4, 2) := by decide +kernel
theorem dX8_givenBy_18 : decode cX8_givenBy 18 = .ok (.iload 4, 2) := by decide +kernel
theorem dX8_givenBy_20 : decode cX8_givenBy 20 = .ok (.ifCond .lt 63, 3) := by decide +kernel
theorem dX8_givenBy_23 : decode cX8_givenBy 23 = .ok (.aload_n 0, 1) := by decide +kernel
theorem dX8_givenBy_24 : decode cX8_givenBy 24 = .ok (.getfield 85, 3) := by decide +kernel
theorem dX8_givenBy_27 : decode cX8_givenBy 27 = .ok (.iload 4, 2) := by decide +kernel
theorem dX8_givenBy_29 : decode cX8_givenBy 29 = .ok (.iload_n 2, 1) := by decide +kernel
theorem dX8_givenBy_30 : decode cX8_givenBy 30 = .ok (.bipush 13, 2) := by decide +kernel
theorem dX8_givenBy_32 : decode cX8_givenBy 32 = .ok (.irem, 1) := by decide +kernel
theorem dX8_givenBy_33 : decode cX8_givenBy 33 = .ok (.ifCond .ne 8, 3) := by decide +kernel
theorem dX8_givenBy_36 : decode cX8_givenBy 36 = .ok (.bipush (-4), 2) := by decide +kernel
theorem dX8_givenBy_38 : decode cX8_givenBy 38 = .ok (.goto 12, 3) := by decide +kernel
theorem dX8_givenBy_41 : decode cX8_givenBy 41 = .ok (.bipush 30, 2) := by decide +kernel
theorem dX8_givenBy_43 : decode cX8_givenBy 43 = .ok (.iload_n 2, 1) := by decide +kernel
theorem dX8_givenBy_44 : decode cX8_givenBy 44 = .ok (.bipush 13, 2) := by decide +kernel
theorem dX8_givenBy_46 : decode cX8_givenBy 46 = .ok (.irem, 1) := by decide +kernel
theorem dX8_givenBy_47 : decode cX8_givenBy 47 = .ok (.iconst 1, 1) := by decide +kernel
theorem dX8_givenBy_48 : decode cX8_givenBy 48 = .ok (.isub, 1) := by decide +kernel
theorem dX8_givenBy_49 : decode cX8_givenBy 49 = .ok (.imul, 1) := by decide +kernel
theorem dX8_givenBy_50 : decode cX8_givenBy 50 = .ok (.iastore, 1) := by decide +kernel
theorem dX8_givenBy_51 : decode cX8_givenBy 51 = .ok (.iload_n 3, 1) := by decide +kernel
theorem dX8_givenBy_52 : decode cX8_givenBy 52 = .ok (.iload_n 2, 1) := by decide +kernel
theorem dX8_givenBy_53 : decode cX8_givenBy 53 = .ok (.bipush 13, 2) := by decide +kernel
theorem dX8_givenBy_55 : decode cX8_givenBy 55 = .ok (.irem, 1) := by decide +kernel
theorem dX8_givenBy_56 : decode cX8_givenBy 56 = .ok (.ifCond .ne 7, 3) := by decide +kernel
theorem dX8_givenBy_59 : decode cX8_givenBy 59 = .ok (.iconst 0, 1) := by decide +kernel
theorem dX8_givenBy_60 : decode cX8_givenBy 60 = .ok (.goto 10, 3) := by decide +kernel
theorem dX8_givenBy_63 : decode cX8_givenBy 63 = .ok (.aload_n 0, 1) := by decide +kernel
theorem dX8_givenBy_64 : decode cX8_givenBy 64 = .ok (.getfield 34, 3) := by decide +kernel
theorem dX8_givenBy_67 : decode cX8_givenBy 67 = .ok (.iload 4, 2) := by decide +kernel
theorem dX8_givenBy_69 : decode cX8_givenBy 69 = .ok (.iaload, 1) := by decide +kernel
theorem dX8_givenBy_70 : decode cX8_givenBy 70 = .ok (.iadd, 1) := by decide +kernel
theorem dX8_givenBy_71 : decode cX8_givenBy 71 = .ok (.istore_n 3, 1) := by decide +kernel
theorem dX8_givenBy_72 : decode cX8_givenBy 72 = .ok (.iload_n 2, 1) := by decide +kernel
theorem dX8_givenBy_73 : decode cX8_givenBy 73 = .ok (.bipush 13, 2) := by decide +kernel
theorem dX8_givenBy_75 : decode cX8_givenBy 75 = .ok (.idiv, 1) := by decide +kernel
theorem dX8_givenBy_76 : decode cX8_givenBy 76 = .ok (.istore_n 2, 1) := by decide +kernel
theorem dX8_givenBy_77 : decode cX8_givenBy 77 = .ok (.iinc 4 (-1), 3) := by decide +kernel
theorem dX8_givenBy_80 : decode cX8_givenBy 80 = .ok (.goto (-62), 3) := by decide +kernel
theorem dX8_givenBy_83 : decode cX8_givenBy 83 = .ok (.aload_n 0, 1) := by decide +kernel
theorem dX8_givenBy_84 : decode cX8_givenBy 84 = .ok (.invokevirtual 227, 3) := by decide +kernel
theorem dX8_givenBy_87 : decode cX8_givenBy 87 = .ok (.iload_n 3, 1) := by decide +kernel
theorem dX8_givenBy_88 : decode cX8_givenBy 88 = .ok (.aload_n 0, 1) := by decide +kernel
theorem dX8_givenBy_89 : decode cX8_givenBy 89 = .ok (.invokevirtual 240, 3) := by decide +kernel
theorem dX8_givenBy_92 : decode cX8_givenBy 92 = .ok (.iadd, 1) := by decide +kernel
theorem dX8_givenBy_93 : decode cX8_givenBy 93 = .ok (.ireturn, 1) := by decide +kernel
theorem dX8_given_0 : decode cX8_given 0 = .ok (.iload_n 1, 1) := by decide +kernel
theorem dX8_given_1 : decode cX8_given 1 = .ok (.i2l, 1) := by decide +kernel
theorem dX8_given_2 : decode cX8_given 2 = .ok (.ldc2_w 250, 3) := by decide +kernel
theorem dX8_given_5 : decode cX8_given 5 = .ok (.aload_n 0, 1) := by decide +kernel
theorem dX8_given_6 : decode cX8_given 6 = .ok (.getfield 28, 3) := by decide +kernel
theorem dX8_given_9 : decode cX8_given 9 = .ok (.iconst 0, 1) := by decide +kernel
theorem dX8_given_10 : decode cX8_given 10 = .ok (.iaload, 1) := by decide +kernel
theorem dX8_given_11 : decode cX8_given 11 = .ok (.iconst 1, 1) := by decide +kernel
theorem dX8_given_12 : decode cX8_given 12 = .ok (.isub, 1) := by decide +kernel
theorem dX8_given_13 : decode cX8_given 13 = .ok (.i2l, 1) := by decide +kernel
theorem dX8_given_14 : decode cX8_given 14 = .ok (.invokestatic 109, 3) := by decide +kernel
theorem dX8_given_17 : decode cX8_given 17 = .ok (.ifCond .ne 5, 3) := by decide +kernel
theorem dX8_given_20 : decode cX8_given 20 = .ok (.iconst (-1), 1) := by decide +kernel
theorem dX8_given_21 : decode cX8_given 21 = .ok (.ireturn, 1) := by decide +kernel
theorem dX8_given_22 : decode cX8_given 22 = .ok (.aload_n 0, 1) := by decide +kernel
theorem dX8_given_23 : decode cX8_given 23 = .ok (.getfield 28, 3) := by decide +kernel
theorem dX8_given_26 : decode cX8_given 26 = .ok (.iconst 0, 1) := by decide +kernel
theorem dX8_given_27 : decode cX8_given 27 = .ok (.iaload, 1) := by decide +kernel
theorem dX8_given_28 : decode cX8_given 28 = .ok (.ifCond .ne 7, 3) := by decide +kernel
theorem dX8_given_31 : decode cX8_given 31 = .ok (.iconst 1, 1) := by decide +kernel
theorem dX8_given_32 : decode cX8_given 32 = .ok (.goto 37, 3) := by decide +kernel
theorem dX8_given_35 : decode cX8_given 35 = .ok (.aload_n 0, 1) := by decide +kernel
theorem dX8_given_36 : decode cX8_given 36 = .ok (.getfield 28, 3) := by decide +kernel
theorem dX8_given_39 : decode cX8_given 39 = .ok (.iconst 0, 1) := by decide +kernel
theorem dX8_given_40 : decode cX8_given 40 = .ok (.iaload, 1) := by decide +kernel
theorem dX8_given_41 : decode cX8_given 41 = .ok (.iconst 1, 1) := by decide +kernel
theorem dX8_given_42 : decode cX8_given 42 = .ok (.if_icmp .ne 8, 3) := by decide +kernel
theorem dX8_given_45 : decode cX8_given 45 = .ok (.bipush 13, 2) := by decide +kernel
theorem dX8_given_47 : decode cX8_given 47 = .ok (.goto 22, 3) := by decide +kernel
theorem dX8_given_50 : decode cX8_given 50 = .ok (.aload_n 0, 1) := by decide +kernel
theorem dX8_given_51 : decode cX8_given 51 = .ok (.getfield 28, 3) := by decide +kernel
theorem dX8_given_54 : decode cX8_given 54 = .ok (.iconst 0, 1) := by decide +kernel
theorem dX8_given_55 : decode cX8_given 55 = .ok (.iaload, 1) := by decide +kernel
theorem dX8_given_56 : decode cX8_given 56 = .ok (.iconst 2, 1) := by decide +kernel
theorem dX8_given_57 : decode cX8_given 57 = .ok (.if_icmp .ne 9, 3) := by decide +kernel
theorem dX8_given_60 : decode cX8_given 60 = .ok (.sipush 169, 3) := by decide +kernel
theorem dX8_given_63 : decode cX8_given 63 = .ok (.goto 6, 3) := by decide +kernel
theorem dX8_given_66 : decode cX8_given 66 = .ok (.sipush 2197, 3) := by decide +kernel
theorem dX8_given_69 : decode cX8_given 69 = .ok (.istore_n 2, 1) := by decide +kernel
theorem dX8_given_70 : decode cX8_given 70 = .ok (.iconst 0, 1) := by decide +kernel
theorem dX8_given_71 : decode cX8_given 71 = .ok (.istore_n 3, 1) := by decide +kernel
theorem dX8_given_72 : decode cX8_given 72 = .ok (.aload_n 0, 1) := by decide +kernel
theorem dX8_given_73 : decode cX8_given 73 = .ok (.iconst 0, 1) := by decide +kernel
theorem dX8_given_74 : decode cX8_given 74 = .ok (.invokevirtual 252, 3) := by decide +kernel
theorem dX8_given_77 : decode cX8_given 77 = .ok (.istore 4, 2) := by decide +kernel
theorem dX8_given_79 : decode cX8_given 79 = .ok (.iconst 1, 1) := by decide +kernel
theorem dX8_given_80 : decode cX8_given 80 = .ok (.istore 5, 2) := by decide +kernel
theorem dX8_given_82 : decode cX8_given 82 = .ok (.iload 5, 2) := by decide +kernel
theorem dX8_given_84 : decode cX8_given 84 = .ok (.iload_n 2, 1) := by decide +kernel
theorem dX8_given_85 : decode cX8_given 85 = .ok (.if_icmp .ge 47, 3) := by decide +kernel
theorem dX8_given_88 : decode cX8_given 88 = .ok (.aload_n 0, 1) := by decide +kernel
theorem dX8_given_89 : decode cX8_given 89 = .ok (.iload 5, 2) := by decide +kernel
theorem dX8_given_91 : decode cX8_given 91 = .ok (.invokevirtual 252, 3) := by decide +kernel
theorem dX8_given_94 : decode cX8_given 94 = .ok (.istore 6, 2) := by decide +kernel
theorem dX8_given_96 : decode cX8_given 96 = .ok (.iload 6, 2) := by decide +kernel
theorem dX8_given_98 : decode cX8_given 98 = .ok (.iload 4, 2) := by decide +kernel
theorem dX8_given_100 : decode cX8_given 100 = .ok (.if_icmp .ge 8, 3) := by decide +kernel
theorem dX8_given_103 : decode cX8_given 103 = .ok (.iload 5, 2) := by decide +kernel
theorem dX8_given_105 : decode cX8_given 105 = .ok (.goto 4, 3) := by decide +kernel
theorem dX8_given_108 : decode cX8_given 108 = .ok (.iload_n 3, 1) := by decide +kernel
theorem dX8_given_109 : decode cX8_given 109 = .ok (.istore_n 3, 1) := by decide +kernel
theorem dX8_given_110 : decode cX8_given 110 = .ok (.iload 6, 2) := by decide +kernel
theorem dX8_given_112 : decode cX8_given 112 = .ok (.iload 4, 2) := by decide +kernel
theorem dX8_given_114 : decode cX8_given 114 = .ok (.if_icmp .ge 8, 3) := by decide +kernel
theorem dX8_given_117 : decode cX8_given 117 = .ok (.iload 6, 2) := by decide +kernel
theorem dX8_given_119 : decode cX8_given 119 = .ok (.goto 5, 3) := by decide +kernel
theorem dX8_given_122 : decode cX8_given 122 = .ok (.iload 4, 2) := by decide +kernel
theorem dX8_given_124 : decode cX8_given 124 = .ok (.istore 4, 2) := by decide +kernel
theorem dX8_given_126 : decode cX8_given 126 = .ok (.iinc 5 1, 3) := by decide +kernel
theorem dX8_given_129 : decode cX8_given 129 = .ok (.goto (-47), 3) := by decide +kernel
theorem dX8_given_132 : decode cX8_given 132 = .ok (.aload_n 0, 1) := by decide +kernel
theorem dX8_given_133 : decode cX8_given 133 = .ok (.iload_n 3, 1) := by decide +kernel
theorem dX8_given_134 : decode cX8_given 134 = .ok (.invokevirtual 252, 3) := by decide +kernel
theorem dX8_given_137 : decode cX8_given 137 = .ok (.pop, 1) := by decide +kernel
theorem dX8_given_138 : decode cX8_given 138 = .ok (.iload_n 1, 1) := by decide +kernel
theorem dX8_given_139 : decode cX8_given 139 = .ok (.ifCond .ge 8, 3) := by decide +kernel
theorem dX8_given_142 : decode cX8_given 142 = .ok (.iload 4, 2) := by decide +kernel
theorem dX8_given_144 : decode cX8_given 144 = .ok (.goto 9, 3) := by decide +kernel
theorem dX8_given_147 : decode cX8_given 147 = .ok (.aload_n 0, 1) := by decide +kernel
theorem dX8_given_148 : decode cX8_given 148 = .ok (.getfield 85, 3) := by decide +kernel
theorem dX8_given_151 : decode cX8_given 151 = .ok (.iload_n 1, 1) := by decide +kernel
theorem dX8_given_152 : decode cX8_given 152 = .ok (.iaload, 1) := by decide +kernel
theorem dX8_given_153 : decode cX8_given 153 = .ok (.ireturn, 1) := by decide +kernel
theorem dX8_layGame_0 : decode cX8_layGame 0 = .ok (.aload_n 0, 1) := by decide +kernel
theorem dX8_layGame_1 : decode cX8_layGame 1 = .ok (.iconst 0, 1) := by decide +kernel
theorem dX8_layGame_2 : decode cX8_layGame 2 = .ok (.putfield 255, 3) := by decide +kernel
theorem dX8_layGame_5 : decode cX8_layGame 5 = .ok (.iconst 0, 1) := by decide +kernel
theorem dX8_layGame_6 : decode cX8_layGame 6 = .ok (.istore_n 1, 1) := by decide +kernel
theorem dX8_layGame_7 : decode cX8_layGame 7 = .ok (.iload_n 1, 1) := by decide +kernel
theorem dX8_layGame_8 : decode cX8_layGame 8 = .ok (.iconst 4, 1) := by decide +kernel
theorem dX8_layGame_9 : decode cX8_layGame 9 = .ok (.if_icmp .ge 137, 3) := by decide +kernel
theorem dX8_layGame_12 : decode cX8_layGame 12 = .ok (.bipush (-4), 2) := by decide +kernel
theorem dX8_layGame_14 : decode cX8_layGame 14 = .ok (.istore_n 2, 1) := by decide +kernel
theorem dX8_layGame_15 : decode cX8_layGame 15 = .ok (.bipush (-4), 2) := by decide +kernel
theorem dX8_layGame_17 : decode cX8_layGame 17 = .ok (.istore_n 3, 1) := by decide +kernel
theorem dX8_layGame_18 : decode cX8_layGame 18 = .ok (.iconst 0, 1) := by decide +kernel
theorem dX8_layGame_19 : decode cX8_layGame 19 = .ok (.istore 4, 2) := by decide +kernel
theorem dX8_layGame_21 : decode cX8_layGame 21 = .ok (.iload 4, 2) := by decide +kernel
theorem dX8_layGame_23 : decode cX8_layGame 23 = .ok (.aload_n 0, 1) := by decide +kernel
theorem dX8_layGame_24 : decode cX8_layGame 24 = .ok (.getfield 13, 3) := by decide +kernel
theorem dX8_layGame_27 : decode cX8_layGame 27 = .ok (.iconst 0, 1) := by decide +kernel
theorem dX8_layGame_28 : decode cX8_layGame 28 = .ok (.iaload, 1) := by decide +kernel
theorem dX8_layGame_29 : decode cX8_layGame 29 = .ok (.if_icmp .ge 77, 3) := by decide +kernel
theorem dX8_layGame_32 : decode cX8_layGame 32 = .ok (.aload_n 0, 1) := by decide +kernel
theorem dX8_layGame_33 : decode cX8_layGame 33 = .ok (.getfield 16, 3) := by decide +kernel
theorem dX8_layGame_36 : decode cX8_layGame 36 = .ok (.iload 4, 2) := by decide +kernel
theorem dX8_layGame_38 : decode cX8_layGame 38 = .ok (.iaload, 1) := by decide +kernel
theorem dX8_layGame_39 : decode cX8_layGame 39 = .ok (.iload_n 1, 1) := by decide +kernel
theorem dX8_layGame_40 : decode cX8_layGame 40 = .ok (.if_icmp .ne 24, 3) := by decide +kernel
theorem dX8_layGame_43 : decode cX8_layGame 43 = .ok (.aload_n 0, 1) := by decide +kernel
theorem dX8_layGame_44 : decode cX8_layGame 44 = .ok (.getfield 19, 3) := by decide +kernel
theorem dX8_layGame_47 : decode cX8_layGame 47 = .ok (.iload 4, 2) := by decide +kernel
theorem dX8_layGame_49 : decode cX8_layGame 49 = .ok (.iaload, 1) := by decide +kernel
theorem dX8_layGame_50 : decode cX8_layGame 50 = .ok (.iload_n 2, 1) := by decide +kernel
theorem dX8_layGame_51 : decode cX8_layGame 51 = .ok (.if_icmp .le 13, 3) := by decide +kernel
theorem dX8_layGame_54 : decode cX8_layGame 54 = .ok (.aload_n 0, 1) := by decide +kernel
theorem dX8_layGame_55 : decode cX8_layGame 55 = .ok (.getfield 19, 3) := by decide +kernel
theorem dX8_layGame_58 : decode cX8_layGame 58 = .ok (.iload 4, 2) := by decide +kernel
theorem dX8_layGame_60 : decode cX8_layGame 60 = .ok (.iaload, 1) := by decide +kernel
theorem dX8_layGame_61 : decode cX8_layGame 61 = .ok (.goto 4, 3) := by decide +kernel
theorem dX8_layGame_64 : decode cX8_layGame 64 = .ok (.iload_n 2, 1) := by decide +kernel
theorem dX8_layGame_65 : decode cX8_layGame 65 = .ok (.istore_n 2, 1) := by decide +kernel
theorem dX8_layGame_66 : decode cX8_layGame 66 = .ok (.aload_n 0, 1) := by decide +kernel
theorem dX8_layGame_67 : decode cX8_layGame 67 = .ok (.getfield 16, 3) := by decide +kernel
theorem dX8_layGame_70 : decode cX8_layGame 70 = .ok (.iload 4, 2) := by decide +kernel
theorem dX8_layGame_72 : decode cX8_layGame 72 = .ok (.iaload, 1) := by decide +kernel
theorem dX8_layGame_73 : decode cX8_layGame 73 = .ok (.iload_n 1, 1) := by decide +kernel
theorem dX8_layGame_74 : decode cX8_layGame 74 = .ok (.if_icmp .ne 24, 3) := by decide +kernel
theorem dX8_layGame_77 : decode cX8_layGame 77 = .ok (.aload_n 0, 1) := by decide +kernel
theorem dX8_layGame_78 : decode cX8_layGame 78 = .ok (.getfield 22, 3) := by decide +kernel
theorem dX8_layGame_81 : decode cX8_layGame 81 = .ok (.iload 4, 2) := by decide +kernel
theorem dX8_layGame_83 : decode cX8_layGame 83 = .ok (.iaload, 1) := by decide +kernel
theorem dX8_layGame_84 : decode cX8_layGame 84 = .ok (.iload_n 3, 1) := by decide +kernel
theorem dX8_layGame_85 : decode cX8_layGame 85 = .ok (.if_icmp .le 13, 3) := by decide +kernel
theorem dX8_layGame_88 : decode cX8_layGame 88 = .ok (.aload_n 0, 1) := by decide +kernel
theorem dX8_layGame_89 : decode cX8_layGame 89 = .ok (.getfield 22, 3) := by decide +kernel
theorem dX8_layGame_92 : decode cX8_layGame 92 = .ok (.iload 4, 2) := by decide +kernel
theorem dX8_layGame_94 : decode cX8_layGame 94 = .ok (.iaload, 1) := by decide +kernel
theorem dX8_layGame_95 : decode cX8_layGame 95 = .ok (.goto 4, 3) := by decide +kernel
theorem dX8_layGame_98 : decode cX8_layGame 98 = .ok (.iload_n 3, 1) := by decide +kernel
theorem dX8_layGame_99 : decode cX8_layGame 99 = .ok (.istore_n 3, 1) := by decide +kernel
theorem dX8_layGame_100 : decode cX8_layGame 100 = .ok (.iinc 4 1, 3) := by decide +kernel
theorem dX8_layGame_103 : decode cX8_layGame 103 = .ok (.goto (-82), 3) := by decide +kernel
theorem dX8_layGame_106 : decode cX8_layGame 106 = .ok (.iload_n 2, 1) := by decide +kernel
theorem dX8_layGame_107 : decode cX8_layGame 107 = .ok (.ifCond .lt 33, 3) := by decide +kernel
theorem dX8_layGame_110 : decode cX8_layGame 110 = .ok (.aload_n 0, 1) := by decide +kernel
theorem dX8_layGame_111 : decode cX8_layGame 111 = .ok (.getfield 94, 3) := by decide +kernel
theorem dX8_layGame_114 : decode cX8_layGame 114 = .ok (.aload_n 0, 1) := by decide +kernel
theorem dX8_layGame_115 : decode cX8_layGame 115 = .ok (.getfield 255, 3) := by decide +kernel
theorem dX8_layGame_118 : decode cX8_layGame 118 = .ok (.iload_n 2, 1) := by decide +kernel
theorem dX8_layGame_119 : decode cX8_layGame 119 = .ok (.iastore, 1) := by decide +kernel
theorem dX8_layGame_120 : decode cX8_layGame 120 = .ok (.aload_n 0, 1) := by decide +kernel
theorem dX8_layGame_121 : decode cX8_layGame 121 = .ok (.getfield 97, 3) := by decide +kernel
theorem dX8_layGame_124 : decode cX8_layGame 124 = .ok (.aload_n 0, 1) := by decide +kernel
theorem dX8_layGame_125 : decode cX8_layGame 125 = .ok (.getfield 255, 3) := by decide +kernel
theorem dX8_layGame_128 : decode cX8_layGame 128 = .ok (.iload_n 3, 1) := by decide +kernel
theorem dX8_layGame_129 : decode cX8_layGame 129 = .ok (.iastore, 1) := by decide +kernel
theorem dX8_layGame_130 : decode cX8_layGame 130 = .ok (.aload_n 0, 1) := by decide +kernel
theorem dX8_layGame_131 : decode cX8_layGame 131 = .ok (.dup, 1) := by decide +kernel
theorem dX8_layGame_132 : decode cX8_layGame 132 = .ok (.getfield 255, 3) := by decide +kernel
theorem dX8_layGame_135 : decode cX8_layGame 135 = .ok (.iconst 1, 1) := by decide +kernel
theorem dX8_layGame_136 : decode cX8_layGame 136 = .ok (.iadd, 1) := by decide +kernel
theorem dX8_layGame_137 : decode cX8_layGame 137 = .ok (.putfield 255, 3) := by decide +kernel
theorem dX8_layGame_140 : decode cX8_layGame 140 = .ok (.iinc 1 1, 3) := by decide +kernel
theorem dX8_layGame_143 : decode cX8_layGame 143 = .ok (.goto (-136), 3) := by decide +kernel
theorem dX8_layGame_146 : decode cX8_layGame 146 = .ok (.return_, 1) := by decide +kernel
theorem dX8_costOf_0 : decode cX8_costOf 0 = .ok (.iconst 1, 1) := by decide +kernel
theorem dX8_costOf_1 : decode cX8_costOf 1 = .ok (.istore_n 2, 1) := by decide +kernel
theorem dX8_costOf_2 : decode cX8_costOf 2 = .ok (.iconst 0, 1) := by decide +kernel
theorem dX8_costOf_3 : decode cX8_costOf 3 = .ok (.istore_n 3, 1) := by decide +kernel
theorem dX8_costOf_4 : decode cX8_costOf 4 = .ok (.iload_n 3, 1) := by decide +kernel
theorem dX8_costOf_5 : decode cX8_costOf 5 = .ok (.aload_n 0, 1) := by decide +kernel
theorem dX8_costOf_6 : decode cX8_costOf 6 = .ok (.getfield 255, 3) := by decide +kernel
theorem dX8_costOf_9 : decode cX8_costOf 9 = .ok (.if_icmp .ge 39, 3) := by decide +kernel
theorem dX8_costOf_12 : decode cX8_costOf 12 = .ok (.iload_n 2, 1) := by decide +kernel
theorem dX8_costOf_13 : decode cX8_costOf 13 = .ok (.ifCond .eq 27, 3) := by decide +kernel
theorem dX8_costOf_16 : decode cX8_costOf 16 = .ok (.iload_n 3, 1) := by decide +kernel
theorem dX8_costOf_17 : decode cX8_costOf 17 = .ok (.iload_n 1, 1) := by decide +kernel
theorem dX8_costOf_18 : decode cX8_costOf 18 = .ok (.if_icmp .eq 18, 3) := by decide +kernel
theorem dX8_costOf_21 : decode cX8_costOf 21 = .ok (.aload_n 0, 1) := by decide +kernel
theorem dX8_costOf_22 : decode cX8_costOf 22 = .ok (.getfield 100, 3) := by decide +kernel
theorem dX8_costOf_25 : decode cX8_costOf 25 = .ok (.iload_n 3, 1) := by decide +kernel
theorem dX8_costOf_26 : decode cX8_costOf 26 = .ok (.iaload, 1) := by decide +kernel
theorem dX8_costOf_27 : decode cX8_costOf 27 = .ok (.aload_n 0, 1) := by decide +kernel
theorem dX8_costOf_28 : decode cX8_costOf 28 = .ok (.getfield 100, 3) := by decide +kernel
theorem dX8_costOf_31 : decode cX8_costOf 31 = .ok (.iload_n 1, 1) := by decide +kernel
theorem dX8_costOf_32 : decode cX8_costOf 32 = .ok (.iaload, 1) := by decide +kernel
theorem dX8_costOf_33 : decode cX8_costOf 33 = .ok (.if_icmp .le 7, 3) := by decide +kernel
theorem dX8_costOf_36 : decode cX8_costOf 36 = .ok (.iconst 1, 1) := by decide +kernel
theorem dX8_costOf_37 : decode cX8_costOf 37 = .ok (.goto 4, 3) := by decide +kernel
theorem dX8_costOf_40 : decode cX8_costOf 40 = .ok (.iconst 0, 1) := by decide +kernel
theorem dX8_costOf_41 : decode cX8_costOf 41 = .ok (.istore_n 2, 1) := by decide +kernel
theorem dX8_costOf_42 : decode cX8_costOf 42 = .ok (.iinc 3 1, 3) := by decide +kernel
theorem dX8_costOf_45 : decode cX8_costOf 45 = .ok (.goto (-41), 3) := by decide +kernel
theorem dX8_costOf_48 : decode cX8_costOf 48 = .ok (.sipush 180, 3) := by decide +kernel
theorem dX8_costOf_51 : decode cX8_costOf 51 = .ok (.bipush 30, 2) := by decide +kernel
theorem dX8_costOf_53 : decode cX8_costOf 53 = .ok (.aload_n 0, 1) := by decide +kernel
theorem dX8_costOf_54 : decode cX8_costOf 54 = .ok (.getfield 100, 3) := by decide +kernel
theorem dX8_costOf_57 : decode cX8_costOf 57 = .ok (.iload_n 1, 1) := by decide +kernel
theorem dX8_costOf_58 : decode cX8_costOf 58 = .ok (.iaload, 1) := by decide +kernel
theorem dX8_costOf_59 : decode cX8_costOf 59 = .ok (.imul, 1) := by decide +kernel
theorem dX8_costOf_60 : decode cX8_costOf 60 = .ok (.iadd, 1) := by decide +kernel
theorem dX8_costOf_61 : decode cX8_costOf 61 = .ok (.aload_n 0, 1) := by decide +kernel
theorem dX8_costOf_62 : decode cX8_costOf 62 = .ok (.getfield 94, 3) := by decide +kernel
theorem dX8_costOf_65 : decode cX8_costOf 65 = .ok (.iload_n 1, 1) := by decide +kernel
theorem dX8_costOf_66 : decode cX8_costOf 66 = .ok (.iaload, 1) := by decide +kernel
theorem dX8_costOf_67 : decode cX8_costOf 67 = .ok (.invokestatic 221, 3) := by decide +kernel
theorem dX8_costOf_70 : decode cX8_costOf 70 = .ok (.iload_n 2, 1) := by decide +kernel
theorem dX8_costOf_71 : decode cX8_costOf 71 = .ok (.ifCond .eq 12, 3) := by decide +kernel
theorem dX8_costOf_74 : decode cX8_costOf 74 = .ok (.aload_n 0, 1) := by decide +kernel
theorem dX8_costOf_75 : decode cX8_costOf 75 = .ok (.getfield 97, 3) := by decide +kernel
theorem dX8_costOf_78 : decode cX8_costOf 78 = .ok (.iload_n 1, 1) := by decide +kernel
theorem dX8_costOf_79 : decode cX8_costOf 79 = .ok (.iaload, 1) := by decide +kernel
theorem dX8_costOf_80 : decode cX8_costOf 80 = .ok (.goto 4, 3) := by decide +kernel
theorem dX8_costOf_83 : decode cX8_costOf 83 = .ok (.iconst 0, 1) := by decide +kernel
theorem dX8_costOf_84 : decode cX8_costOf 84 = .ok (.iadd, 1) := by decide +kernel
theorem dX8_costOf_85 : decode cX8_costOf 85 = .ok (.ireturn, 1) := by decide +kernel
theorem dX8_cost_0 : decode cX8_cost 0 = .ok (.aload_n 0, 1) := by decide +kernel
theorem dX8_cost_1 : decode cX8_cost 1 = .ok (.invokevirtual 258, 3) := by decide +kernel
theorem dX8_cost_4 : decode cX8_cost 4 = .ok (.iload_n 1, 1) := by decide +kernel
theorem dX8_cost_5 : decode cX8_cost 5 = .ok (.i2l, 1) := by decide +kernel
theorem dX8_cost_6 : decode cX8_cost 6 = .ok (.lconst 0, 1) := by decide +kernel
theorem dX8_cost_7 : decode cX8_cost 7 = .ok (.aload_n 0, 1) := by decide +kernel
theorem dX8_cost_8 : decode cX8_cost 8 = .ok (.getfield 255, 3) := by decide +kernel
theorem dX8_cost_11 : decode cX8_cost 11 = .ok (.iconst 1, 1) := by decide +kernel
theorem dX8_cost_12 : decode cX8_cost 12 = .ok (.isub, 1) := by decide +kernel
theorem dX8_cost_13 : decode cX8_cost 13 = .ok (.i2l, 1) := by decide +kernel
theorem dX8_cost_14 : decode cX8_cost 14 = .ok (.invokestatic 109, 3) := by decide +kernel
theorem dX8_cost_17 : decode cX8_cost 17 = .ok (.ifCond .eq 15, 3) := by decide +kernel
theorem dX8_cost_20 : decode cX8_cost 20 = .ok (.iload_n 2, 1) := by decide +kernel
theorem dX8_cost_21 : decode cX8_cost 21 = .ok (.i2l, 1) := by decide +kernel
theorem dX8_cost_22 : decode cX8_cost 22 = .ok (.lconst 0, 1) := by decide +kernel
theorem dX8_cost_23 : decode cX8_cost 23 = .ok (.ldc2_w 261, 3) := by decide +kernel
theorem dX8_cost_26 : decode cX8_cost 26 = .ok (.invokestatic 109, 3) := by decide +kernel
theorem dX8_cost_29 : decode cX8_cost 29 = .ok (.ifCond .ne 5, 3) := by decide +kernel
