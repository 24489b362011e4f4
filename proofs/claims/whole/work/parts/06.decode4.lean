theorem dX11_sails_125 : decode cX11_sails 125 = .ok (.iload 4, 2) := by decide +kernel
theorem dX11_sails_127 : decode cX11_sails 127 = .ok (.ldc 75, 2) := by decide +kernel
theorem dX11_sails_129 : decode cX11_sails 129 = .ok (.if_icmp .ne 7, 3) := by decide +kernel
theorem dX11_sails_132 : decode cX11_sails 132 = .ok (.iconst 1, 1) := by decide +kernel
theorem dX11_sails_133 : decode cX11_sails 133 = .ok (.goto 4, 3) := by decide +kernel
theorem dX11_sails_136 : decode cX11_sails 136 = .ok (.iconst 0, 1) := by decide +kernel
theorem dX11_sails_137 : decode cX11_sails 137 = .ok (.istore 6, 2) := by decide +kernel
theorem dX11_sails_139 : decode cX11_sails 139 = .ok (.iload 6, 2) := by decide +kernel
theorem dX11_sails_141 : decode cX11_sails 141 = .ok (.ifCond .eq 111, 3) := by decide +kernel
theorem dX11_sails_144 : decode cX11_sails 144 = .ok (.aload_n 0, 1) := by decide +kernel
theorem dX11_sails_145 : decode cX11_sails 145 = .ok (.dup, 1) := by decide +kernel
theorem dX11_sails_146 : decode cX11_sails 146 = .ok (.getfield 274, 3) := by decide +kernel
theorem dX11_sails_149 : decode cX11_sails 149 = .ok (.iconst 1, 1) := by decide +kernel
theorem dX11_sails_150 : decode cX11_sails 150 = .ok (.iadd, 1) := by decide +kernel
theorem dX11_sails_151 : decode cX11_sails 151 = .ok (.putfield 274, 3) := by decide +kernel
theorem dX11_sails_154 : decode cX11_sails 154 = .ok (.aload_n 0, 1) := by decide +kernel
theorem dX11_sails_155 : decode cX11_sails 155 = .ok (.getfield 29, 3) := by decide +kernel
theorem dX11_sails_158 : decode cX11_sails 158 = .ok (.aload_n 0, 1) := by decide +kernel
theorem dX11_sails_159 : decode cX11_sails 159 = .ok (.getfield 274, 3) := by decide +kernel
theorem dX11_sails_162 : decode cX11_sails 162 = .ok (.aload_n 0, 1) := by decide +kernel
theorem dX11_sails_163 : decode cX11_sails 163 = .ok (.getfield 29, 3) := by decide +kernel
theorem dX11_sails_166 : decode cX11_sails 166 = .ok (.aload_n 0, 1) := by decide +kernel
theorem dX11_sails_167 : decode cX11_sails 167 = .ok (.getfield 274, 3) := by decide +kernel
theorem dX11_sails_170 : decode cX11_sails 170 = .ok (.iconst 1, 1) := by decide +kernel
theorem dX11_sails_171 : decode cX11_sails 171 = .ok (.isub, 1) := by decide +kernel
theorem dX11_sails_172 : decode cX11_sails 172 = .ok (.iaload, 1) := by decide +kernel
theorem dX11_sails_173 : decode cX11_sails 173 = .ok (.aload_n 0, 1) := by decide +kernel
theorem dX11_sails_174 : decode cX11_sails 174 = .ok (.getfield 20, 3) := by decide +kernel
theorem dX11_sails_177 : decode cX11_sails 177 = .ok (.aload_n 0, 1) := by decide +kernel
theorem dX11_sails_178 : decode cX11_sails 178 = .ok (.iload_n 3, 1) := by decide +kernel
theorem dX11_sails_179 : decode cX11_sails 179 = .ok (.iconst 0, 1) := by decide +kernel
theorem dX11_sails_180 : decode cX11_sails 180 = .ok (.invokevirtual 264, 3) := by decide +kernel
theorem dX11_sails_183 : decode cX11_sails 183 = .ok (.iaload, 1) := by decide +kernel
theorem dX11_sails_184 : decode cX11_sails 184 = .ok (.iadd, 1) := by decide +kernel
theorem dX11_sails_185 : decode cX11_sails 185 = .ok (.iastore, 1) := by decide +kernel
theorem dX11_sails_186 : decode cX11_sails 186 = .ok (.aload_n 0, 1) := by decide +kernel
theorem dX11_sails_187 : decode cX11_sails 187 = .ok (.getfield 32, 3) := by decide +kernel
theorem dX11_sails_190 : decode cX11_sails 190 = .ok (.aload_n 0, 1) := by decide +kernel
theorem dX11_sails_191 : decode cX11_sails 191 = .ok (.getfield 274, 3) := by decide +kernel
theorem dX11_sails_194 : decode cX11_sails 194 = .ok (.aload_n 0, 1) := by decide +kernel
theorem dX11_sails_195 : decode cX11_sails 195 = .ok (.getfield 32, 3) := by decide +kernel
theorem dX11_sails_198 : decode cX11_sails 198 = .ok (.aload_n 0, 1) := by decide +kernel
theorem dX11_sails_199 : decode cX11_sails 199 = .ok (.getfield 274, 3) := by decide +kernel
theorem dX11_sails_202 : decode cX11_sails 202 = .ok (.iconst 1, 1) := by decide +kernel
theorem dX11_sails_203 : decode cX11_sails 203 = .ok (.isub, 1) := by decide +kernel
theorem dX11_sails_204 : decode cX11_sails 204 = .ok (.iaload, 1) := by decide +kernel
theorem dX11_sails_205 : decode cX11_sails 205 = .ok (.aload_n 0, 1) := by decide +kernel
theorem dX11_sails_206 : decode cX11_sails 206 = .ok (.getfield 23, 3) := by decide +kernel
theorem dX11_sails_209 : decode cX11_sails 209 = .ok (.aload_n 0, 1) := by decide +kernel
theorem dX11_sails_210 : decode cX11_sails 210 = .ok (.iload_n 3, 1) := by decide +kernel
theorem dX11_sails_211 : decode cX11_sails 211 = .ok (.iconst 0, 1) := by decide +kernel
theorem dX11_sails_212 : decode cX11_sails 212 = .ok (.invokevirtual 264, 3) := by decide +kernel
theorem dX11_sails_215 : decode cX11_sails 215 = .ok (.iaload, 1) := by decide +kernel
theorem dX11_sails_216 : decode cX11_sails 216 = .ok (.iadd, 1) := by decide +kernel
theorem dX11_sails_217 : decode cX11_sails 217 = .ok (.iastore, 1) := by decide +kernel
theorem dX11_sails_218 : decode cX11_sails 218 = .ok (.aload_n 0, 1) := by decide +kernel
theorem dX11_sails_219 : decode cX11_sails 219 = .ok (.getfield 35, 3) := by decide +kernel
theorem dX11_sails_222 : decode cX11_sails 222 = .ok (.aload_n 0, 1) := by decide +kernel
theorem dX11_sails_223 : decode cX11_sails 223 = .ok (.getfield 274, 3) := by decide +kernel
theorem dX11_sails_226 : decode cX11_sails 226 = .ok (.iload_n 3, 1) := by decide +kernel
theorem dX11_sails_227 : decode cX11_sails 227 = .ok (.iastore, 1) := by decide +kernel
theorem dX11_sails_228 : decode cX11_sails 228 = .ok (.aload_n 0, 1) := by decide +kernel
theorem dX11_sails_229 : decode cX11_sails 229 = .ok (.getfield 38, 3) := by decide +kernel
theorem dX11_sails_232 : decode cX11_sails 232 = .ok (.iload_n 3, 1) := by decide +kernel
theorem dX11_sails_233 : decode cX11_sails 233 = .ok (.dup2, 1) := by decide +kernel
theorem dX11_sails_234 : decode cX11_sails 234 = .ok (.iaload, 1) := by decide +kernel
theorem dX11_sails_235 : decode cX11_sails 235 = .ok (.iconst 1, 1) := by decide +kernel
theorem dX11_sails_236 : decode cX11_sails 236 = .ok (.iadd, 1) := by decide +kernel
theorem dX11_sails_237 : decode cX11_sails 237 = .ok (.iastore, 1) := by decide +kernel
theorem dX11_sails_238 : decode cX11_sails 238 = .ok (.aload_n 0, 1) := by decide +kernel
theorem dX11_sails_239 : decode cX11_sails 239 = .ok (.iload_n 3, 1) := by decide +kernel
theorem dX11_sails_240 : decode cX11_sails 240 = .ok (.iload 5, 2) := by decide +kernel
theorem dX11_sails_242 : decode cX11_sails 242 = .ok (.iload_n 1, 1) := by decide +kernel
theorem dX11_sails_243 : decode cX11_sails 243 = .ok (.iload_n 2, 1) := by decide +kernel
theorem dX11_sails_244 : decode cX11_sails 244 = .ok (.invokevirtual 303, 3) := by decide +kernel
theorem dX11_sails_247 : decode cX11_sails 247 = .ok (.istore 6, 2) := by decide +kernel
theorem dX11_sails_249 : decode cX11_sails 249 = .ok (.goto (-110), 3) := by decide +kernel
theorem dX11_sails_252 : decode cX11_sails 252 = .ok (.iinc 3 1, 3) := by decide +kernel
theorem dX11_sails_255 : decode cX11_sails 255 = .ok (.goto (-189), 3) := by decide +kernel
theorem dX11_sails_258 : decode cX11_sails 258 = .ok (.aload_n 0, 1) := by decide +kernel
theorem dX11_sails_259 : decode cX11_sails 259 = .ok (.getfield 29, 3) := by decide +kernel
theorem dX11_sails_262 : decode cX11_sails 262 = .ok (.aload_n 0, 1) := by decide +kernel
theorem dX11_sails_263 : decode cX11_sails 263 = .ok (.getfield 274, 3) := by decide +kernel
theorem dX11_sails_266 : decode cX11_sails 266 = .ok (.iaload, 1) := by decide +kernel
theorem dX11_sails_267 : decode cX11_sails 267 = .ok (.aload_n 0, 1) := by decide +kernel
theorem dX11_sails_268 : decode cX11_sails 268 = .ok (.getfield 7, 3) := by decide +kernel
theorem dX11_sails_271 : decode cX11_sails 271 = .ok (.iconst 4, 1) := by decide +kernel
theorem dX11_sails_272 : decode cX11_sails 272 = .ok (.iaload, 1) := by decide +kernel
theorem dX11_sails_273 : decode cX11_sails 273 = .ok (.isub, 1) := by decide +kernel
theorem dX11_sails_274 : decode cX11_sails 274 = .ok (.aload_n 0, 1) := by decide +kernel
theorem dX11_sails_275 : decode cX11_sails 275 = .ok (.getfield 32, 3) := by decide +kernel
theorem dX11_sails_278 : decode cX11_sails 278 = .ok (.aload_n 0, 1) := by decide +kernel
theorem dX11_sails_279 : decode cX11_sails 279 = .ok (.getfield 274, 3) := by decide +kernel
theorem dX11_sails_282 : decode cX11_sails 282 = .ok (.iaload, 1) := by decide +kernel
theorem dX11_sails_283 : decode cX11_sails 283 = .ok (.aload_n 0, 1) := by decide +kernel
theorem dX11_sails_284 : decode cX11_sails 284 = .ok (.getfield 7, 3) := by decide +kernel
theorem dX11_sails_287 : decode cX11_sails 287 = .ok (.iconst 5, 1) := by decide +kernel
theorem dX11_sails_288 : decode cX11_sails 288 = .ok (.iaload, 1) := by decide +kernel
theorem dX11_sails_289 : decode cX11_sails 289 = .ok (.isub, 1) := by decide +kernel
theorem dX11_sails_290 : decode cX11_sails 290 = .ok (.invokestatic 190, 3) := by decide +kernel
theorem dX11_sails_293 : decode cX11_sails 293 = .ok (.istore_n 3, 1) := by decide +kernel
theorem dX11_sails_294 : decode cX11_sails 294 = .ok (.aload_n 0, 1) := by decide +kernel
theorem dX11_sails_295 : decode cX11_sails 295 = .ok (.getfield 261, 3) := by decide +kernel
theorem dX11_sails_298 : decode cX11_sails 298 = .ok (.ifCond .ne 28, 3) := by decide +kernel
theorem dX11_sails_301 : decode cX11_sails 301 = .ok (.iload_n 3, 1) := by decide +kernel
theorem dX11_sails_302 : decode cX11_sails 302 = .ok (.bipush 9, 2) := by decide +kernel
theorem dX11_sails_304 : decode cX11_sails 304 = .ok (.if_icmp .le 22, 3) := by decide +kernel
theorem dX11_sails_307 : decode cX11_sails 307 = .ok (.aload_n 0, 1) := by decide +kernel
theorem dX11_sails_308 : decode cX11_sails 308 = .ok (.iconst 1, 1) := by decide +kernel
theorem dX11_sails_309 : decode cX11_sails 309 = .ok (.aload_n 0, 1) := by decide +kernel
theorem dX11_sails_310 : decode cX11_sails 310 = .ok (.getfield 7, 3) := by decide +kernel
theorem dX11_sails_313 : decode cX11_sails 313 = .ok (.bipush 54, 2) := by decide +kernel
theorem dX11_sails_315 : decode cX11_sails 315 = .ok (.iaload, 1) := by decide +kernel
theorem dX11_sails_316 : decode cX11_sails 316 = .ok (.invokevirtual 271, 3) := by decide +kernel
theorem dX11_sails_319 : decode cX11_sails 319 = .ok (.aload_n 0, 1) := by decide +kernel
theorem dX11_sails_320 : decode cX11_sails 320 = .ok (.bipush 10, 2) := by decide +kernel
theorem dX11_sails_322 : decode cX11_sails 322 = .ok (.iload_n 3, 1) := by decide +kernel
theorem dX11_sails_323 : decode cX11_sails 323 = .ok (.invokevirtual 271, 3) := by decide +kernel
theorem dX11_sails_326 : decode cX11_sails 326 = .ok (.aload_n 0, 1) := by decide +kernel
theorem dX11_sails_327 : decode cX11_sails 327 = .ok (.aload_n 0, 1) := by decide +kernel
theorem dX11_sails_328 : decode cX11_sails 328 = .ok (.getfield 261, 3) := by decide +kernel
theorem dX11_sails_331 : decode cX11_sails 331 = .ok (.ifCond .ne 7, 3) := by decide +kernel
theorem dX11_sails_334 : decode cX11_sails 334 = .ok (.iconst 1, 1) := by decide +kernel
theorem dX11_sails_335 : decode cX11_sails 335 = .ok (.goto 4, 3) := by decide +kernel
theorem dX11_sails_338 : decode cX11_sails 338 = .ok (.iconst 0, 1) := by decide +kernel
theorem dX11_sails_339 : decode cX11_sails 339 = .ok (.putfield 296, 3) := by decide +kernel
theorem dX11_sails_342 : decode cX11_sails 342 = .ok (.return_, 1) := by decide +kernel
theorem dX11_isStart_0 : decode cX11_isStart 0 = .ok (.iload_n 0, 1) := by decide +kernel
theorem dX11_isStart_1 : decode cX11_isStart 1 = .ok (.i2l, 1) := by decide +kernel
theorem dX11_isStart_2 : decode cX11_isStart 2 = .ok (.lconst 0, 1) := by decide +kernel
theorem dX11_isStart_3 : decode cX11_isStart 3 = .ok (.ldc2_w 306, 3) := by decide +kernel
theorem dX11_isStart_6 : decode cX11_isStart 6 = .ok (.invokestatic 62, 3) := by decide +kernel
theorem dX11_isStart_9 : decode cX11_isStart 9 = .ok (.ireturn, 1) := by decide +kernel
theorem dX11_sail_0 : decode cX11_sail 0 = .ok (.aload_n 0, 1) := by decide +kernel
theorem dX11_sail_1 : decode cX11_sail 1 = .ok (.invokevirtual 169, 3) := by decide +kernel
theorem dX11_sail_4 : decode cX11_sail 4 = .ok (.ifCond .ne 6, 3) := by decide +kernel
theorem dX11_sail_7 : decode cX11_sail 7 = .ok (.ldc 146, 2) := by decide +kernel
theorem dX11_sail_9 : decode cX11_sail 9 = .ok (.ireturn, 1) := by decide +kernel
theorem dX11_sail_10 : decode cX11_sail 10 = .ok (.iload_n 1, 1) := by decide +kernel
theorem dX11_sail_11 : decode cX11_sail 11 = .ok (.invokestatic 308, 3) := by decide +kernel
theorem dX11_sail_14 : decode cX11_sail 14 = .ok (.ifCond .eq 15, 3) := by decide +kernel
theorem dX11_sail_17 : decode cX11_sail 17 = .ok (.iload_n 2, 1) := by decide +kernel
theorem dX11_sail_18 : decode cX11_sail 18 = .ok (.i2l, 1) := by decide +kernel
theorem dX11_sail_19 : decode cX11_sail 19 = .ok (.lconst 0, 1) := by decide +kernel
theorem dX11_sail_20 : decode cX11_sail 20 = .ok (.ldc2_w 164, 3) := by decide +kernel
theorem dX11_sail_23 : decode cX11_sail 23 = .ok (.invokestatic 62, 3) := by decide +kernel
theorem dX11_sail_26 : decode cX11_sail 26 = .ok (.ifCond .ne 6, 3) := by decide +kernel
theorem dX11_sail_29 : decode cX11_sail 29 = .ok (.ldc 133, 2) := by decide +kernel
theorem dX11_sail_31 : decode cX11_sail 31 = .ok (.ireturn, 1) := by decide +kernel
theorem dX11_sail_32 : decode cX11_sail 32 = .ok (.aload_n 0, 1) := by decide +kernel
theorem dX11_sail_33 : decode cX11_sail 33 = .ok (.iload_n 1, 1) := by decide +kernel
theorem dX11_sail_34 : decode cX11_sail 34 = .ok (.aload_n 0, 1) := by decide +kernel
theorem dX11_sail_35 : decode cX11_sail 35 = .ok (.getfield 7, 3) := by decide +kernel
theorem dX11_sail_38 : decode cX11_sail 38 = .ok (.iconst 1, 1) := by decide +kernel
theorem dX11_sail_39 : decode cX11_sail 39 = .ok (.iaload, 1) := by decide +kernel
theorem dX11_sail_40 : decode cX11_sail 40 = .ok (.invokevirtual 311, 3) := by decide +kernel
theorem dX11_sail_43 : decode cX11_sail 43 = .ok (.iload_n 2, 1) := by decide +kernel
theorem dX11_sail_44 : decode cX11_sail 44 = .ok (.tableswitch 88 0 5 #[40, 45, 55, 65, 70, 83], 40) := by decide +kernel
theorem dX11_sail_84 : decode cX11_sail 84 = .ok (.aload_n 0, 1) := by decide +kernel
theorem dX11_sail_85 : decode cX11_sail 85 = .ok (.getfield 274, 3) := by decide +kernel
theorem dX11_sail_88 : decode cX11_sail 88 = .ok (.ireturn, 1) := by decide +kernel
theorem dX11_sail_89 : decode cX11_sail 89 = .ok (.aload_n 0, 1) := by decide +kernel
theorem dX11_sail_90 : decode cX11_sail 90 = .ok (.getfield 29, 3) := by decide +kernel
theorem dX11_sail_93 : decode cX11_sail 93 = .ok (.aload_n 0, 1) := by decide +kernel
theorem dX11_sail_94 : decode cX11_sail 94 = .ok (.getfield 274, 3) := by decide +kernel
theorem dX11_sail_97 : decode cX11_sail 97 = .ok (.iaload, 1) := by decide +kernel
theorem dX11_sail_98 : decode cX11_sail 98 = .ok (.ireturn, 1) := by decide +kernel
theorem dX11_sail_99 : decode cX11_sail 99 = .ok (.aload_n 0, 1) := by decide +kernel
theorem dX11_sail_100 : decode cX11_sail 100 = .ok (.getfield 32, 3) := by decide +kernel
theorem dX11_sail_103 : decode cX11_sail 103 = .ok (.aload_n 0, 1) := by decide +kernel
theorem dX11_sail_104 : decode cX11_sail 104 = .ok (.getfield 274, 3) := by decide +kernel
theorem dX11_sail_107 : decode cX11_sail 107 = .ok (.iaload, 1) := by decide +kernel
theorem dX11_sail_108 : decode cX11_sail 108 = .ok (.ireturn, 1) := by decide +kernel
theorem dX11_sail_109 : decode cX11_sail 109 = .ok (.aload_n 0, 1) := by decide +kernel
theorem dX11_sail_110 : decode cX11_sail 110 = .ok (.getfield 290, 3) := by decide +kernel
theorem dX11_sail_113 : decode cX11_sail 113 = .ok (.ireturn, 1) := by decide +kernel
theorem dX11_sail_114 : decode cX11_sail 114 = .ok (.aload_n 0, 1) := by decide +kernel
theorem dX11_sail_115 : decode cX11_sail 115 = .ok (.getfield 296, 3) := by decide +kernel
theorem dX11_sail_118 : decode cX11_sail 118 = .ok (.ifCond .eq 7, 3) := by decide +kernel
theorem dX11_sail_121 : decode cX11_sail 121 = .ok (.iconst 1, 1) := by decide +kernel
theorem dX11_sail_122 : decode cX11_sail 122 = .ok (.goto 4, 3) := by decide +kernel
theorem dX11_sail_125 : decode cX11_sail 125 = .ok (.iconst 0, 1) := by decide +kernel
theorem dX11_sail_126 : decode cX11_sail 126 = .ok (.ireturn, 1) := by decide +kernel
theorem dX11_sail_127 : decode cX11_sail 127 = .ok (.aload_n 0, 1) := by decide +kernel
theorem dX11_sail_128 : decode cX11_sail 128 = .ok (.getfield 280, 3) := by decide +kernel
theorem dX11_sail_131 : decode cX11_sail 131 = .ok (.ireturn, 1) := by decide +kernel
theorem dX11_sail_132 : decode cX11_sail 132 = .ok (.aload_n 0, 1) := by decide +kernel
theorem dX11_sail_133 : decode cX11_sail 133 = .ok (.getfield 277, 3) := by decide +kernel
theorem dX11_sail_136 : decode cX11_sail 136 = .ok (.ireturn, 1) := by decide +kernel
theorem dX11_track_0 : decode cX11_track 0 = .ok (.aload_n 0, 1) := by decide +kernel
theorem dX11_track_1 : decode cX11_track 1 = .ok (.invokevirtual 169, 3) := by decide +kernel
theorem dX11_track_4 : decode cX11_track 4 = .ok (.ifCond .ne 6, 3) := by decide +kernel
theorem dX11_track_7 : decode cX11_track 7 = .ok (.ldc 146, 2) := by decide +kernel
theorem dX11_track_9 : decode cX11_track 9 = .ok (.ireturn, 1) := by decide +kernel
theorem dX11_track_10 : decode cX11_track 10 = .ok (.iload_n 1, 1) := by decide +kernel
theorem dX11_track_11 : decode cX11_track 11 = .ok (.invokestatic 308, 3) := by decide +kernel
theorem dX11_track_14 : decode cX11_track 14 = .ok (.ifCond .eq 19, 3) := by decide +kernel
theorem dX11_track_17 : decode cX11_track 17 = .ok (.iload_n 2, 1) := by decide +kernel
theorem dX11_track_18 : decode cX11_track 18 = .ok (.ifCond .lt 15, 3) := by decide +kernel
theorem dX11_track_21 : decode cX11_track 21 = .ok (.iload_n 3, 1) := by decide +kernel
theorem dX11_track_22 : decode cX11_track 22 = .ok (.i2l, 1) := by decide +kernel
theorem dX11_track_23 : decode cX11_track 23 = .ok (.lconst 0, 1) := by decide +kernel
theorem dX11_track_24 : decode cX11_track 24 = .ok (.ldc2_w 255, 3) := by decide +kernel
theorem dX11_track_27 : decode cX11_track 27 = .ok (.invokestatic 62, 3) := by decide +kernel
theorem dX11_track_30 : decode cX11_track 30 = .ok (.ifCond .ne 6, 3) := by decide +kernel
theorem dX11_track_33 : decode cX11_track 33 = .ok (.ldc 133, 2) := by decide +kernel
theorem dX11_track_35 : decode cX11_track 35 = .ok (.ireturn, 1) := by decide +kernel
theorem dX11_track_36 : decode cX11_track 36 = .ok (.aload_n 0, 1) := by decide +kernel
theorem dX11_track_37 : decode cX11_track 37 = .ok (.iload_n 1, 1) := by decide +kernel
theorem dX11_track_38 : decode cX11_track 38 = .ok (.aload_n 0, 1) := by decide +kernel
theorem dX11_track_39 : decode cX11_track 39 = .ok (.getfield 7, 3) := by decide +kernel
theorem dX11_track_42 : decode cX11_track 42 = .ok (.iconst 1, 1) := by decide +kernel
theorem dX11_track_43 : decode cX11_track 43 = .ok (.iaload, 1) := by decide +kernel
theorem dX11_track_44 : decode cX11_track 44 = .ok (.invokevirtual 311, 3) := by decide +kernel
theorem dX11_track_47 : decode cX11_track 47 = .ok (.iload_n 2, 1) := by decide +kernel
theorem dX11_track_48 : decode cX11_track 48 = .ok (.aload_n 0, 1) := by decide +kernel
theorem dX11_track_49 : decode cX11_track 49 = .ok (.getfield 274, 3) := by decide +kernel
theorem dX11_track_52 : decode cX11_track 52 = .ok (.if_icmp .le 8, 3) := by decide +kernel
theorem dX11_track_55 : decode cX11_track 55 = .ok (.ldc 75, 2) := by decide +kernel
theorem dX11_track_57 : decode cX11_track 57 = .ok (.goto 36, 3) := by decide +kernel
theorem dX11_track_60 : decode cX11_track 60 = .ok (.iload_n 3, 1) := by decide +kernel
theorem dX11_track_61 : decode cX11_track 61 = .ok (.ifCond .ne 12, 3) := by decide +kernel
theorem dX11_track_64 : decode cX11_track 64 = .ok (.aload_n 0, 1) := by decide +kernel
theorem dX11_track_65 : decode cX11_track 65 = .ok (.getfield 29, 3) := by decide +kernel
theorem dX11_track_68 : decode cX11_track 68 = .ok (.iload_n 2, 1) := by decide +kernel
theorem dX11_track_69 : decode cX11_track 69 = .ok (.iaload, 1) := by decide +kernel
theorem dX11_track_70 : decode cX11_track 70 = .ok (.goto 23, 3) := by decide +kernel
theorem dX11_track_73 : decode cX11_track 73 = .ok (.iload_n 3, 1) := by decide +kernel
theorem dX11_track_74 : decode cX11_track 74 = .ok (.iconst 1, 1) := by decide +kernel
theorem dX11_track_75 : decode cX11_track 75 = .ok (.if_icmp .ne 12, 3) := by decide +kernel
theorem dX11_track_78 : decode cX11_track 78 = .ok (.aload_n 0, 1) := by decide +kernel
theorem dX11_track_79 : decode cX11_track 79 = .ok (.getfield 32, 3) := by decide +kernel
theorem dX11_track_82 : decode cX11_track 82 = .ok (.iload_n 2, 1) := by decide +kernel
theorem dX11_track_83 : decode cX11_track 83 = .ok (.iaload, 1) := by decide +kernel
theorem dX11_track_84 : decode cX11_track 84 = .ok (.goto 9, 3) := by decide +kernel
theorem dX11_track_87 : decode cX11_track 87 = .ok (.aload_n 0, 1) := by decide +kernel
theorem dX11_track_88 : decode cX11_track 88 = .ok (.getfield 35, 3) := by decide +kernel
theorem dX11_track_91 : decode cX11_track 91 = .ok (.iload_n 2, 1) := by decide +kernel
theorem dX11_track_92 : decode cX11_track 92 = .ok (.iaload, 1) := by decide +kernel
theorem dX11_track_93 : decode cX11_track 93 = .ok (.ireturn, 1) := by decide +kernel
theorem dX11_why_0 : decode cX11_why 0 = .ok (.aload_n 0, 1) := by decide +kernel
theorem dX11_why_1 : decode cX11_why 1 = .ok (.invokevirtual 169, 3) := by decide +kernel
theorem dX11_why_4 : decode cX11_why 4 = .ok (.ifCond .ne 6, 3) := by decide +kernel
theorem dX11_why_7 : decode cX11_why 7 = .ok (.ldc 146, 2) := by decide +kernel
theorem dX11_why_9 : decode cX11_why 9 = .ok (.ireturn, 1) := by decide +kernel
theorem dX11_why_10 : decode cX11_why 10 = .ok (.iload_n 1, 1) := by decide +kernel
theorem dX11_why_11 : decode cX11_why 11 = .ok (.invokestatic 308, 3) := by decide +kernel
theorem dX11_why_14 : decode cX11_why 14 = .ok (.ifCond .eq 17, 3) := by decide +kernel
theorem dX11_why_17 : decode cX11_why 17 = .ok (.iload_n 2, 1) := by decide +kernel
theorem dX11_why_18 : decode cX11_why 18 = .ok (.ifCond .lt 13, 3) := by decide +kernel
theorem dX11_why_21 : decode cX11_why 21 = .ok (.iload_n 3, 1) := by decide +kernel
theorem dX11_why_22 : decode cX11_why 22 = .ok (.i2l, 1) := by decide +kernel
theorem dX11_why_23 : decode cX11_why 23 = .ok (.lconst 0, 1) := by decide +kernel
theorem dX11_why_24 : decode cX11_why 24 = .ok (.lconst 1, 1) := by decide +kernel
theorem dX11_why_25 : decode cX11_why 25 = .ok (.invokestatic 62, 3) := by decide +kernel
theorem dX11_why_28 : decode cX11_why 28 = .ok (.ifCond .ne 6, 3) := by decide +kernel
theorem dX11_why_31 : decode cX11_why 31 = .ok (.ldc 133, 2) := by decide +kernel
theorem dX11_why_33 : decode cX11_why 33 = .ok (.ireturn, 1) := by decide +kernel
theorem dX11_why_34 : decode cX11_why 34 = .ok (.aload_n 0, 1) := by decide +kernel
theorem dX11_why_35 : decode cX11_why 35 = .ok (.iload_n 1, 1) := by decide +kernel
theorem dX11_why_36 : decode cX11_why 36 = .ok (.aload_n 0, 1) := by decide +kernel
theorem dX11_why_37 : decode cX11_why 37 = .ok (.getfield 7, 3) := by decide +kernel
theorem dX11_why_40 : decode cX11_why 40 = .ok (.iconst 1, 1) := by decide +kernel
theorem dX11_why_41 : decode cX11_why 41 = .ok (.iaload, 1) := by decide +kernel
theorem dX11_why_42 : decode cX11_why 42 = .ok (.invokevirtual 311, 3) := by decide +kernel
theorem dX11_why_45 : decode cX11_why 45 = .ok (.iload_n 2, 1) := by decide +kernel
theorem dX11_why_46 : decode cX11_why 46 = .ok (.aload_n 0, 1) := by decide +kernel
theorem dX11_why_47 : decode cX11_why 47 = .ok (.getfield 261, 3) := by decide +kernel
theorem dX11_why_50 : decode cX11_why 50 = .ok (.if_icmp .lt 8, 3) := by decide +kernel
theorem dX11_why_53 : decode cX11_why 53 = .ok (.ldc 75, 2) := by decide +kernel
theorem dX11_why_55 : decode cX11_why 55 = .ok (.goto 22, 3) := by decide +kernel
theorem dX11_why_58 : decode cX11_why 58 = .ok (.iload_n 3, 1) := by decide +kernel
theorem dX11_why_59 : decode cX11_why 59 = .ok (.ifCond .ne 12, 3) := by decide +kernel
theorem dX11_why_62 : decode cX11_why 62 = .ok (.aload_n 0, 1) := by decide +kernel
theorem dX11_why_63 : decode cX11_why 63 = .ok (.getfield 41, 3) := by decide +kernel
theorem dX11_why_66 : decode cX11_why 66 = .ok (.iload_n 2, 1) := by decide +kernel
theorem dX11_why_67 : decode cX11_why 67 = .ok (.iaload, 1) := by decide +kernel
theorem dX11_why_68 : decode cX11_why 68 = .ok (.goto 9, 3) := by decide +kernel
theorem dX11_why_71 : decode cX11_why 71 = .ok (.aload_n 0, 1) := by decide +kernel
theorem dX11_why_72 : decode cX11_why 72 = .ok (.getfield 44, 3) := by decide +kernel
theorem dX11_why_75 : decode cX11_why 75 = .ok (.iload_n 2, 1) := by decide +kernel
theorem dX11_why_76 : decode cX11_why 76 = .ok (.iaload, 1) := by decide +kernel
theorem dX11_why_77 : decode cX11_why 77 = .ok (.ireturn, 1) := by decide +kernel
theorem dX11_writes_0 : decode cX11_writes 0 = .ok (.aload_n 0, 1) := by decide +kernel
theorem dX11_writes_1 : decode cX11_writes 1 = .ok (.getfield 47, 3) := by decide +kernel
theorem dX11_writes_4 : decode cX11_writes 4 = .ok (.aload_n 0, 1) := by decide +kernel
theorem dX11_writes_5 : decode cX11_writes 5 = .ok (.getfield 314, 3) := by decide +kernel
theorem dX11_writes_8 : decode cX11_writes 8 = .ok (.iload_n 1, 1) := by decide +kernel
theorem dX11_writes_9 : decode cX11_writes 9 = .ok (.iastore, 1) := by decide +kernel
theorem dX11_writes_10 : decode cX11_writes 10 = .ok (.aload_n 0, 1) := by decide +kernel
theorem dX11_writes_11 : decode cX11_writes 11 = .ok (.dup, 1) := by decide +kernel
theorem dX11_writes_12 : decode cX11_writes 12 = .ok (.getfield 314, 3) := by decide +kernel
theorem dX11_writes_15 : decode cX11_writes 15 = .ok (.iconst 1, 1) := by decide +kernel
theorem dX11_writes_16 : decode cX11_writes 16 = .ok (.iadd, 1) := by decide +kernel
theorem dX11_writes_17 : decode cX11_writes 17 = .ok (.putfield 314, 3) := by decide +kernel
theorem dX11_writes_20 : decode cX11_writes 20 = .ok (.return_, 1) := by decide +kernel
theorem dX11_writesNumber_0 : decode cX11_writesNumber 0 = .ok (.iload_n 1, 1) := by decide +kernel
theorem dX11_writesNumber_1 : decode cX11_writesNumber 1 = .ok (.bipush 9, 2) := by decide +kernel
theorem dX11_writesNumber_3 : decode cX11_writesNumber 3 = .ok (.if_icmp .le 14, 3) := by decide +kernel
theorem dX11_writesNumber_6 : decode cX11_writesNumber 6 = .ok (.aload_n 0, 1) := by decide +kernel
theorem dX11_writesNumber_7 : decode cX11_writesNumber 7 = .ok (.bipush 48, 2) := by decide +kernel
theorem dX11_writesNumber_9 : decode cX11_writesNumber 9 = .ok (.iload_n 1, 1) := by decide +kernel
theorem dX11_writesNumber_10 : decode cX11_writesNumber 10 = .ok (.bipush 10, 2) := by decide +kernel
theorem dX11_writesNumber_12 : decode cX11_writesNumber 12 = .ok (.idiv, 1) := by decide +kernel
theorem dX11_writesNumber_13 : decode cX11_writesNumber 13 = .ok (.iadd, 1) := by decide +kernel
theorem dX11_writesNumber_14 : decode cX11_writesNumber 14 = .ok (.invokevirtual 317, 3) := by decide +kernel
theorem dX11_writesNumber_17 : decode cX11_writesNumber 17 = .ok (.aload_n 0, 1) := by decide +kernel
theorem dX11_writesNumber_18 : decode cX11_writesNumber 18 = .ok (.bipush 48, 2) := by decide +kernel
theorem dX11_writesNumber_20 : decode cX11_writesNumber 20 = .ok (.iload_n 1, 1) := by decide +kernel
theorem dX11_writesNumber_21 : decode cX11_writesNumber 21 = .ok (.bipush 10, 2) := by decide +kernel
theorem dX11_writesNumber_23 : decode cX11_writesNumber 23 = .ok (.irem, 1) := by decide +kernel
theorem dX11_writesNumber_24 : decode cX11_writesNumber 24 = .ok (.iadd, 1) := by decide +kernel
theorem dX11_writesNumber_25 : decode cX11_writesNumber 25 = .ok (.invokevirtual 317, 3) := by decide +kernel
theorem dX11_writesNumber_28 : decode cX11_writesNumber 28 = .ok (.return_, 1) := by decide +kernel
theorem dX11_writesLog_0 : decode cX11_writesLog 0 = .ok (.aload_n 0, 1) := by decide +kernel
theorem dX11_writesLog_1 : decode cX11_writesLog 1 = .ok (.iconst 0, 1) := by decide +kernel
theorem dX11_writesLog_2 : decode cX11_writesLog 2 = .ok (.putfield 314, 3) := by decide +kernel
theorem dX11_writesLog_5 : decode cX11_writesLog 5 = .ok (.aload_n 0, 1) := by decide +kernel
theorem dX11_writesLog_6 : decode cX11_writesLog 6 = .ok (.getfield 261, 3) := by decide +kernel
theorem dX11_writesLog_9 : decode cX11_writesLog 9 = .ok (.ifCond .le 30, 3) := by decide +kernel
theorem dX11_writesLog_12 : decode cX11_writesLog 12 = .ok (.aload_n 0, 1) := by decide +kernel
theorem dX11_writesLog_13 : decode cX11_writesLog 13 = .ok (.getfield 44, 3) := by decide +kernel
theorem dX11_writesLog_16 : decode cX11_writesLog 16 = .ok (.iconst 0, 1) := by decide +kernel
theorem dX11_writesLog_17 : decode cX11_writesLog 17 = .ok (.iaload, 1) := by decide +kernel
theorem dX11_writesLog_18 : decode cX11_writesLog 18 = .ok (.aload_n 0, 1) := by decide +kernel
theorem dX11_writesLog_19 : decode cX11_writesLog 19 = .ok (.getfield 7, 3) := by decide +kernel
theorem dX11_writesLog_22 : decode cX11_writesLog 22 = .ok (.bipush 54, 2) := by decide +kernel
theorem dX11_writesLog_24 : decode cX11_writesLog 24 = .ok (.iaload, 1) := by decide +kernel
theorem dX11_writesLog_25 : decode cX11_writesLog 25 = .ok (.if_icmp .ge 14, 3) := by decide +kernel
theorem dX11_writesLog_28 : decode cX11_writesLog 28 = .ok (.aload_n 0, 1) := by decide +kernel
theorem dX11_writesLog_29 : decode cX11_writesLog 29 = .ok (.getfield 44, 3) := by decide +kernel
theorem dX11_writesLog_32 : decode cX11_writesLog 32 = .ok (.iconst 0, 1) := by decide +kernel
theorem dX11_writesLog_33 : decode cX11_writesLog 33 = .ok (.iaload, 1) := by decide +kernel
theorem dX11_writesLog_34 : decode cX11_writesLog 34 = .ok (.iconst 1, 1) := by decide +kernel
theorem dX11_writesLog_35 : decode cX11_writesLog 35 = .ok (.iadd, 1) := by decide +kernel
theorem dX11_writesLog_36 : decode cX11_writesLog 36 = .ok (.goto 10, 3) := by decide +kernel
theorem dX11_writesLog_39 : decode cX11_writesLog 39 = .ok (.aload_n 0, 1) := by decide +kernel
theorem dX11_writesLog_40 : decode cX11_writesLog 40 = .ok (.getfield 7, 3) := by decide +kernel
theorem dX11_writesLog_43 : decode cX11_writesLog 43 = .ok (.bipush 54, 2) := by decide +kernel
theorem dX11_writesLog_45 : decode cX11_writesLog 45 = .ok (.iaload, 1) := by decide +kernel
theorem dX11_writesLog_46 : decode cX11_writesLog 46 = .ok (.istore_n 1, 1) := by decide +kernel
theorem dX11_writesLog_47 : decode cX11_writesLog 47 = .ok (.iconst 0, 1) := by decide +kernel
theorem dX11_writesLog_48 : decode cX11_writesLog 48 = .ok (.istore_n 2, 1) := by decide +kernel
theorem dX11_writesLog_49 : decode cX11_writesLog 49 = .ok (.iload_n 2, 1) := by decide +kernel
theorem dX11_writesLog_50 : decode cX11_writesLog 50 = .ok (.iload_n 1, 1) := by decide +kernel
theorem dX11_writesLog_51 : decode cX11_writesLog 51 = .ok (.if_icmp .ge 65, 3) := by decide +kernel
theorem dX11_writesLog_54 : decode cX11_writesLog 54 = .ok (.aload_n 0, 1) := by decide +kernel
theorem dX11_writesLog_55 : decode cX11_writesLog 55 = .ok (.iload_n 2, 1) := by decide +kernel
theorem dX11_writesLog_56 : decode cX11_writesLog 56 = .ok (.iconst 0, 1) := by decide +kernel
theorem dX11_writesLog_57 : decode cX11_writesLog 57 = .ok (.invokevirtual 264, 3) := by decide +kernel
theorem dX11_writesLog_60 : decode cX11_writesLog 60 = .ok (.istore_n 3, 1) := by decide +kernel
theorem dX11_writesLog_61 : decode cX11_writesLog 61 = .ok (.iconst 0, 1) := by decide +kernel
theorem dX11_writesLog_62 : decode cX11_writesLog 62 = .ok (.istore 4, 2) := by decide +kernel
theorem dX11_writesLog_64 : decode cX11_writesLog 64 = .ok (.iload_n 3, 1) := by decide +kernel
theorem dX11_writesLog_65 : decode cX11_writesLog 65 = .ok (.iload 4, 2) := by decide +kernel
theorem dX11_writesLog_67 : decode cX11_writesLog 67 = .ok (.invokestatic 142, 3) := by decide +kernel
theorem dX11_writesLog_70 : decode cX11_writesLog 70 = .ok (.ldc 75, 2) := by decide +kernel
theorem dX11_writesLog_72 : decode cX11_writesLog 72 = .ok (.if_icmp .eq 22, 3) := by decide +kernel
theorem dX11_writesLog_75 : decode cX11_writesLog 75 = .ok (.aload_n 0, 1) := by decide +kernel
theorem dX11_writesLog_76 : decode cX11_writesLog 76 = .ok (.iload_n 3, 1) := by decide +kernel
theorem dX11_writesLog_77 : decode cX11_writesLog 77 = .ok (.iload 4, 2) := by decide +kernel
theorem dX11_writesLog_79 : decode cX11_writesLog 79 = .ok (.invokestatic 142, 3) := by decide +kernel
theorem dX11_writesLog_82 : decode cX11_writesLog 82 = .ok (.bipush 32, 2) := by decide +kernel
theorem dX11_writesLog_84 : decode cX11_writesLog 84 = .ok (.isub, 1) := by decide +kernel
theorem dX11_writesLog_85 : decode cX11_writesLog 85 = .ok (.invokevirtual 317, 3) := by decide +kernel
theorem dX11_writesLog_88 : decode cX11_writesLog 88 = .ok (.iinc 4 1, 3) := by decide +kernel
theorem dX11_writesLog_91 : decode cX11_writesLog 91 = .ok (.goto (-27), 3) := by decide +kernel
theorem dX11_writesLog_94 : decode cX11_writesLog 94 = .ok (.aload_n 0, 1) := by decide +kernel
theorem dX11_writesLog_95 : decode cX11_writesLog 95 = .ok (.aload_n 0, 1) := by decide +kernel
theorem dX11_writesLog_96 : decode cX11_writesLog 96 = .ok (.getfield 38, 3) := by decide +kernel
theorem dX11_writesLog_99 : decode cX11_writesLog 99 = .ok (.iload_n 2, 1) := by decide +kernel
theorem dX11_writesLog_100 : decode cX11_writesLog 100 = .ok (.iaload, 1) := by decide +kernel
theorem dX11_writesLog_101 : decode cX11_writesLog 101 = .ok (.invokevirtual 320, 3) := by decide +kernel
theorem dX11_writesLog_104 : decode cX11_writesLog 104 = .ok (.aload_n 0, 1) := by decide +kernel
theorem dX11_writesLog_105 : decode cX11_writesLog 105 = .ok (.bipush 59, 2) := by decide +kernel
theorem dX11_writesLog_107 : decode cX11_writesLog 107 = .ok (.invokevirtual 317, 3) := by decide +kernel
theorem dX11_writesLog_110 : decode cX11_writesLog 110 = .ok (.iinc 2 1, 3) := by decide +kernel
theorem dX11_writesLog_113 : decode cX11_writesLog 113 = .ok (.goto (-64), 3) := by decide +kernel
theorem dX11_writesLog_116 : decode cX11_writesLog 116 = .ok (.aload_n 0, 1) := by decide +kernel
theorem dX11_writesLog_117 : decode cX11_writesLog 117 = .ok (.aload_n 0, 1) := by decide +kernel
theorem dX11_writesLog_118 : decode cX11_writesLog 118 = .ok (.getfield 296, 3) := by decide +kernel
theorem dX11_writesLog_121 : decode cX11_writesLog 121 = .ok (.ifCond .eq 8, 3) := by decide +kernel
theorem dX11_writesLog_124 : decode cX11_writesLog 124 = .ok (.bipush 46, 2) := by decide +kernel
theorem dX11_writesLog_126 : decode cX11_writesLog 126 = .ok (.goto 5, 3) := by decide +kernel
theorem dX11_writesLog_129 : decode cX11_writesLog 129 = .ok (.bipush 33, 2) := by decide +kernel
theorem dX11_writesLog_131 : decode cX11_writesLog 131 = .ok (.invokevirtual 317, 3) := by decide +kernel
theorem dX11_writesLog_134 : decode cX11_writesLog 134 = .ok (.iconst 0, 1) := by decide +kernel
theorem dX11_writesLog_135 : decode cX11_writesLog 135 = .ok (.istore_n 2, 1) := by decide +kernel
theorem dX11_writesLog_136 : decode cX11_writesLog 136 = .ok (.iload_n 2, 1) := by decide +kernel
theorem dX11_writesLog_137 : decode cX11_writesLog 137 = .ok (.aload_n 0, 1) := by decide +kernel
theorem dX11_writesLog_138 : decode cX11_writesLog 138 = .ok (.getfield 261, 3) := by decide +kernel
theorem dX11_writesLog_141 : decode cX11_writesLog 141 = .ok (.if_icmp .ge 29, 3) := by decide +kernel
theorem dX11_writesLog_144 : decode cX11_writesLog 144 = .ok (.iload_n 2, 1) := by decide +kernel
theorem dX11_writesLog_145 : decode cX11_writesLog 145 = .ok (.ifCond .le 9, 3) := by decide +kernel
theorem dX11_writesLog_148 : decode cX11_writesLog 148 = .ok (.aload_n 0, 1) := by decide +kernel
theorem dX11_writesLog_149 : decode cX11_writesLog 149 = .ok (.bipush 44, 2) := by decide +kernel
theorem dX11_writesLog_151 : decode cX11_writesLog 151 = .ok (.invokevirtual 317, 3) := by decide +kernel
theorem dX11_writesLog_154 : decode cX11_writesLog 154 = .ok (.aload_n 0, 1) := by decide +kernel
theorem dX11_writesLog_155 : decode cX11_writesLog 155 = .ok (.aload_n 0, 1) := by decide +kernel
theorem dX11_writesLog_156 : decode cX11_writesLog 156 = .ok (.getfield 41, 3) := by decide +kernel
theorem dX11_writesLog_159 : decode cX11_writesLog 159 = .ok (.iload_n 2, 1) := by decide +kernel
theorem dX11_writesLog_160 : decode cX11_writesLog 160 = .ok (.iaload, 1) := by decide +kernel
theorem dX11_writesLog_161 : decode cX11_writesLog 161 = .ok (.invokevirtual 320, 3) := by decide +kernel
theorem dX11_writesLog_164 : decode cX11_writesLog 164 = .ok (.iinc 2 1, 3) := by decide +kernel
theorem dX11_writesLog_167 : decode cX11_writesLog 167 = .ok (.goto (-31), 3) := by decide +kernel
theorem dX11_writesLog_170 : decode cX11_writesLog 170 = .ok (.return_, 1) := by decide +kernel
theorem dX11_sign_0 : decode cX11_sign 0 = .ok (.aload_n 0, 1) := by decide +kernel
theorem dX11_sign_1 : decode cX11_sign 1 = .ok (.invokevirtual 169, 3) := by decide +kernel
theorem dX11_sign_4 : decode cX11_sign 4 = .ok (.ifCond .ne 6, 3) := by decide +kernel
theorem dX11_sign_7 : decode cX11_sign 7 = .ok (.ldc 146, 2) := by decide +kernel
theorem dX11_sign_9 : decode cX11_sign 9 = .ok (.ireturn, 1) := by decide +kernel
theorem dX11_sign_10 : decode cX11_sign 10 = .ok (.iload_n 1, 1) := by decide +kernel
theorem dX11_sign_11 : decode cX11_sign 11 = .ok (.invokestatic 308, 3) := by decide +kernel
theorem dX11_sign_14 : decode cX11_sign 14 = .ok (.ifCond .eq 7, 3) := by decide +kernel
theorem dX11_sign_17 : decode cX11_sign 17 = .ok (.iload_n 2, 1) := by decide +kernel
theorem dX11_sign_18 : decode cX11_sign 18 = .ok (.ifCond .ge 6, 3) := by decide +kernel
theorem dX11_sign_21 : decode cX11_sign 21 = .ok (.ldc 133, 2) := by decide +kernel
theorem dX11_sign_23 : decode cX11_sign 23 = .ok (.ireturn, 1) := by decide +kernel
theorem dX11_sign_24 : decode cX11_sign 24 = .ok (.aload_n 0, 1) := by decide +kernel
theorem dX11_sign_25 : decode cX11_sign 25 = .ok (.iload_n 1, 1) := by decide +kernel
theorem dX11_sign_26 : decode cX11_sign 26 = .ok (.aload_n 0, 1) := by decide +kernel
theorem dX11_sign_27 : decode cX11_sign 27 = .ok (.getfield 7, 3) := by decide +kernel
theorem dX11_sign_30 : decode cX11_sign 30 = .ok (.iconst 1, 1) := by decide +kernel
theorem dX11_sign_31 : decode cX11_sign 31 = .ok (.iaload, 1) := by decide +kernel
theorem dX11_sign_32 : decode cX11_sign 32 = .ok (.invokevirtual 311, 3) := by decide +kernel
theorem dX11_sign_35 : decode cX11_sign 35 = .ok (.aload_n 0, 1) := by decide +kernel
theorem dX11_sign_36 : decode cX11_sign 36 = .ok (.invokevirtual 323, 3) := by decide +kernel
theorem dX11_sign_39 : decode cX11_sign 39 = .ok (.iload_n 2, 1) := by decide +kernel
theorem dX11_sign_40 : decode cX11_sign 40 = .ok (.aload_n 0, 1) := by decide +kernel
theorem dX11_sign_41 : decode cX11_sign 41 = .ok (.getfield 314, 3) := by decide +kernel
theorem dX11_sign_44 : decode cX11_sign 44 = .ok (.if_icmp .ge 12, 3) := by decide +kernel
theorem dX11_sign_47 : decode cX11_sign 47 = .ok (.aload_n 0, 1) := by decide +kernel
theorem dX11_sign_48 : decode cX11_sign 48 = .ok (.getfield 47, 3) := by decide +kernel
theorem dX11_sign_51 : decode cX11_sign 51 = .ok (.iload_n 2, 1) := by decide +kernel
theorem dX11_sign_52 : decode cX11_sign 52 = .ok (.iaload, 1) := by decide +kernel
theorem dX11_sign_53 : decode cX11_sign 53 = .ok (.goto 5, 3) := by decide +kernel
theorem dX11_sign_56 : decode cX11_sign 56 = .ok (.ldc 75, 2) := by decide +kernel
theorem dX11_sign_58 : decode cX11_sign 58 = .ok (.ireturn, 1) := by decide +kernel
theorem dX11_arrivesFrom_0 : decode cX11_arrivesFrom 0 = .ok (.aload_n 0, 1) := by decide +kernel
theorem dX11_arrivesFrom_1 : decode cX11_arrivesFrom 1 = .ok (.iload_n 1, 1) := by decide +kernel
theorem dX11_arrivesFrom_2 : decode cX11_arrivesFrom 2 = .ok (.iload_n 2, 1) := by decide +kernel
theorem dX11_arrivesFrom_3 : decode cX11_arrivesFrom 3 = .ok (.invokevirtual 311, 3) := by decide +kernel
theorem dX11_arrivesFrom_6 : decode cX11_arrivesFrom 6 = .ok (.aload_n 0, 1) := by decide +kernel
theorem dX11_arrivesFrom_7 : decode cX11_arrivesFrom 7 = .ok (.getfield 296, 3) := by decide +kernel
theorem dX11_arrivesFrom_10 : decode cX11_arrivesFrom 10 = .ok (.ireturn, 1) := by decide +kernel
theorem dX11_times_0 : decode cX11_times 0 = .ok (.aload_n 0, 1) := by decide +kernel
theorem dX11_times_1 : decode cX11_times 1 = .ok (.invokevirtual 169, 3) := by decide +kernel
theorem dX11_times_4 : decode cX11_times 4 = .ok (.ifCond .ne 6, 3) := by decide +kernel
theorem dX11_times_7 : decode cX11_times 7 = .ok (.ldc 146, 2) := by decide +kernel
theorem dX11_times_9 : decode cX11_times 9 = .ok (.ireturn, 1) := by decide +kernel
theorem dX11_times_10 : decode cX11_times 10 = .ok (.iconst 0, 1) := by decide +kernel
theorem dX11_times_11 : decode cX11_times 11 = .ok (.istore_n 1, 1) := by decide +kernel
theorem dX11_times_12 : decode cX11_times 12 = .ok (.iconst 0, 1) := by decide +kernel
theorem dX11_times_13 : decode cX11_times 13 = .ok (.istore_n 2, 1) := by decide +kernel
theorem dX11_times_14 : decode cX11_times 14 = .ok (.iload_n 2, 1) := by decide +kernel
theorem dX11_times_15 : decode cX11_times 15 = .ok (.bipush 30, 2) := by decide +kernel
theorem dX11_times_17 : decode cX11_times 17 = .ok (.if_icmp .ge 33, 3) := by decide +kernel
theorem dX11_times_20 : decode cX11_times 20 = .ok (.iload_n 1, 1) := by decide +kernel
theorem dX11_times_21 : decode cX11_times 21 = .ok (.aload_n 0, 1) := by decide +kernel
theorem dX11_times_22 : decode cX11_times 22 = .ok (.iload_n 2, 1) := by decide +kernel
theorem dX11_times_23 : decode cX11_times 23 = .ok (.aload_n 0, 1) := by decide +kernel
theorem dX11_times_24 : decode cX11_times 24 = .ok (.getfield 7, 3) := by decide +kernel
theorem dX11_times_27 : decode cX11_times 27 = .ok (.iconst 1, 1) := by decide +kernel
theorem dX11_times_28 : decode cX11_times 28 = .ok (.iaload, 1) := by decide +kernel
theorem dX11_times_29 : decode cX11_times 29 = .ok (.invokevirtual 326, 3) := by decide +kernel
theorem dX11_times_32 : decode cX11_times 32 = .ok (.ifCond .eq 9, 3) := by decide +kernel
theorem dX11_times_35 : decode cX11_times 35 = .ok (.iconst 1, 1) := by decide +kernel
theorem dX11_times_36 : decode cX11_times 36 = .ok (.iload_n 2, 1) := by decide +kernel
theorem dX11_times_37 : decode cX11_times 37 = .ok (.ishl, 1) := by decide +kernel
theorem dX11_times_38 : decode cX11_times 38 = .ok (.goto 4, 3) := by decide +kernel
theorem dX11_times_41 : decode cX11_times 41 = .ok (.iconst 0, 1) := by decide +kernel
theorem dX11_times_42 : decode cX11_times 42 = .ok (.ior, 1) := by decide +kernel
theorem dX11_times_43 : decode cX11_times 43 = .ok (.istore_n 1, 1) := by decide +kernel
theorem dX11_times_44 : decode cX11_times 44 = .ok (.iinc 2 1, 3) := by decide +kernel
theorem dX11_times_47 : decode cX11_times 47 = .ok (.goto (-33), 3) := by decide +kernel
theorem dX11_times_50 : decode cX11_times 50 = .ok (.iload_n 1, 1) := by decide +kernel
theorem dX11_times_51 : decode cX11_times 51 = .ok (.ireturn, 1) := by decide +kernel
theorem dX11_deepest_0 : decode cX11_deepest 0 = .ok (.aload_n 0, 1) := by decide +kernel
theorem dX11_deepest_1 : decode cX11_deepest 1 = .ok (.invokevirtual 169, 3) := by decide +kernel
theorem dX11_deepest_4 : decode cX11_deepest 4 = .ok (.ifCond .ne 6, 3) := by decide +kernel
theorem dX11_deepest_7 : decode cX11_deepest 7 = .ok (.ldc 146, 2) := by decide +kernel
theorem dX11_deepest_9 : decode cX11_deepest 9 = .ok (.ireturn, 1) := by decide +kernel
theorem dX11_deepest_10 : decode cX11_deepest 10 = .ok (.iload_n 1, 1) := by decide +kernel
theorem dX11_deepest_11 : decode cX11_deepest 11 = .ok (.invokestatic 308, 3) := by decide +kernel
theorem dX11_deepest_14 : decode cX11_deepest 14 = .ok (.ifCond .ne 6, 3) := by decide +kernel
theorem dX11_deepest_17 : decode cX11_deepest 17 = .ok (.ldc 133, 2) := by decide +kernel
theorem dX11_deepest_19 : decode cX11_deepest 19 = .ok (.ireturn, 1) := by decide +kernel
theorem dX11_deepest_20 : decode cX11_deepest 20 = .ok (.ldc 75, 2) := by decide +kernel
theorem dX11_deepest_22 : decode cX11_deepest 22 = .ok (.istore_n 2, 1) := by decide +kernel
theorem dX11_deepest_23 : decode cX11_deepest 23 = .ok (.iconst 0, 1) := by decide +kernel
theorem dX11_deepest_24 : decode cX11_deepest 24 = .ok (.istore_n 3, 1) := by decide +kernel
theorem dX11_deepest_25 : decode cX11_deepest 25 = .ok (.iload_n 3, 1) := by decide +kernel
theorem dX11_deepest_26 : decode cX11_deepest 26 = .ok (.bipush 21, 2) := by decide +kernel
theorem dX11_deepest_28 : decode cX11_deepest 28 = .ok (.if_icmp .ge 24, 3) := by decide +kernel
theorem dX11_deepest_31 : decode cX11_deepest 31 = .ok (.aload_n 0, 1) := by decide +kernel
theorem dX11_deepest_32 : decode cX11_deepest 32 = .ok (.iload_n 1, 1) := by decide +kernel
theorem dX11_deepest_33 : decode cX11_deepest 33 = .ok (.iload_n 3, 1) := by decide +kernel
theorem dX11_deepest_34 : decode cX11_deepest 34 = .ok (.invokevirtual 326, 3) := by decide +kernel
theorem dX11_deepest_37 : decode cX11_deepest 37 = .ok (.ifCond .eq 7, 3) := by decide +kernel
theorem dX11_deepest_40 : decode cX11_deepest 40 = .ok (.iload_n 3, 1) := by decide +kernel
theorem dX11_deepest_41 : decode cX11_deepest 41 = .ok (.goto 4, 3) := by decide +kernel
theorem dX11_deepest_44 : decode cX11_deepest 44 = .ok (.iload_n 2, 1) := by decide +kernel
theorem dX11_deepest_45 : decode cX11_deepest 45 = .ok (.istore_n 2, 1) := by decide +kernel
theorem dX11_deepest_46 : decode cX11_deepest 46 = .ok (.iinc 3 1, 3) := by decide +kernel
theorem dX11_deepest_49 : decode cX11_deepest 49 = .ok (.goto (-24), 3) := by decide +kernel
theorem dX11_deepest_52 : decode cX11_deepest 52 = .ok (.iload_n 2, 1) := by decide +kernel
theorem dX11_deepest_53 : decode cX11_deepest 53 = .ok (.ireturn, 1) := by decide +kernel
theorem dX11_courses_0 : decode cX11_courses 0 = .ok (.aload_n 0, 1) := by decide +kernel
theorem dX11_courses_1 : decode cX11_courses 1 = .ok (.iload_n 1, 1) := by decide +kernel
theorem dX11_courses_2 : decode cX11_courses 2 = .ok (.invokevirtual 174, 3) := by decide +kernel
theorem dX11_courses_5 : decode cX11_courses 5 = .ok (.ifCond .eq 10, 3) := by decide +kernel
theorem dX11_courses_8 : decode cX11_courses 8 = .ok (.iload_n 2, 1) := by decide +kernel
theorem dX11_courses_9 : decode cX11_courses 9 = .ok (.invokestatic 308, 3) := by decide +kernel
theorem dX11_courses_12 : decode cX11_courses 12 = .ok (.ifCond .ne 6, 3) := by decide +kernel
theorem dX11_courses_15 : decode cX11_courses 15 = .ok (.ldc 133, 2) := by decide +kernel
theorem dX11_courses_17 : decode cX11_courses 17 = .ok (.ireturn, 1) := by decide +kernel
theorem dX11_courses_18 : decode cX11_courses 18 = .ok (.aload_n 0, 1) := by decide +kernel
theorem dX11_courses_19 : decode cX11_courses 19 = .ok (.getfield 7, 3) := by decide +kernel
theorem dX11_courses_22 : decode cX11_courses 22 = .ok (.bipush 55, 2) := by decide +kernel
theorem dX11_courses_24 : decode cX11_courses 24 = .ok (.iconst 4, 1) := by decide +kernel
theorem dX11_courses_25 : decode cX11_courses 25 = .ok (.iload_n 1, 1) := by decide +kernel
theorem dX11_courses_26 : decode cX11_courses 26 = .ok (.imul, 1) := by decide +kernel
theorem dX11_courses_27 : decode cX11_courses 27 = .ok (.iadd, 1) := by decide +kernel
theorem dX11_courses_28 : decode cX11_courses 28 = .ok (.iaload, 1) := by decide +kernel
theorem dX11_courses_29 : decode cX11_courses 29 = .ok (.istore_n 3, 1) := by decide +kernel
theorem dX11_courses_30 : decode cX11_courses 30 = .ok (.iconst 0, 1) := by decide +kernel
theorem dX11_courses_31 : decode cX11_courses 31 = .ok (.istore 4, 2) := by decide +kernel
theorem dX11_courses_33 : decode cX11_courses 33 = .ok (.iconst 0, 1) := by decide +kernel
theorem dX11_courses_34 : decode cX11_courses 34 = .ok (.istore 5, 2) := by decide +kernel
theorem dX11_courses_36 : decode cX11_courses 36 = .ok (.iload 5, 2) := by decide +kernel
theorem dX11_courses_38 : decode cX11_courses 38 = .ok (.bipush 16, 2) := by decide +kernel
theorem dX11_courses_40 : decode cX11_courses 40 = .ok (.if_icmp .ge 49, 3) := by decide +kernel
theorem dX11_courses_43 : decode cX11_courses 43 = .ok (.aload_n 0, 1) := by decide +kernel
theorem dX11_courses_44 : decode cX11_courses 44 = .ok (.getfield 7, 3) := by decide +kernel
theorem dX11_courses_47 : decode cX11_courses 47 = .ok (.bipush 55, 2) := by decide +kernel
theorem dX11_courses_49 : decode cX11_courses 49 = .ok (.iconst 4, 1) := by decide +kernel
theorem dX11_courses_50 : decode cX11_courses 50 = .ok (.iload_n 1, 1) := by decide +kernel
theorem dX11_courses_51 : decode cX11_courses 51 = .ok (.imul, 1) := by decide +kernel
theorem dX11_courses_52 : decode cX11_courses 52 = .ok (.iadd, 1) := by decide +kernel
theorem dX11_courses_53 : decode cX11_courses 53 = .ok (.iload 5, 2) := by decide +kernel
theorem dX11_courses_55 : decode cX11_courses 55 = .ok (.iastore, 1) := by decide +kernel
theorem dX11_courses_56 : decode cX11_courses 56 = .ok (.iload 4, 2) := by decide +kernel
theorem dX11_courses_58 : decode cX11_courses 58 = .ok (.aload_n 0, 1) := by decide +kernel
theorem dX11_courses_59 : decode cX11_courses 59 = .ok (.iload_n 2, 1) := by decide +kernel
theorem dX11_courses_60 : decode cX11_courses 60 = .ok (.aload_n 0, 1) := by decide +kernel
theorem dX11_courses_61 : decode cX11_courses 61 = .ok (.getfield 7, 3) := by decide +kernel
theorem dX11_courses_64 : decode cX11_courses 64 = .ok (.iconst 1, 1) := by decide +kernel
theorem dX11_courses_65 : decode cX11_courses 65 = .ok (.iaload, 1) := by decide +kernel
theorem dX11_courses_66 : decode cX11_courses 66 = .ok (.invokevirtual 326, 3) := by decide +kernel
theorem dX11_courses_69 : decode cX11_courses 69 = .ok (.ifCond .eq 10, 3) := by decide +kernel
theorem dX11_courses_72 : decode cX11_courses 72 = .ok (.iconst 1, 1) := by decide +kernel
theorem dX11_courses_73 : decode cX11_courses 73 = .ok (.iload 5, 2) := by decide +kernel
theorem dX11_courses_75 : decode cX11_courses 75 = .ok (.ishl, 1) := by decide +kernel
theorem dX11_courses_76 : decode cX11_courses 76 = .ok (.goto 4, 3) := by decide +kernel
theorem dX11_courses_79 : decode cX11_courses 79 = .ok (.iconst 0, 1) := by decide +kernel
theorem dX11_courses_80 : decode cX11_courses 80 = .ok (.ior, 1) := by decide +kernel
theorem dX11_courses_81 : decode cX11_courses 81 = .ok (.istore 4, 2) := by decide +kernel
theorem dX11_courses_83 : decode cX11_courses 83 = .ok (.iinc 5 1, 3) := by decide +kernel
theorem dX11_courses_86 : decode cX11_courses 86 = .ok (.goto (-50), 3) := by decide +kernel
theorem dX11_courses_89 : decode cX11_courses 89 = .ok (.aload_n 0, 1) := by decide +kernel
theorem dX11_courses_90 : decode cX11_courses 90 = .ok (.getfield 7, 3) := by decide +kernel
theorem dX11_courses_93 : decode cX11_courses 93 = .ok (.bipush 55, 2) := by decide +kernel
theorem dX11_courses_95 : decode cX11_courses 95 = .ok (.iconst 4, 1) := by decide +kernel
theorem dX11_courses_96 : decode cX11_courses 96 = .ok (.iload_n 1, 1) := by decide +kernel
theorem dX11_courses_97 : decode cX11_courses 97 = .ok (.imul, 1) := by decide +kernel
theorem dX11_courses_98 : decode cX11_courses 98 = .ok (.iadd, 1) := by decide +kernel
theorem dX11_courses_99 : decode cX11_courses 99 = .ok (.iload_n 3, 1) := by decide +kernel
theorem dX11_courses_100 : decode cX11_courses 100 = .ok (.iastore, 1) := by decide +kernel
theorem dX11_courses_101 : decode cX11_courses 101 = .ok (.iload 4, 2) := by decide +kernel
theorem dX11_courses_103 : decode cX11_courses 103 = .ok (.ireturn, 1) := by decide +kernel
theorem dX11_needed_0 : decode cX11_needed 0 = .ok (.aload_n 0, 1) := by decide +kernel
theorem dX11_needed_1 : decode cX11_needed 1 = .ok (.invokevirtual 169, 3) := by decide +kernel
theorem dX11_needed_4 : decode cX11_needed 4 = .ok (.ifCond .ne 6, 3) := by decide +kernel
theorem dX11_needed_7 : decode cX11_needed 7 = .ok (.ldc 146, 2) := by decide +kernel
theorem dX11_needed_9 : decode cX11_needed 9 = .ok (.ireturn, 1) := by decide +kernel
theorem dX11_needed_10 : decode cX11_needed 10 = .ok (.iload_n 1, 1) := by decide +kernel
theorem dX11_needed_11 : decode cX11_needed 11 = .ok (.invokestatic 308, 3) := by decide +kernel
theorem dX11_needed_14 : decode cX11_needed 14 = .ok (.ifCond .ne 6, 3) := by decide +kernel
theorem dX11_needed_17 : decode cX11_needed 17 = .ok (.ldc 133, 2) := by decide +kernel
theorem dX11_needed_19 : decode cX11_needed 19 = .ok (.ireturn, 1) := by decide +kernel
theorem dX11_needed_20 : decode cX11_needed 20 = .ok (.aload_n 0, 1) := by decide +kernel
theorem dX11_needed_21 : decode cX11_needed 21 = .ok (.iload_n 1, 1) := by decide +kernel
theorem dX11_needed_22 : decode cX11_needed 22 = .ok (.aload_n 0, 1) := by decide +kernel
theorem dX11_needed_23 : decode cX11_needed 23 = .ok (.getfield 7, 3) := by decide +kernel
theorem dX11_needed_26 : decode cX11_needed 26 = .ok (.iconst 1, 1) := by decide +kernel
theorem dX11_needed_27 : decode cX11_needed 27 = .ok (.iaload, 1) := by decide +kernel
theorem dX11_needed_28 : decode cX11_needed 28 = .ok (.invokevirtual 311, 3) := by decide +kernel
theorem dX11_needed_31 : decode cX11_needed 31 = .ok (.aload_n 0, 1) := by decide +kernel
theorem dX11_needed_32 : decode cX11_needed 32 = .ok (.getfield 274, 3) := by decide +kernel
theorem dX11_needed_35 : decode cX11_needed 35 = .ok (.istore_n 2, 1) := by decide +kernel
theorem dX11_needed_36 : decode cX11_needed 36 = .ok (.aload_n 0, 1) := by decide +kernel
theorem dX11_needed_37 : decode cX11_needed 37 = .ok (.getfield 29, 3) := by decide +kernel
theorem dX11_needed_40 : decode cX11_needed 40 = .ok (.aload_n 0, 1) := by decide +kernel
theorem dX11_needed_41 : decode cX11_needed 41 = .ok (.getfield 274, 3) := by decide +kernel
theorem dX11_needed_44 : decode cX11_needed 44 = .ok (.iaload, 1) := by decide +kernel
theorem dX11_needed_45 : decode cX11_needed 45 = .ok (.istore_n 3, 1) := by decide +kernel
theorem dX11_needed_46 : decode cX11_needed 46 = .ok (.aload_n 0, 1) := by decide +kernel
theorem dX11_needed_47 : decode cX11_needed 47 = .ok (.getfield 32, 3) := by decide +kernel
theorem dX11_needed_50 : decode cX11_needed 50 = .ok (.aload_n 0, 1) := by decide +kernel
theorem dX11_needed_51 : decode cX11_needed 51 = .ok (.getfield 274, 3) := by decide +kernel
theorem dX11_needed_54 : decode cX11_needed 54 = .ok (.iaload, 1) := by decide +kernel
theorem dX11_needed_55 : decode cX11_needed 55 = .ok (.istore 4, 2) := by decide +kernel
theorem dX11_needed_57 : decode cX11_needed 57 = .ok (.aload_n 0, 1) := by decide +kernel
theorem dX11_needed_58 : decode cX11_needed 58 = .ok (.getfield 296, 3) := by decide +kernel
theorem dX11_needed_61 : decode cX11_needed 61 = .ok (.istore 5, 2) := by decide +kernel
theorem dX11_needed_63 : decode cX11_needed 63 = .ok (.iconst 0, 1) := by decide +kernel
theorem dX11_needed_64 : decode cX11_needed 64 = .ok (.istore 6, 2) := by decide +kernel
theorem dX11_needed_66 : decode cX11_needed 66 = .ok (.iconst 0, 1) := by decide +kernel
theorem dX11_needed_67 : decode cX11_needed 67 = .ok (.istore 7, 2) := by decide +kernel
theorem dX11_needed_69 : decode cX11_needed 69 = .ok (.iload 7, 2) := by decide +kernel
theorem dX11_needed_71 : decode cX11_needed 71 = .ok (.aload_n 0, 1) := by decide +kernel
theorem dX11_needed_72 : decode cX11_needed 72 = .ok (.getfield 7, 3) := by decide +kernel
theorem dX11_needed_75 : decode cX11_needed 75 = .ok (.bipush 13, 2) := by decide +kernel
theorem dX11_needed_77 : decode cX11_needed 77 = .ok (.iaload, 1) := by decide +kernel
theorem dX11_needed_78 : decode cX11_needed 78 = .ok (.if_icmp .ge 98, 3) := by decide +kernel
theorem dX11_needed_81 : decode cX11_needed 81 = .ok (.aload_n 0, 1) := by decide +kernel
theorem dX11_needed_82 : decode cX11_needed 82 = .ok (.aload_n 0, 1) := by decide +kernel
theorem dX11_needed_83 : decode cX11_needed 83 = .ok (.iload 7, 2) := by decide +kernel
theorem dX11_needed_85 : decode cX11_needed 85 = .ok (.invokevirtual 235, 3) := by decide +kernel
theorem dX11_needed_88 : decode cX11_needed 88 = .ok (.ifCond .eq 10, 3) := by decide +kernel
theorem dX11_needed_91 : decode cX11_needed 91 = .ok (.iconst 1, 1) := by decide +kernel
theorem dX11_needed_92 : decode cX11_needed 92 = .ok (.iload 7, 2) := by decide +kernel
theorem dX11_needed_94 : decode cX11_needed 94 = .ok (.ishl, 1) := by decide +kernel
theorem dX11_needed_95 : decode cX11_needed 95 = .ok (.goto 4, 3) := by decide +kernel
theorem dX11_needed_98 : decode cX11_needed 98 = .ok (.iconst 0, 1) := by decide +kernel
theorem dX11_needed_99 : decode cX11_needed 99 = .ok (.putfield 211, 3) := by decide +kernel
theorem dX11_needed_102 : decode cX11_needed 102 = .ok (.aload_n 0, 1) := by decide +kernel
theorem dX11_needed_103 : decode cX11_needed 103 = .ok (.iload_n 1, 1) := by decide +kernel
theorem dX11_needed_104 : decode cX11_needed 104 = .ok (.aload_n 0, 1) := by decide +kernel
theorem dX11_needed_105 : decode cX11_needed 105 = .ok (.getfield 7, 3) := by decide +kernel
theorem dX11_needed_108 : decode cX11_needed 108 = .ok (.iconst 1, 1) := by decide +kernel
theorem dX11_needed_109 : decode cX11_needed 109 = .ok (.iaload, 1) := by decide +kernel
theorem dX11_needed_110 : decode cX11_needed 110 = .ok (.invokevirtual 311, 3) := by decide +kernel
theorem dX11_needed_113 : decode cX11_needed 113 = .ok (.iload 6, 2) := by decide +kernel
theorem dX11_needed_115 : decode cX11_needed 115 = .ok (.aload_n 0, 1) := by decide +kernel
theorem dX11_needed_116 : decode cX11_needed 116 = .ok (.getfield 296, 3) := by decide +kernel
theorem dX11_needed_119 : decode cX11_needed 119 = .ok (.iload 5, 2) := by decide +kernel
theorem dX11_needed_121 : decode cX11_needed 121 = .ok (.if_icmp .ne 38, 3) := by decide +kernel
theorem dX11_needed_124 : decode cX11_needed 124 = .ok (.aload_n 0, 1) := by decide +kernel
theorem dX11_needed_125 : decode cX11_needed 125 = .ok (.getfield 274, 3) := by decide +kernel
theorem dX11_needed_128 : decode cX11_needed 128 = .ok (.iload_n 2, 1) := by decide +kernel
theorem dX11_needed_129 : decode cX11_needed 129 = .ok (.if_icmp .ne 30, 3) := by decide +kernel
theorem dX11_needed_132 : decode cX11_needed 132 = .ok (.aload_n 0, 1) := by decide +kernel
theorem dX11_needed_133 : decode cX11_needed 133 = .ok (.getfield 29, 3) := by decide +kernel
theorem dX11_needed_136 : decode cX11_needed 136 = .ok (.aload_n 0, 1) := by decide +kernel
theorem dX11_needed_137 : decode cX11_needed 137 = .ok (.getfield 274, 3) := by decide +kernel
theorem dX11_needed_140 : decode cX11_needed 140 = .ok (.iaload, 1) := by decide +kernel
theorem dX11_needed_141 : decode cX11_needed 141 = .ok (.iload_n 3, 1) := by decide +kernel
theorem dX11_needed_142 : decode cX11_needed 142 = .ok (.if_icmp .ne 17, 3) := by decide +kernel
theorem dX11_needed_145 : decode cX11_needed 145 = .ok (.aload_n 0, 1) := by decide +kernel
theorem dX11_needed_146 : decode cX11_needed 146 = .ok (.getfield 32, 3) := by decide +kernel
theorem dX11_needed_149 : decode cX11_needed 149 = .ok (.aload_n 0, 1) := by decide +kernel
theorem dX11_needed_150 : decode cX11_needed 150 = .ok (.getfield 274, 3) := by decide +kernel
theorem dX11_needed_153 : decode cX11_needed 153 = .ok (.iaload, 1) := by decide +kernel
theorem dX11_needed_154 : decode cX11_needed 154 = .ok (.iload 4, 2) := by decide +kernel
theorem dX11_needed_156 : decode cX11_needed 156 = .ok (.if_icmp .eq 10, 3) := by decide +kernel
theorem dX11_needed_159 : decode cX11_needed 159 = .ok (.iconst 1, 1) := by decide +kernel
theorem dX11_needed_160 : decode cX11_needed 160 = .ok (.iload 7, 2) := by decide +kernel
theorem dX11_needed_162 : decode cX11_needed 162 = .ok (.ishl, 1) := by decide +kernel
theorem dX11_needed_163 : decode cX11_needed 163 = .ok (.goto 4, 3) := by decide +kernel
theorem dX11_needed_166 : decode cX11_needed 166 = .ok (.iconst 0, 1) := by decide +kernel
theorem dX11_needed_167 : decode cX11_needed 167 = .ok (.ior, 1) := by decide +kernel
theorem dX11_needed_168 : decode cX11_needed 168 = .ok (.istore 6, 2) := by decide +kernel
theorem dX11_needed_170 : decode cX11_needed 170 = .ok (.iinc 7 1, 3) := by decide +kernel
theorem dX11_needed_173 : decode cX11_needed 173 = .ok (.goto (-104), 3) := by decide +kernel
theorem dX11_needed_176 : decode cX11_needed 176 = .ok (.aload_n 0, 1) := by decide +kernel
theorem dX11_needed_177 : decode cX11_needed 177 = .ok (.iconst 0, 1) := by decide +kernel
theorem dX11_needed_178 : decode cX11_needed 178 = .ok (.putfield 211, 3) := by decide +kernel
theorem dX11_needed_181 : decode cX11_needed 181 = .ok (.iload 6, 2) := by decide +kernel
theorem dX11_needed_183 : decode cX11_needed 183 = .ok (.ireturn, 1) := by decide +kernel
theorem dX11_near_0 : decode cX11_near 0 = .ok (.aload_n 0, 1) := by decide +kernel
theorem dX11_near_1 : decode cX11_near 1 = .ok (.iload_n 1, 1) := by decide +kernel
theorem dX11_near_2 : decode cX11_near 2 = .ok (.invokevirtual 150, 3) := by decide +kernel
theorem dX11_near_5 : decode cX11_near 5 = .ok (.ifCond .eq 10, 3) := by decide +kernel
theorem dX11_near_8 : decode cX11_near 8 = .ok (.iload_n 2, 1) := by decide +kernel
theorem dX11_near_9 : decode cX11_near 9 = .ok (.invokestatic 308, 3) := by decide +kernel
theorem dX11_near_12 : decode cX11_near 12 = .ok (.ifCond .ne 6, 3) := by decide +kernel
theorem dX11_near_15 : decode cX11_near 15 = .ok (.ldc 133, 2) := by decide +kernel
theorem dX11_near_17 : decode cX11_near 17 = .ok (.ireturn, 1) := by decide +kernel
theorem dX11_near_18 : decode cX11_near 18 = .ok (.aload_n 0, 1) := by decide +kernel
theorem dX11_near_19 : decode cX11_near 19 = .ok (.iload_n 2, 1) := by decide +kernel
theorem dX11_near_20 : decode cX11_near 20 = .ok (.aload_n 0, 1) := by decide +kernel
theorem dX11_near_21 : decode cX11_near 21 = .ok (.getfield 7, 3) := by decide +kernel
theorem dX11_near_24 : decode cX11_near 24 = .ok (.iconst 1, 1) := by decide +kernel
theorem dX11_near_25 : decode cX11_near 25 = .ok (.iaload, 1) := by decide +kernel
theorem dX11_near_26 : decode cX11_near 26 = .ok (.invokevirtual 311, 3) := by decide +kernel
theorem dX11_near_29 : decode cX11_near 29 = .ok (.aload_n 0, 1) := by decide +kernel
theorem dX11_near_30 : decode cX11_near 30 = .ok (.getfield 29, 3) := by decide +kernel
theorem dX11_near_33 : decode cX11_near 33 = .ok (.iconst 0, 1) := by decide +kernel
theorem dX11_near_34 : decode cX11_near 34 = .ok (.iaload, 1) := by decide +kernel
theorem dX11_near_35 : decode cX11_near 35 = .ok (.aload_n 0, 1) := by decide +kernel
theorem dX11_near_36 : decode cX11_near 36 = .ok (.iload_n 1, 1) := by decide +kernel
theorem dX11_near_37 : decode cX11_near 37 = .ok (.iconst 1, 1) := by decide +kernel
theorem dX11_near_38 : decode cX11_near 38 = .ok (.invokevirtual 166, 3) := by decide +kernel
theorem dX11_near_41 : decode cX11_near 41 = .ok (.isub, 1) := by decide +kernel
theorem dX11_near_42 : decode cX11_near 42 = .ok (.aload_n 0, 1) := by decide +kernel
theorem dX11_near_43 : decode cX11_near 43 = .ok (.getfield 32, 3) := by decide +kernel
theorem dX11_near_46 : decode cX11_near 46 = .ok (.iconst 0, 1) := by decide +kernel
theorem dX11_near_47 : decode cX11_near 47 = .ok (.iaload, 1) := by decide +kernel
theorem dX11_near_48 : decode cX11_near 48 = .ok (.aload_n 0, 1) := by decide +kernel
theorem dX11_near_49 : decode cX11_near 49 = .ok (.iload_n 1, 1) := by decide +kernel
theorem dX11_near_50 : decode cX11_near 50 = .ok (.iconst 2, 1) := by decide +kernel
theorem dX11_near_51 : decode cX11_near 51 = .ok (.invokevirtual 166, 3) := by decide +kernel
theorem dX11_near_54 : decode cX11_near 54 = .ok (.isub, 1) := by decide +kernel
theorem dX11_near_55 : decode cX11_near 55 = .ok (.invokestatic 190, 3) := by decide +kernel
theorem dX11_near_58 : decode cX11_near 58 = .ok (.istore_n 3, 1) := by decide +kernel
theorem dX11_near_59 : decode cX11_near 59 = .ok (.iconst 1, 1) := by decide +kernel
theorem dX11_near_60 : decode cX11_near 60 = .ok (.istore 4, 2) := by decide +kernel
theorem dX11_near_62 : decode cX11_near 62 = .ok (.iload 4, 2) := by decide +kernel
theorem dX11_near_64 : decode cX11_near 64 = .ok (.aload_n 0, 1) := by decide +kernel
theorem dX11_near_65 : decode cX11_near 65 = .ok (.getfield 274, 3) := by decide +kernel
theorem dX11_near_68 : decode cX11_near 68 = .ok (.if_icmp .gt 55, 3) := by decide +kernel
theorem dX11_near_71 : decode cX11_near 71 = .ok (.aload_n 0, 1) := by decide +kernel
theorem dX11_near_72 : decode cX11_near 72 = .ok (.getfield 29, 3) := by decide +kernel
theorem dX11_near_75 : decode cX11_near 75 = .ok (.iload 4, 2) := by decide +kernel
theorem dX11_near_77 : decode cX11_near 77 = .ok (.iaload, 1) := by decide +kernel
theorem dX11_near_78 : decode cX11_near 78 = .ok (.aload_n 0, 1) := by decide +kernel
theorem dX11_near_79 : decode cX11_near 79 = .ok (.iload_n 1, 1) := by decide +kernel
theorem dX11_near_80 : decode cX11_near 80 = .ok (.iconst 1, 1) := by decide +kernel
theorem dX11_near_81 : decode cX11_near 81 = .ok (.invokevirtual 166, 3) := by decide +kernel
theorem dX11_near_84 : decode cX11_near 84 = .ok (.isub, 1) := by decide +kernel
theorem dX11_near_85 : decode cX11_near 85 = .ok (.aload_n 0, 1) := by decide +kernel
theorem dX11_near_86 : decode cX11_near 86 = .ok (.getfield 32, 3) := by decide +kernel
theorem dX11_near_89 : decode cX11_near 89 = .ok (.iload 4, 2) := by decide +kernel
theorem dX11_near_91 : decode cX11_near 91 = .ok (.iaload, 1) := by decide +kernel
theorem dX11_near_92 : decode cX11_near 92 = .ok (.aload_n 0, 1) := by decide +kernel
theorem dX11_near_93 : decode cX11_near 93 = .ok (.iload_n 1, 1) := by decide +kernel
theorem dX11_near_94 : decode cX11_near 94 = .ok (.iconst 2, 1) := by decide +kernel
theorem dX11_near_95 : decode cX11_near 95 = .ok (.invokevirtual 166, 3) := by decide +kernel
theorem dX11_near_98 : decode cX11_near 98 = .ok (.isub, 1) := by decide +kernel
theorem dX11_near_99 : decode cX11_near 99 = .ok (.invokestatic 190, 3) := by decide +kernel
theorem dX11_near_102 : decode cX11_near 102 = .ok (.istore 5, 2) := by decide +kernel
theorem dX11_near_104 : decode cX11_near 104 = .ok (.iload 5, 2) := by decide +kernel
theorem dX11_near_106 : decode cX11_near 106 = .ok (.iload_n 3, 1) := by decide +kernel
theorem dX11_near_107 : decode cX11_near 107 = .ok (.if_icmp .ge 8, 3) := by decide +kernel
theorem dX11_near_110 : decode cX11_near 110 = .ok (.iload 5, 2) := by decide +kernel
theorem dX11_near_112 : decode cX11_near 112 = .ok (.goto 4, 3) := by decide +kernel
theorem dX11_near_115 : decode cX11_near 115 = .ok (.iload_n 3, 1) := by decide +kernel
theorem dX11_near_116 : decode cX11_near 116 = .ok (.istore_n 3, 1) := by decide +kernel
theorem dX11_near_117 : decode cX11_near 117 = .ok (.iinc 4 1, 3) := by decide +kernel
theorem dX11_near_120 : decode cX11_near 120 = .ok (.goto (-58), 3) := by decide +kernel
theorem dX11_near_123 : decode cX11_near 123 = .ok (.iload_n 3, 1) := by decide +kernel
theorem dX11_near_124 : decode cX11_near 124 = .ok (.ireturn, 1) := by decide +kernel
theorem dX11_goneBy_0 : decode cX11_goneBy 0 = .ok (.iconst 0, 1) := by decide +kernel
theorem dX11_goneBy_1 : decode cX11_goneBy 1 = .ok (.istore_n 1, 1) := by decide +kernel
theorem dX11_goneBy_2 : decode cX11_goneBy 2 = .ok (.iconst 0, 1) := by decide +kernel
theorem dX11_goneBy_3 : decode cX11_goneBy 3 = .ok (.istore_n 2, 1) := by decide +kernel
theorem dX11_goneBy_4 : decode cX11_goneBy 4 = .ok (.iload_n 2, 1) := by decide +kernel
theorem dX11_goneBy_5 : decode cX11_goneBy 5 = .ok (.aload_n 0, 1) := by decide +kernel
theorem dX11_goneBy_6 : decode cX11_goneBy 6 = .ok (.getfield 7, 3) := by decide +kernel
theorem dX11_goneBy_9 : decode cX11_goneBy 9 = .ok (.bipush 54, 2) := by decide +kernel
theorem dX11_goneBy_11 : decode cX11_goneBy 11 = .ok (.iaload, 1) := by decide +kernel
theorem dX11_goneBy_12 : decode cX11_goneBy 12 = .ok (.if_icmp .ge 104, 3) := by decide +kernel
theorem dX11_goneBy_15 : decode cX11_goneBy 15 = .ok (.aload_n 0, 1) := by decide +kernel
theorem dX11_goneBy_16 : decode cX11_goneBy 16 = .ok (.iload_n 2, 1) := by decide +kernel
theorem dX11_goneBy_17 : decode cX11_goneBy 17 = .ok (.iconst 1, 1) := by decide +kernel
theorem dX11_goneBy_18 : decode cX11_goneBy 18 = .ok (.invokevirtual 264, 3) := by decide +kernel
theorem dX11_goneBy_21 : decode cX11_goneBy 21 = .ok (.istore_n 3, 1) := by decide +kernel
theorem dX11_goneBy_22 : decode cX11_goneBy 22 = .ok (.iload_n 3, 1) := by decide +kernel
theorem dX11_goneBy_23 : decode cX11_goneBy 23 = .ok (.iconst 1, 1) := by decide +kernel
theorem dX11_goneBy_24 : decode cX11_goneBy 24 = .ok (.if_icmp .eq 13, 3) := by decide +kernel
theorem dX11_goneBy_27 : decode cX11_goneBy 27 = .ok (.iload_n 3, 1) := by decide +kernel
theorem dX11_goneBy_28 : decode cX11_goneBy 28 = .ok (.iconst 2, 1) := by decide +kernel
theorem dX11_goneBy_29 : decode cX11_goneBy 29 = .ok (.if_icmp .eq 8, 3) := by decide +kernel
theorem dX11_goneBy_32 : decode cX11_goneBy 32 = .ok (.iload_n 3, 1) := by decide +kernel
theorem dX11_goneBy_33 : decode cX11_goneBy 33 = .ok (.iconst 3, 1) := by decide +kernel
theorem dX11_goneBy_34 : decode cX11_goneBy 34 = .ok (.if_icmp .ne 7, 3) := by decide +kernel
theorem dX11_goneBy_37 : decode cX11_goneBy 37 = .ok (.iconst 1, 1) := by decide +kernel
theorem dX11_goneBy_38 : decode cX11_goneBy 38 = .ok (.goto 4, 3) := by decide +kernel
theorem dX11_goneBy_41 : decode cX11_goneBy 41 = .ok (.iconst 0, 1) := by decide +kernel
theorem dX11_goneBy_42 : decode cX11_goneBy 42 = .ok (.istore 4, 2) := by decide +kernel
theorem dX11_goneBy_44 : decode cX11_goneBy 44 = .ok (.iload_n 1, 1) := by decide +kernel
theorem dX11_goneBy_45 : decode cX11_goneBy 45 = .ok (.iload 4, 2) := by decide +kernel
theorem dX11_goneBy_47 : decode cX11_goneBy 47 = .ok (.ifCond .eq 27, 3) := by decide +kernel
theorem dX11_goneBy_50 : decode cX11_goneBy 50 = .ok (.aload_n 0, 1) := by decide +kernel
theorem dX11_goneBy_51 : decode cX11_goneBy 51 = .ok (.aload_n 0, 1) := by decide +kernel
theorem dX11_goneBy_52 : decode cX11_goneBy 52 = .ok (.iload_n 2, 1) := by decide +kernel
theorem dX11_goneBy_53 : decode cX11_goneBy 53 = .ok (.iconst 2, 1) := by decide +kernel
theorem dX11_goneBy_54 : decode cX11_goneBy 54 = .ok (.invokevirtual 264, 3) := by decide +kernel
theorem dX11_goneBy_57 : decode cX11_goneBy 57 = .ok (.invokevirtual 235, 3) := by decide +kernel
theorem dX11_goneBy_60 : decode cX11_goneBy 60 = .ok (.ifCond .eq 14, 3) := by decide +kernel
theorem dX11_goneBy_63 : decode cX11_goneBy 63 = .ok (.iconst 1, 1) := by decide +kernel
theorem dX11_goneBy_64 : decode cX11_goneBy 64 = .ok (.aload_n 0, 1) := by decide +kernel
theorem dX11_goneBy_65 : decode cX11_goneBy 65 = .ok (.iload_n 2, 1) := by decide +kernel
theorem dX11_goneBy_66 : decode cX11_goneBy 66 = .ok (.iconst 2, 1) := by decide +kernel
theorem dX11_goneBy_67 : decode cX11_goneBy 67 = .ok (.invokevirtual 264, 3) := by decide +kernel
theorem dX11_goneBy_70 : decode cX11_goneBy 70 = .ok (.ishl, 1) := by decide +kernel
theorem dX11_goneBy_71 : decode cX11_goneBy 71 = .ok (.goto 4, 3) := by decide +kernel
theorem dX11_goneBy_74 : decode cX11_goneBy 74 = .ok (.iconst 0, 1) := by decide +kernel
theorem dX11_goneBy_75 : decode cX11_goneBy 75 = .ok (.ior, 1) := by decide +kernel
theorem dX11_goneBy_76 : decode cX11_goneBy 76 = .ok (.istore_n 1, 1) := by decide +kernel
theorem dX11_goneBy_77 : decode cX11_goneBy 77 = .ok (.iload_n 1, 1) := by decide +kernel
theorem dX11_goneBy_78 : decode cX11_goneBy 78 = .ok (.iload_n 3, 1) := by decide +kernel
theorem dX11_goneBy_79 : decode cX11_goneBy 79 = .ok (.iconst 2, 1) := by decide +kernel
theorem dX11_goneBy_80 : decode cX11_goneBy 80 = .ok (.if_icmp .ne 27, 3) := by decide +kernel
theorem dX11_goneBy_83 : decode cX11_goneBy 83 = .ok (.aload_n 0, 1) := by decide +kernel
theorem dX11_goneBy_84 : decode cX11_goneBy 84 = .ok (.aload_n 0, 1) := by decide +kernel
theorem dX11_goneBy_85 : decode cX11_goneBy 85 = .ok (.iload_n 2, 1) := by decide +kernel
theorem dX11_goneBy_86 : decode cX11_goneBy 86 = .ok (.iconst 3, 1) := by decide +kernel
theorem dX11_goneBy_87 : decode cX11_goneBy 87 = .ok (.invokevirtual 264, 3) := by decide +kernel
theorem dX11_goneBy_90 : decode cX11_goneBy 90 = .ok (.invokevirtual 235, 3) := by decide +kernel
theorem dX11_goneBy_93 : decode cX11_goneBy 93 = .ok (.ifCond .eq 14, 3) := by decide +kernel
theorem dX11_goneBy_96 : decode cX11_goneBy 96 = .ok (.iconst 1, 1) := by decide +kernel
theorem dX11_goneBy_97 : decode cX11_goneBy 97 = .ok (.aload_n 0, 1) := by decide +kernel
theorem dX11_goneBy_98 : decode cX11_goneBy 98 = .ok (.iload_n 2, 1) := by decide +kernel
theorem dX11_goneBy_99 : decode cX11_goneBy 99 = .ok (.iconst 3, 1) := by decide +kernel
theorem dX11_goneBy_100 : decode cX11_goneBy 100 = .ok (.invokevirtual 264, 3) := by decide +kernel
theorem dX11_goneBy_103 : decode cX11_goneBy 103 = .ok (.ishl, 1) := by decide +kernel
theorem dX11_goneBy_104 : decode cX11_goneBy 104 = .ok (.goto 4, 3) := by decide +kernel
theorem dX11_goneBy_107 : decode cX11_goneBy 107 = .ok (.iconst 0, 1) := by decide +kernel
theorem dX11_goneBy_108 : decode cX11_goneBy 108 = .ok (.ior, 1) := by decide +kernel
theorem dX11_goneBy_109 : decode cX11_goneBy 109 = .ok (.istore_n 1, 1) := by decide +kernel
theorem dX11_goneBy_110 : decode cX11_goneBy 110 = .ok (.iinc 2 1, 3) := by decide +kernel
theorem dX11_goneBy_113 : decode cX11_goneBy 113 = .ok (.goto (-109), 3) := by decide +kernel
theorem dX11_goneBy_116 : decode cX11_goneBy 116 = .ok (.iload_n 1, 1) := by decide +kernel
theorem dX11_goneBy_117 : decode cX11_goneBy 117 = .ok (.ireturn, 1) := by decide +kernel
theorem dX11_ways_0 : decode cX11_ways 0 = .ok (.lconst 0, 1) := by decide +kernel
theorem dX11_ways_1 : decode cX11_ways 1 = .ok (.lstore 4, 2) := by decide +kernel
theorem dX11_ways_3 : decode cX11_ways 3 = .ok (.iconst 0, 1) := by decide +kernel
theorem dX11_ways_4 : decode cX11_ways 4 = .ok (.istore 6, 2) := by decide +kernel
theorem dX11_ways_6 : decode cX11_ways 6 = .ok (.iconst 1, 1) := by decide +kernel
theorem dX11_ways_7 : decode cX11_ways 7 = .ok (.istore 7, 2) := by decide +kernel
theorem dX11_ways_9 : decode cX11_ways 9 = .ok (.iload 7, 2) := by decide +kernel
theorem dX11_ways_11 : decode cX11_ways 11 = .ok (.ifCond .eq 115, 3) := by decide +kernel
theorem dX11_ways_14 : decode cX11_ways 14 = .ok (.aload_n 0, 1) := by decide +kernel
theorem dX11_ways_15 : decode cX11_ways 15 = .ok (.iload 6, 2) := by decide +kernel
theorem dX11_ways_17 : decode cX11_ways 17 = .ok (.putfield 211, 3) := by decide +kernel
theorem dX11_ways_20 : decode cX11_ways 20 = .ok (.aload_n 0, 1) := by decide +kernel
theorem dX11_ways_21 : decode cX11_ways 21 = .ok (.iload_n 1, 1) := by decide +kernel
theorem dX11_ways_22 : decode cX11_ways 22 = .ok (.aload_n 0, 1) := by decide +kernel
theorem dX11_ways_23 : decode cX11_ways 23 = .ok (.getfield 7, 3) := by decide +kernel
theorem dX11_ways_26 : decode cX11_ways 26 = .ok (.iconst 1, 1) := by decide +kernel
theorem dX11_ways_27 : decode cX11_ways 27 = .ok (.iaload, 1) := by decide +kernel
theorem dX11_ways_28 : decode cX11_ways 28 = .ok (.invokevirtual 326, 3) := by decide +kernel
theorem dX11_ways_31 : decode cX11_ways 31 = .ok (.ifCond .eq 7, 3) := by decide +kernel
theorem dX11_ways_34 : decode cX11_ways 34 = .ok (.lconst 1, 1) := by decide +kernel
theorem dX11_ways_35 : decode cX11_ways 35 = .ok (.goto 4, 3) := by decide +kernel
theorem dX11_ways_38 : decode cX11_ways 38 = .ok (.lconst 0, 1) := by decide +kernel
theorem dX11_ways_39 : decode cX11_ways 39 = .ok (.lstore 8, 2) := by decide +kernel
theorem dX11_ways_41 : decode cX11_ways 41 = .ok (.iconst 0, 1) := by decide +kernel
theorem dX11_ways_42 : decode cX11_ways 42 = .ok (.istore 10, 2) := by decide +kernel
theorem dX11_ways_44 : decode cX11_ways 44 = .ok (.iload 10, 2) := by decide +kernel
theorem dX11_ways_46 : decode cX11_ways 46 = .ok (.bipush 8, 2) := by decide +kernel
theorem dX11_ways_48 : decode cX11_ways 48 = .ok (.if_icmp .ge 48, 3) := by decide +kernel
theorem dX11_ways_51 : decode cX11_ways 51 = .ok (.lload 8, 2) := by decide +kernel
theorem dX11_ways_53 : decode cX11_ways 53 = .ok (.iload_n 3, 1) := by decide +kernel
theorem dX11_ways_54 : decode cX11_ways 54 = .ok (.iload 10, 2) := by decide +kernel
theorem dX11_ways_56 : decode cX11_ways 56 = .ok (.invokestatic 214, 3) := by decide +kernel
theorem dX11_ways_59 : decode cX11_ways 59 = .ok (.ifCond .ne 7, 3) := by decide +kernel
theorem dX11_ways_62 : decode cX11_ways 62 = .ok (.lconst 1, 1) := by decide +kernel
theorem dX11_ways_63 : decode cX11_ways 63 = .ok (.goto 24, 3) := by decide +kernel
theorem dX11_ways_66 : decode cX11_ways 66 = .ok (.iload 6, 2) := by decide +kernel
theorem dX11_ways_68 : decode cX11_ways 68 = .ok (.iload 10, 2) := by decide +kernel
theorem dX11_ways_70 : decode cX11_ways 70 = .ok (.invokestatic 214, 3) := by decide +kernel
theorem dX11_ways_73 : decode cX11_ways 73 = .ok (.ifCond .eq 8, 3) := by decide +kernel
theorem dX11_ways_76 : decode cX11_ways 76 = .ok (.iload_n 2, 1) := by decide +kernel
theorem dX11_ways_77 : decode cX11_ways 77 = .ok (.i2l, 1) := by decide +kernel
theorem dX11_ways_78 : decode cX11_ways 78 = .ok (.goto 9, 3) := by decide +kernel
theorem dX11_ways_81 : decode cX11_ways 81 = .ok (.ldc2_w 329, 3) := by decide +kernel
theorem dX11_ways_84 : decode cX11_ways 84 = .ok (.iload_n 2, 1) := by decide +kernel
theorem dX11_ways_85 : decode cX11_ways 85 = .ok (.i2l, 1) := by decide +kernel
theorem dX11_ways_86 : decode cX11_ways 86 = .ok (.lsub, 1) := by decide +kernel
theorem dX11_ways_87 : decode cX11_ways 87 = .ok (.lmul, 1) := by decide +kernel
theorem dX11_ways_88 : decode cX11_ways 88 = .ok (.lstore 8, 2) := by decide +kernel
theorem dX11_ways_90 : decode cX11_ways 90 = .ok (.iinc 10 1, 3) := by decide +kernel
theorem dX11_ways_93 : decode cX11_ways 93 = .ok (.goto (-49), 3) := by decide +kernel
theorem dX11_ways_96 : decode cX11_ways 96 = .ok (.lload 4, 2) := by decide +kernel
theorem dX11_ways_98 : decode cX11_ways 98 = .ok (.lload 8, 2) := by decide +kernel
theorem dX11_ways_100 : decode cX11_ways 100 = .ok (.ladd, 1) := by decide +kernel
theorem dX11_ways_101 : decode cX11_ways 101 = .ok (.lstore 4, 2) := by decide +kernel
theorem dX11_ways_103 : decode cX11_ways 103 = .ok (.iload 6, 2) := by decide +kernel
theorem dX11_ways_105 : decode cX11_ways 105 = .ok (.iload_n 3, 1) := by decide +kernel
theorem dX11_ways_106 : decode cX11_ways 106 = .ok (.isub, 1) := by decide +kernel
theorem dX11_ways_107 : decode cX11_ways 107 = .ok (.iload_n 3, 1) := by decide +kernel
theorem dX11_ways_108 : decode cX11_ways 108 = .ok (.iand, 1) := by decide +kernel
theorem dX11_ways_109 : decode cX11_ways 109 = .ok (.istore 6, 2) := by decide +kernel
theorem dX11_ways_111 : decode cX11_ways 111 = .ok (.iload 6, 2) := by decide +kernel
theorem dX11_ways_113 : decode cX11_ways 113 = .ok (.ifCond .eq 7, 3) := by decide +kernel
theorem dX11_ways_116 : decode cX11_ways 116 = .ok (.iconst 1, 1) := by decide +kernel
theorem dX11_ways_117 : decode cX11_ways 117 = .ok (.goto 4, 3) := by decide +kernel
theorem dX11_ways_120 : decode cX11_ways 120 = .ok (.iconst 0, 1) := by decide +kernel
theorem dX11_ways_121 : decode cX11_ways 121 = .ok (.istore 7, 2) := by decide +kernel
theorem dX11_ways_123 : decode cX11_ways 123 = .ok (.goto (-114), 3) := by decide +kernel
theorem dX11_ways_126 : decode cX11_ways 126 = .ok (.aload_n 0, 1) := by decide +kernel
theorem dX11_ways_127 : decode cX11_ways 127 = .ok (.iconst 0, 1) := by decide +kernel
theorem dX11_ways_128 : decode cX11_ways 128 = .ok (.putfield 211, 3) := by decide +kernel
theorem dX11_ways_131 : decode cX11_ways 131 = .ok (.lload 4, 2) := by decide +kernel
theorem dX11_ways_133 : decode cX11_ways 133 = .ok (.lreturn, 1) := by decide +kernel
theorem dX11_out_0 : decode cX11_out 0 = .ok (.aload_n 0, 1) := by decide +kernel
theorem dX11_out_1 : decode cX11_out 1 = .ok (.invokevirtual 169, 3) := by decide +kernel
theorem dX11_out_4 : decode cX11_out 4 = .ok (.ifCond .ne 7, 3) := by decide +kernel
theorem dX11_out_7 : decode cX11_out 7 = .ok (.ldc2_w 331, 3) := by decide +kernel
theorem dX11_out_10 : decode cX11_out 10 = .ok (.lreturn, 1) := by decide +kernel
theorem dX11_out_11 : decode cX11_out 11 = .ok (.iload_n 1, 1) := by decide +kernel
theorem dX11_out_12 : decode cX11_out 12 = .ok (.invokestatic 308, 3) := by decide +kernel
theorem dX11_out_15 : decode cX11_out 15 = .ok (.ifCond .eq 25, 3) := by decide +kernel
theorem dX11_out_18 : decode cX11_out 18 = .ok (.iload_n 2, 1) := by decide +kernel
theorem dX11_out_19 : decode cX11_out 19 = .ok (.i2l, 1) := by decide +kernel
theorem dX11_out_20 : decode cX11_out 20 = .ok (.lconst 0, 1) := by decide +kernel
theorem dX11_out_21 : decode cX11_out 21 = .ok (.ldc2_w 329, 3) := by decide +kernel
theorem dX11_out_24 : decode cX11_out 24 = .ok (.invokestatic 62, 3) := by decide +kernel
theorem dX11_out_27 : decode cX11_out 27 = .ok (.ifCond .eq 13, 3) := by decide +kernel
theorem dX11_out_30 : decode cX11_out 30 = .ok (.iload_n 3, 1) := by decide +kernel
theorem dX11_out_31 : decode cX11_out 31 = .ok (.i2l, 1) := by decide +kernel
theorem dX11_out_32 : decode cX11_out 32 = .ok (.lconst 0, 1) := by decide +kernel
theorem dX11_out_33 : decode cX11_out 33 = .ok (.lconst 1, 1) := by decide +kernel
theorem dX11_out_34 : decode cX11_out 34 = .ok (.invokestatic 62, 3) := by decide +kernel
theorem dX11_out_37 : decode cX11_out 37 = .ok (.ifCond .ne 7, 3) := by decide +kernel
theorem dX11_out_40 : decode cX11_out 40 = .ok (.ldc2_w 333, 3) := by decide +kernel
theorem dX11_out_43 : decode cX11_out 43 = .ok (.lreturn, 1) := by decide +kernel
theorem dX11_out_44 : decode cX11_out 44 = .ok (.aload_n 0, 1) := by decide +kernel
theorem dX11_out_45 : decode cX11_out 45 = .ok (.invokevirtual 335, 3) := by decide +kernel
theorem dX11_out_48 : decode cX11_out 48 = .ok (.istore 4, 2) := by decide +kernel
theorem dX11_out_50 : decode cX11_out 50 = .ok (.lconst 1, 1) := by decide +kernel
theorem dX11_out_51 : decode cX11_out 51 = .ok (.lstore 5, 2) := by decide +kernel
theorem dX11_out_53 : decode cX11_out 53 = .ok (.iconst 0, 1) := by decide +kernel
theorem dX11_out_54 : decode cX11_out 54 = .ok (.istore 7, 2) := by decide +kernel
theorem dX11_out_56 : decode cX11_out 56 = .ok (.iload 7, 2) := by decide +kernel
theorem dX11_out_58 : decode cX11_out 58 = .ok (.bipush 8, 2) := by decide +kernel
theorem dX11_out_60 : decode cX11_out 60 = .ok (.if_icmp .ge 31, 3) := by decide +kernel
theorem dX11_out_63 : decode cX11_out 63 = .ok (.lload 5, 2) := by decide +kernel
theorem dX11_out_65 : decode cX11_out 65 = .ok (.iload 4, 2) := by decide +kernel
theorem dX11_out_67 : decode cX11_out 67 = .ok (.iload 7, 2) := by decide +kernel
theorem dX11_out_69 : decode cX11_out 69 = .ok (.invokestatic 214, 3) := by decide +kernel
theorem dX11_out_72 : decode cX11_out 72 = .ok (.ifCond .eq 9, 3) := by decide +kernel
theorem dX11_out_75 : decode cX11_out 75 = .ok (.ldc2_w 329, 3) := by decide +kernel
theorem dX11_out_78 : decode cX11_out 78 = .ok (.goto 4, 3) := by decide +kernel
theorem dX11_out_81 : decode cX11_out 81 = .ok (.lconst 1, 1) := by decide +kernel
theorem dX11_out_82 : decode cX11_out 82 = .ok (.lmul, 1) := by decide +kernel
theorem dX11_out_83 : decode cX11_out 83 = .ok (.lstore 5, 2) := by decide +kernel
theorem dX11_out_85 : decode cX11_out 85 = .ok (.iinc 7 1, 3) := by decide +kernel
theorem dX11_out_88 : decode cX11_out 88 = .ok (.goto (-32), 3) := by decide +kernel
theorem dX11_out_91 : decode cX11_out 91 = .ok (.lload 5, 2) := by decide +kernel
theorem dX11_out_93 : decode cX11_out 93 = .ok (.ldc2_w 338, 3) := by decide +kernel
theorem dX11_out_96 : decode cX11_out 96 = .ok (.lcmp, 1) := by decide +kernel
theorem dX11_out_97 : decode cX11_out 97 = .ok (.ifCond .le 7, 3) := by decide +kernel
theorem dX11_out_100 : decode cX11_out 100 = .ok (.ldc2_w 340, 3) := by decide +kernel
theorem dX11_out_103 : decode cX11_out 103 = .ok (.lreturn, 1) := by decide +kernel
theorem dX11_out_104 : decode cX11_out 104 = .ok (.aload_n 0, 1) := by decide +kernel
theorem dX11_out_105 : decode cX11_out 105 = .ok (.iload_n 1, 1) := by decide +kernel
theorem dX11_out_106 : decode cX11_out 106 = .ok (.iload_n 2, 1) := by decide +kernel
theorem dX11_out_107 : decode cX11_out 107 = .ok (.iload 4, 2) := by decide +kernel
theorem dX11_out_109 : decode cX11_out 109 = .ok (.invokevirtual 342, 3) := by decide +kernel
theorem dX11_out_112 : decode cX11_out 112 = .ok (.lstore 7, 2) := by decide +kernel
theorem dX11_out_114 : decode cX11_out 114 = .ok (.lload 7, 2) := by decide +kernel
theorem dX11_out_116 : decode cX11_out 116 = .ok (.lstore 9, 2) := by decide +kernel
theorem dX11_out_118 : decode cX11_out 118 = .ok (.lload 5, 2) := by decide +kernel
theorem dX11_out_120 : decode cX11_out 120 = .ok (.lstore 11, 2) := by decide +kernel
theorem dX11_out_122 : decode cX11_out 122 = .ok (.lload 11, 2) := by decide +kernel
theorem dX11_out_124 : decode cX11_out 124 = .ok (.lconst 0, 1) := by decide +kernel
theorem dX11_out_125 : decode cX11_out 125 = .ok (.lcmp, 1) := by decide +kernel
theorem dX11_out_126 : decode cX11_out 126 = .ok (.ifCond .le 21, 3) := by decide +kernel
theorem dX11_out_129 : decode cX11_out 129 = .ok (.lload 9, 2) := by decide +kernel
theorem dX11_out_131 : decode cX11_out 131 = .ok (.lload 11, 2) := by decide +kernel
theorem dX11_out_133 : decode cX11_out 133 = .ok (.lrem, 1) := by decide +kernel
theorem dX11_out_134 : decode cX11_out 134 = .ok (.lstore 13, 2) := by decide +kernel
theorem dX11_out_136 : decode cX11_out 136 = .ok (.lload 11, 2) := by decide +kernel
theorem dX11_out_138 : decode cX11_out 138 = .ok (.lstore 9, 2) := by decide +kernel
theorem dX11_out_140 : decode cX11_out 140 = .ok (.lload 13, 2) := by decide +kernel
theorem dX11_out_142 : decode cX11_out 142 = .ok (.lstore 11, 2) := by decide +kernel
theorem dX11_out_144 : decode cX11_out 144 = .ok (.goto (-22), 3) := by decide +kernel
theorem dX11_out_147 : decode cX11_out 147 = .ok (.iload_n 3, 1) := by decide +kernel
theorem dX11_out_148 : decode cX11_out 148 = .ok (.ifCond .ne 11, 3) := by decide +kernel
theorem dX11_out_151 : decode cX11_out 151 = .ok (.lload 7, 2) := by decide +kernel
theorem dX11_out_153 : decode cX11_out 153 = .ok (.lload 9, 2) := by decide +kernel
theorem dX11_out_155 : decode cX11_out 155 = .ok (.ldiv, 1) := by decide +kernel
theorem dX11_out_156 : decode cX11_out 156 = .ok (.goto 8, 3) := by decide +kernel
theorem dX11_out_159 : decode cX11_out 159 = .ok (.lload 5, 2) := by decide +kernel
theorem dX11_out_161 : decode cX11_out 161 = .ok (.lload 9, 2) := by decide +kernel
theorem dX11_out_163 : decode cX11_out 163 = .ok (.ldiv, 1) := by decide +kernel
theorem dX11_out_164 : decode cX11_out 164 = .ok (.lreturn, 1) := by decide +kernel
theorem dX11_drawn_0 : decode cX11_drawn 0 = .ok (.aload_n 0, 1) := by decide +kernel
theorem dX11_drawn_1 : decode cX11_drawn 1 = .ok (.invokevirtual 169, 3) := by decide +kernel
theorem dX11_drawn_4 : decode cX11_drawn 4 = .ok (.ifCond .ne 6, 3) := by decide +kernel
theorem dX11_drawn_7 : decode cX11_drawn 7 = .ok (.ldc 146, 2) := by decide +kernel
theorem dX11_drawn_9 : decode cX11_drawn 9 = .ok (.ireturn, 1) := by decide +kernel
theorem dX11_drawn_10 : decode cX11_drawn 10 = .ok (.iload_n 1, 1) := by decide +kernel
theorem dX11_drawn_11 : decode cX11_drawn 11 = .ok (.i2l, 1) := by decide +kernel
theorem dX11_drawn_12 : decode cX11_drawn 12 = .ok (.lconst 0, 1) := by decide +kernel
theorem dX11_drawn_13 : decode cX11_drawn 13 = .ok (.ldc2_w 346, 3) := by decide +kernel
theorem dX11_drawn_16 : decode cX11_drawn 16 = .ok (.invokestatic 62, 3) := by decide +kernel
theorem dX11_drawn_19 : decode cX11_drawn 19 = .ok (.ifCond .eq 25, 3) := by decide +kernel
theorem dX11_drawn_22 : decode cX11_drawn 22 = .ok (.iload_n 2, 1) := by decide +kernel
theorem dX11_drawn_23 : decode cX11_drawn 23 = .ok (.i2l, 1) := by decide +kernel
theorem dX11_drawn_24 : decode cX11_drawn 24 = .ok (.lconst 1, 1) := by decide +kernel
theorem dX11_drawn_25 : decode cX11_drawn 25 = .ok (.ldc2_w 348, 3) := by decide +kernel
theorem dX11_drawn_28 : decode cX11_drawn 28 = .ok (.invokestatic 62, 3) := by decide +kernel
theorem dX11_drawn_31 : decode cX11_drawn 31 = .ok (.ifCond .eq 13, 3) := by decide +kernel
theorem dX11_drawn_34 : decode cX11_drawn 34 = .ok (.iload_n 3, 1) := by decide +kernel
theorem dX11_drawn_35 : decode cX11_drawn 35 = .ok (.i2l, 1) := by decide +kernel
theorem dX11_drawn_36 : decode cX11_drawn 36 = .ok (.lconst 0, 1) := by decide +kernel
theorem dX11_drawn_37 : decode cX11_drawn 37 = .ok (.lconst 1, 1) := by decide +kernel
theorem dX11_drawn_38 : decode cX11_drawn 38 = .ok (.invokestatic 62, 3) := by decide +kernel
theorem dX11_drawn_41 : decode cX11_drawn 41 = .ok (.ifCond .ne 6, 3) := by decide +kernel
theorem dX11_drawn_44 : decode cX11_drawn 44 = .ok (.ldc 133, 2) := by decide +kernel
theorem dX11_drawn_46 : decode cX11_drawn 46 = .ok (.ireturn, 1) := by decide +kernel
theorem dX11_drawn_47 : decode cX11_drawn 47 = .ok (.iload_n 2, 1) := by decide +kernel
theorem dX11_drawn_48 : decode cX11_drawn 48 = .ok (.i2l, 1) := by decide +kernel
theorem dX11_drawn_49 : decode cX11_drawn 49 = .ok (.lstore 4, 2) := by decide +kernel
theorem dX11_drawn_51 : decode cX11_drawn 51 = .ok (.iconst 0, 1) := by decide +kernel
theorem dX11_drawn_52 : decode cX11_drawn 52 = .ok (.istore 6, 2) := by decide +kernel
theorem dX11_drawn_54 : decode cX11_drawn 54 = .ok (.iconst 0, 1) := by decide +kernel
theorem dX11_drawn_55 : decode cX11_drawn 55 = .ok (.istore 7, 2) := by decide +kernel
theorem dX11_drawn_57 : decode cX11_drawn 57 = .ok (.iconst 0, 1) := by decide +kernel
theorem dX11_drawn_58 : decode cX11_drawn 58 = .ok (.istore 8, 2) := by decide +kernel
theorem dX11_drawn_60 : decode cX11_drawn 60 = .ok (.iload 8, 2) := by decide +kernel
theorem dX11_drawn_62 : decode cX11_drawn 62 = .ok (.iload_n 1, 1) := by decide +kernel
theorem dX11_drawn_63 : decode cX11_drawn 63 = .ok (.if_icmp .ge 65, 3) := by decide +kernel
theorem dX11_drawn_66 : decode cX11_drawn 66 = .ok (.lload 4, 2) := by decide +kernel
theorem dX11_drawn_68 : decode cX11_drawn 68 = .ok (.ldc2_w 350, 3) := by decide +kernel
theorem dX11_drawn_71 : decode cX11_drawn 71 = .ok (.lmul, 1) := by decide +kernel
theorem dX11_drawn_72 : decode cX11_drawn 72 = .ok (.ldc2_w 352, 3) := by decide +kernel
theorem dX11_drawn_75 : decode cX11_drawn 75 = .ok (.lrem, 1) := by decide +kernel
theorem dX11_drawn_76 : decode cX11_drawn 76 = .ok (.lstore 4, 2) := by decide +kernel
theorem dX11_drawn_78 : decode cX11_drawn 78 = .ok (.iload 6, 2) := by decide +kernel
theorem dX11_drawn_80 : decode cX11_drawn 80 = .ok (.aload_n 0, 1) := by decide +kernel
theorem dX11_drawn_81 : decode cX11_drawn 81 = .ok (.lload 4, 2) := by decide +kernel
theorem dX11_drawn_83 : decode cX11_drawn 83 = .ok (.ldc2_w 354, 3) := by decide +kernel
theorem dX11_drawn_86 : decode cX11_drawn 86 = .ok (.lrem, 1) := by decide +kernel
theorem dX11_drawn_87 : decode cX11_drawn 87 = .ok (.l2i, 1) := by decide +kernel
theorem dX11_drawn_88 : decode cX11_drawn 88 = .ok (.lload 4, 2) := by decide +kernel
theorem dX11_drawn_90 : decode cX11_drawn 90 = .ok (.ldc2_w 356, 3) := by decide +kernel
theorem dX11_drawn_93 : decode cX11_drawn 93 = .ok (.ldiv, 1) := by decide +kernel
theorem dX11_drawn_94 : decode cX11_drawn 94 = .ok (.ldc2_w 358, 3) := by decide +kernel
theorem dX11_drawn_97 : decode cX11_drawn 97 = .ok (.lrem, 1) := by decide +kernel
theorem dX11_drawn_98 : decode cX11_drawn 98 = .ok (.l2i, 1) := by decide +kernel
theorem dX11_drawn_99 : decode cX11_drawn 99 = .ok (.invokevirtual 326, 3) := by decide +kernel
theorem dX11_drawn_102 : decode cX11_drawn 102 = .ok (.ifCond .eq 7, 3) := by decide +kernel
theorem dX11_drawn_105 : decode cX11_drawn 105 = .ok (.iconst 1, 1) := by decide +kernel
theorem dX11_drawn_106 : decode cX11_drawn 106 = .ok (.goto 4, 3) := by decide +kernel
theorem dX11_drawn_109 : decode cX11_drawn 109 = .ok (.iconst 0, 1) := by decide +kernel
theorem dX11_drawn_110 : decode cX11_drawn 110 = .ok (.iadd, 1) := by decide +kernel
theorem dX11_drawn_111 : decode cX11_drawn 111 = .ok (.istore 6, 2) := by decide +kernel
theorem dX11_drawn_113 : decode cX11_drawn 113 = .ok (.iload 7, 2) := by decide +kernel
theorem dX11_drawn_115 : decode cX11_drawn 115 = .ok (.aload_n 0, 1) := by decide +kernel
theorem dX11_drawn_116 : decode cX11_drawn 116 = .ok (.getfield 274, 3) := by decide +kernel
theorem dX11_drawn_119 : decode cX11_drawn 119 = .ok (.iadd, 1) := by decide +kernel
theorem dX11_drawn_120 : decode cX11_drawn 120 = .ok (.istore 7, 2) := by decide +kernel
theorem dX11_drawn_122 : decode cX11_drawn 122 = .ok (.iinc 8 1, 3) := by decide +kernel
theorem dX11_drawn_125 : decode cX11_drawn 125 = .ok (.goto (-65), 3) := by decide +kernel
theorem dX11_drawn_128 : decode cX11_drawn 128 = .ok (.iload_n 3, 1) := by decide +kernel
theorem dX11_drawn_129 : decode cX11_drawn 129 = .ok (.ifCond .ne 8, 3) := by decide +kernel
theorem dX11_drawn_132 : decode cX11_drawn 132 = .ok (.iload 6, 2) := by decide +kernel
theorem dX11_drawn_134 : decode cX11_drawn 134 = .ok (.goto 5, 3) := by decide +kernel
theorem dX11_drawn_137 : decode cX11_drawn 137 = .ok (.iload 7, 2) := by decide +kernel
theorem dX11_drawn_139 : decode cX11_drawn 139 = .ok (.ireturn, 1) := by decide +kernel
theorem dX11_image_0 : decode cX11_image 0 = .ok (.iload_n 1, 1) := by decide +kernel
theorem dX11_image_1 : decode cX11_image 1 = .ok (.i2l, 1) := by decide +kernel
theorem dX11_image_2 : decode cX11_image 2 = .ok (.lconst 0, 1) := by decide +kernel
theorem dX11_image_3 : decode cX11_image 3 = .ok (.lconst 1, 1) := by decide +kernel
theorem dX11_image_4 : decode cX11_image 4 = .ok (.invokestatic 62, 3) := by decide +kernel
theorem dX11_image_7 : decode cX11_image 7 = .ok (.ifCond .ne 6, 3) := by decide +kernel
theorem dX11_image_10 : decode cX11_image 10 = .ok (.ldc 133, 2) := by decide +kernel
theorem dX11_image_12 : decode cX11_image 12 = .ok (.ireturn, 1) := by decide +kernel
theorem dX11_image_13 : decode cX11_image 13 = .ok (.aload_n 0, 1) := by decide +kernel
theorem dX11_image_14 : decode cX11_image 14 = .ok (.invokevirtual 169, 3) := by decide +kernel
theorem dX11_image_17 : decode cX11_image 17 = .ok (.ifCond .ne 6, 3) := by decide +kernel
theorem dX11_image_20 : decode cX11_image 20 = .ok (.ldc 146, 2) := by decide +kernel
theorem dX11_image_22 : decode cX11_image 22 = .ok (.ireturn, 1) := by decide +kernel
theorem dX11_image_23 : decode cX11_image 23 = .ok (.aload_n 0, 1) := by decide +kernel
theorem dX11_image_24 : decode cX11_image 24 = .ok (.iconst 0, 1) := by decide +kernel
theorem dX11_image_25 : decode cX11_image 25 = .ok (.bipush 79, 2) := by decide +kernel
theorem dX11_image_27 : decode cX11_image 27 = .ok (.bipush 79, 2) := by decide +kernel
theorem dX11_image_29 : decode cX11_image 29 = .ok (.iload_n 1, 1) := by decide +kernel
theorem dX11_image_30 : decode cX11_image 30 = .ok (.imul, 1) := by decide +kernel
theorem dX11_image_31 : decode cX11_image 31 = .ok (.iadd, 1) := by decide +kernel
theorem dX11_image_32 : decode cX11_image 32 = .ok (.invokevirtual 54, 3) := by decide +kernel
theorem dX11_image_35 : decode cX11_image 35 = .ok (.aload_n 0, 1) := by decide +kernel
theorem dX11_image_36 : decode cX11_image 36 = .ok (.getfield 13, 3) := by decide +kernel
theorem dX11_image_39 : decode cX11_image 39 = .ok (.iload_n 1, 1) := by decide +kernel
theorem dX11_image_40 : decode cX11_image 40 = .ok (.iconst 1, 1) := by decide +kernel
theorem dX11_image_41 : decode cX11_image 41 = .ok (.bastore, 1) := by decide +kernel
theorem dX11_image_42 : decode cX11_image 42 = .ok (.iconst 1, 1) := by decide +kernel
theorem dX11_image_43 : decode cX11_image 43 = .ok (.ireturn, 1) := by decide +kernel
theorem dX11_restore_0 : decode cX11_restore 0 = .ok (.iload_n 1, 1) := by decide +kernel
theorem dX11_restore_1 : decode cX11_restore 1 = .ok (.i2l, 1) := by decide +kernel
theorem dX11_restore_2 : decode cX11_restore 2 = .ok (.lconst 0, 1) := by decide +kernel
theorem dX11_restore_3 : decode cX11_restore 3 = .ok (.lconst 1, 1) := by decide +kernel
theorem dX11_restore_4 : decode cX11_restore 4 = .ok (.invokestatic 62, 3) := by decide +kernel
theorem dX11_restore_7 : decode cX11_restore 7 = .ok (.ifCond .ne 6, 3) := by decide +kernel
theorem dX11_restore_10 : decode cX11_restore 10 = .ok (.ldc 133, 2) := by decide +kernel
theorem dX11_restore_12 : decode cX11_restore 12 = .ok (.ireturn, 1) := by decide +kernel
theorem dX11_restore_13 : decode cX11_restore 13 = .ok (.aload_n 0, 1) := by decide +kernel
theorem dX11_restore_14 : decode cX11_restore 14 = .ok (.getfield 13, 3) := by decide +kernel
theorem dX11_restore_17 : decode cX11_restore 17 = .ok (.iload_n 1, 1) := by decide +kernel
theorem dX11_restore_18 : decode cX11_restore 18 = .ok (.baload, 1) := by decide +kernel
theorem dX11_restore_19 : decode cX11_restore 19 = .ok (.ifCond .ne 6, 3) := by decide +kernel
theorem dX11_restore_22 : decode cX11_restore 22 = .ok (.ldc 146, 2) := by decide +kernel
theorem dX11_restore_24 : decode cX11_restore 24 = .ok (.ireturn, 1) := by decide +kernel
theorem dX11_restore_25 : decode cX11_restore 25 = .ok (.aload_n 0, 1) := by decide +kernel
theorem dX11_restore_26 : decode cX11_restore 26 = .ok (.bipush 79, 2) := by decide +kernel
theorem dX11_restore_28 : decode cX11_restore 28 = .ok (.bipush 79, 2) := by decide +kernel
theorem dX11_restore_30 : decode cX11_restore 30 = .ok (.iload_n 1, 1) := by decide +kernel
theorem dX11_restore_31 : decode cX11_restore 31 = .ok (.imul, 1) := by decide +kernel
theorem dX11_restore_32 : decode cX11_restore 32 = .ok (.iadd, 1) := by decide +kernel
theorem dX11_restore_33 : decode cX11_restore 33 = .ok (.iconst 0, 1) := by decide +kernel
theorem dX11_restore_34 : decode cX11_restore 34 = .ok (.invokevirtual 54, 3) := by decide +kernel
theorem dX11_restore_37 : decode cX11_restore 37 = .ok (.aload_n 0, 1) := by decide +kernel
theorem dX11_restore_38 : decode cX11_restore 38 = .ok (.iconst 0, 1) := by decide +kernel
theorem dX11_restore_39 : decode cX11_restore 39 = .ok (.putfield 50, 3) := by decide +kernel
theorem dX11_restore_42 : decode cX11_restore 42 = .ok (.iconst 1, 1) := by decide +kernel
theorem dX11_restore_43 : decode cX11_restore 43 = .ok (.ireturn, 1) := by decide +kernel
theorem dX11_marks_0 : decode cX11_marks 0 = .ok (.iconst 0, 1) := by decide +kernel
theorem dX11_marks_1 : decode cX11_marks 1 = .ok (.istore_n 1, 1) := by decide +kernel
theorem dX11_marks_2 : decode cX11_marks 2 = .ok (.iconst 0, 1) := by decide +kernel
theorem dX11_marks_3 : decode cX11_marks 3 = .ok (.istore_n 2, 1) := by decide +kernel
theorem dX11_marks_4 : decode cX11_marks 4 = .ok (.iload_n 2, 1) := by decide +kernel
theorem dX11_marks_5 : decode cX11_marks 5 = .ok (.aload_n 0, 1) := by decide +kernel
theorem dX11_marks_6 : decode cX11_marks 6 = .ok (.getfield 7, 3) := by decide +kernel
theorem dX11_marks_9 : decode cX11_marks 9 = .ok (.bipush 13, 2) := by decide +kernel
theorem dX11_marks_11 : decode cX11_marks 11 = .ok (.iaload, 1) := by decide +kernel
theorem dX11_marks_12 : decode cX11_marks 12 = .ok (.if_icmp .ge 25, 3) := by decide +kernel
theorem dX11_marks_15 : decode cX11_marks 15 = .ok (.iload_n 1, 1) := by decide +kernel
theorem dX11_marks_16 : decode cX11_marks 16 = .ok (.aload_n 0, 1) := by decide +kernel
theorem dX11_marks_17 : decode cX11_marks 17 = .ok (.iload_n 2, 1) := by decide +kernel
theorem dX11_marks_18 : decode cX11_marks 18 = .ok (.invokevirtual 235, 3) := by decide +kernel
theorem dX11_marks_21 : decode cX11_marks 21 = .ok (.ifCond .eq 7, 3) := by decide +kernel
theorem dX11_marks_24 : decode cX11_marks 24 = .ok (.iconst 1, 1) := by decide +kernel
theorem dX11_marks_25 : decode cX11_marks 25 = .ok (.goto 4, 3) := by decide +kernel
theorem dX11_marks_28 : decode cX11_marks 28 = .ok (.iconst 0, 1) := by decide +kernel
theorem dX11_marks_29 : decode cX11_marks 29 = .ok (.iadd, 1) := by decide +kernel
theorem dX11_marks_30 : decode cX11_marks 30 = .ok (.istore_n 1, 1) := by decide +kernel
theorem dX11_marks_31 : decode cX11_marks 31 = .ok (.iinc 2 1, 3) := by decide +kernel
theorem dX11_marks_34 : decode cX11_marks 34 = .ok (.goto (-30), 3) := by decide +kernel
theorem dX11_marks_37 : decode cX11_marks 37 = .ok (.iload_n 1, 1) := by decide +kernel
theorem dX11_marks_38 : decode cX11_marks 38 = .ok (.ireturn, 1) := by decide +kernel
theorem dX11_count_0 : decode cX11_count 0 = .ok (.iload_n 1, 1) := by decide +kernel
theorem dX11_count_1 : decode cX11_count 1 = .ok (.tableswitch 95 0 6 #[43, 51, 56, 69, 77, 85, 90], 43) := by decide +kernel
theorem dX11_count_44 : decode cX11_count 44 = .ok (.aload_n 0, 1) := by decide +kernel
theorem dX11_count_45 : decode cX11_count 45 = .ok (.getfield 7, 3) := by decide +kernel
theorem dX11_count_48 : decode cX11_count 48 = .ok (.bipush 13, 2) := by decide +kernel
theorem dX11_count_50 : decode cX11_count 50 = .ok (.iaload, 1) := by decide +kernel
theorem dX11_count_51 : decode cX11_count 51 = .ok (.ireturn, 1) := by decide +kernel
theorem dX11_count_52 : decode cX11_count 52 = .ok (.aload_n 0, 1) := by decide +kernel
theorem dX11_count_53 : decode cX11_count 53 = .ok (.invokevirtual 360, 3) := by decide +kernel
theorem dX11_count_56 : decode cX11_count 56 = .ok (.ireturn, 1) := by decide +kernel
theorem dX11_count_57 : decode cX11_count 57 = .ok (.aload_n 0, 1) := by decide +kernel
theorem dX11_count_58 : decode cX11_count 58 = .ok (.getfield 7, 3) := by decide +kernel
theorem dX11_count_61 : decode cX11_count 61 = .ok (.bipush 13, 2) := by decide +kernel
theorem dX11_count_63 : decode cX11_count 63 = .ok (.iaload, 1) := by decide +kernel
theorem dX11_count_64 : decode cX11_count 64 = .ok (.aload_n 0, 1) := by decide +kernel
theorem dX11_count_65 : decode cX11_count 65 = .ok (.invokevirtual 360, 3) := by decide +kernel
theorem dX11_count_68 : decode cX11_count 68 = .ok (.isub, 1) := by decide +kernel
theorem dX11_count_69 : decode cX11_count 69 = .ok (.ireturn, 1) := by decide +kernel
theorem dX11_count_70 : decode cX11_count 70 = .ok (.aload_n 0, 1) := by decide +kernel
theorem dX11_count_71 : decode cX11_count 71 = .ok (.getfield 7, 3) := by decide +kernel
theorem dX11_count_74 : decode cX11_count 74 = .ok (.bipush 54, 2) := by decide +kernel
theorem dX11_count_76 : decode cX11_count 76 = .ok (.iaload, 1) := by decide +kernel
theorem dX11_count_77 : decode cX11_count 77 = .ok (.ireturn, 1) := by decide +kernel
theorem dX11_count_78 : decode cX11_count 78 = .ok (.aload_n 0, 1) := by decide +kernel
theorem dX11_count_79 : decode cX11_count 79 = .ok (.getfield 7, 3) := by decide +kernel
theorem dX11_count_82 : decode cX11_count 82 = .ok (.bipush 6, 2) := by decide +kernel
theorem dX11_count_84 : decode cX11_count 84 = .ok (.iaload, 1) := by decide +kernel
theorem dX11_count_85 : decode cX11_count 85 = .ok (.ireturn, 1) := by decide +kernel
theorem dX11_count_86 : decode cX11_count 86 = .ok (.aload_n 0, 1) := by decide +kernel
theorem dX11_count_87 : decode cX11_count 87 = .ok (.getfield 50, 3) := by decide +kernel
theorem dX11_count_90 : decode cX11_count 90 = .ok (.ireturn, 1) := by decide +kernel
theorem dX11_count_91 : decode cX11_count 91 = .ok (.aload_n 0, 1) := by decide +kernel
theorem dX11_count_92 : decode cX11_count 92 = .ok (.getfield 72, 3) := by decide +kernel
theorem dX11_count_95 : decode cX11_count 95 = .ok (.ireturn, 1) := by decide +kernel
theorem dX11_count_96 : decode cX11_count 96 = .ok (.ldc 133, 2) := by decide +kernel
theorem dX11_count_98 : decode cX11_count 98 = .ok (.ireturn, 1) := by decide +kernel
theorem dJ11_isValidCodePoint_9a6ad_0 : decode cJ11_isValidCodePoint_9a6ad 0 = .ok (.iload_n 0, 1) := by decide +kernel
theorem dJ11_isValidCodePoint_9a6ad_1 : decode cJ11_isValidCodePoint_9a6ad 1 = .ok (.bipush 16, 2) := by decide +kernel
theorem dJ11_isValidCodePoint_9a6ad_3 : decode cJ11_isValidCodePoint_9a6ad 3 = .ok (.iushr, 1) := by decide +kernel
theorem dJ11_isValidCodePoint_9a6ad_4 : decode cJ11_isValidCodePoint_9a6ad 4 = .ok (.istore_n 1, 1) := by decide +kernel
theorem dJ11_isValidCodePoint_9a6ad_5 : decode cJ11_isValidCodePoint_9a6ad 5 = .ok (.iload_n 1, 1) := by decide +kernel
theorem dJ11_isValidCodePoint_9a6ad_6 : decode cJ11_isValidCodePoint_9a6ad 6 = .ok (.bipush 17, 2) := by decide +kernel
theorem dJ11_isValidCodePoint_9a6ad_8 : decode cJ11_isValidCodePoint_9a6ad 8 = .ok (.if_icmp .ge 7, 3) := by decide +kernel
theorem dJ11_isValidCodePoint_9a6ad_11 : decode cJ11_isValidCodePoint_9a6ad 11 = .ok (.iconst 1, 1) := by decide +kernel
theorem dJ11_isValidCodePoint_9a6ad_12 : decode cJ11_isValidCodePoint_9a6ad 12 = .ok (.goto 4, 3) := by decide +kernel
theorem dJ11_isValidCodePoint_9a6ad_15 : decode cJ11_isValidCodePoint_9a6ad 15 = .ok (.iconst 0, 1) := by decide +kernel
theorem dJ11_isValidCodePoint_9a6ad_16 : decode cJ11_isValidCodePoint_9a6ad 16 = .ok (.ireturn, 1) := by decide +kernel
theorem dJ11_highSurrogate_5068e_0 : decode cJ11_highSurrogate_5068e 0 = .ok (.iload_n 0, 1) := by decide +kernel
theorem dJ11_highSurrogate_5068e_1 : decode cJ11_highSurrogate_5068e 1 = .ok (.bipush 10, 2) := by decide +kernel
theorem dJ11_highSurrogate_5068e_3 : decode cJ11_highSurrogate_5068e 3 = .ok (.iushr, 1) := by decide +kernel
theorem dJ11_highSurrogate_5068e_4 : decode cJ11_highSurrogate_5068e 4 = .ok (.ldc 110, 2) := by decide +kernel
theorem dJ11_highSurrogate_5068e_6 : decode cJ11_highSurrogate_5068e 6 = .ok (.iadd, 1) := by decide +kernel
theorem dJ11_highSurrogate_5068e_7 : decode cJ11_highSurrogate_5068e 7 = .ok (.i2c, 1) := by decide +kernel
theorem dJ11_highSurrogate_5068e_8 : decode cJ11_highSurrogate_5068e 8 = .ok (.ireturn, 1) := by decide +kernel
theorem dJ11_lowSurrogate_5068e_0 : decode cJ11_lowSurrogate_5068e 0 = .ok (.iload_n 0, 1) := by decide +kernel
theorem dJ11_lowSurrogate_5068e_1 : decode cJ11_lowSurrogate_5068e 1 = .ok (.sipush 1023, 3) := by decide +kernel
theorem dJ11_lowSurrogate_5068e_4 : decode cJ11_lowSurrogate_5068e 4 = .ok (.iand, 1) := by decide +kernel
theorem dJ11_lowSurrogate_5068e_5 : decode cJ11_lowSurrogate_5068e 5 = .ok (.ldc 76, 2) := by decide +kernel
theorem dJ11_lowSurrogate_5068e_7 : decode cJ11_lowSurrogate_5068e 7 = .ok (.iadd, 1) := by decide +kernel
theorem dJ11_lowSurrogate_5068e_8 : decode cJ11_lowSurrogate_5068e 8 = .ok (.i2c, 1) := by decide +kernel
theorem dJ11_lowSurrogate_5068e_9 : decode cJ11_lowSurrogate_5068e 9 = .ok (.ireturn, 1) := by decide +kernel
theorem dJ6_bitCount_0f7a4_0 : decode cJ6_bitCount_0f7a4 0 = .ok (.iload_n 0, 1) := by decide +kernel
theorem dJ6_bitCount_0f7a4_1 : decode cJ6_bitCount_0f7a4 1 = .ok (.iload_n 0, 1) := by decide +kernel
theorem dJ6_bitCount_0f7a4_2 : decode cJ6_bitCount_0f7a4 2 = .ok (.iconst 1, 1) := by decide +kernel
theorem dJ6_bitCount_0f7a4_3 : decode cJ6_bitCount_0f7a4 3 = .ok (.iushr, 1) := by decide +kernel
theorem dJ6_bitCount_0f7a4_4 : decode cJ6_bitCount_0f7a4 4 = .ok (.ldc_w 265, 3) := by decide +kernel
theorem dJ6_bitCount_0f7a4_7 : decode cJ6_bitCount_0f7a4 7 = .ok (.iand, 1) := by decide +kernel
theorem dJ6_bitCount_0f7a4_8 : decode cJ6_bitCount_0f7a4 8 = .ok (.isub, 1) := by decide +kernel
theorem dJ6_bitCount_0f7a4_9 : decode cJ6_bitCount_0f7a4 9 = .ok (.istore_n 0, 1) := by decide +kernel
theorem dJ6_bitCount_0f7a4_10 : decode cJ6_bitCount_0f7a4 10 = .ok (.iload_n 0, 1) := by decide +kernel
theorem dJ6_bitCount_0f7a4_11 : decode cJ6_bitCount_0f7a4 11 = .ok (.ldc_w 266, 3) := by decide +kernel
theorem dJ6_bitCount_0f7a4_14 : decode cJ6_bitCount_0f7a4 14 = .ok (.iand, 1) := by decide +kernel
theorem dJ6_bitCount_0f7a4_15 : decode cJ6_bitCount_0f7a4 15 = .ok (.iload_n 0, 1) := by decide +kernel
theorem dJ6_bitCount_0f7a4_16 : decode cJ6_bitCount_0f7a4 16 = .ok (.iconst 2, 1) := by decide +kernel
theorem dJ6_bitCount_0f7a4_17 : decode cJ6_bitCount_0f7a4 17 = .ok (.iushr, 1) := by decide +kernel
theorem dJ6_bitCount_0f7a4_18 : decode cJ6_bitCount_0f7a4 18 = .ok (.ldc_w 266, 3) := by decide +kernel
theorem dJ6_bitCount_0f7a4_21 : decode cJ6_bitCount_0f7a4 21 = .ok (.iand, 1) := by decide +kernel
theorem dJ6_bitCount_0f7a4_22 : decode cJ6_bitCount_0f7a4 22 = .ok (.iadd, 1) := by decide +kernel
theorem dJ6_bitCount_0f7a4_23 : decode cJ6_bitCount_0f7a4 23 = .ok (.istore_n 0, 1) := by decide +kernel
theorem dJ6_bitCount_0f7a4_24 : decode cJ6_bitCount_0f7a4 24 = .ok (.iload_n 0, 1) := by decide +kernel
theorem dJ6_bitCount_0f7a4_25 : decode cJ6_bitCount_0f7a4 25 = .ok (.iload_n 0, 1) := by decide +kernel
theorem dJ6_bitCount_0f7a4_26 : decode cJ6_bitCount_0f7a4 26 = .ok (.iconst 4, 1) := by decide +kernel
theorem dJ6_bitCount_0f7a4_27 : decode cJ6_bitCount_0f7a4 27 = .ok (.iushr, 1) := by decide +kernel
theorem dJ6_bitCount_0f7a4_28 : decode cJ6_bitCount_0f7a4 28 = .ok (.iadd, 1) := by decide +kernel
theorem dJ6_bitCount_0f7a4_29 : decode cJ6_bitCount_0f7a4 29 = .ok (.ldc_w 267, 3) := by decide +kernel
theorem dJ6_bitCount_0f7a4_32 : decode cJ6_bitCount_0f7a4 32 = .ok (.iand, 1) := by decide +kernel
theorem dJ6_bitCount_0f7a4_33 : decode cJ6_bitCount_0f7a4 33 = .ok (.istore_n 0, 1) := by decide +kernel
theorem dJ6_bitCount_0f7a4_34 : decode cJ6_bitCount_0f7a4 34 = .ok (.iload_n 0, 1) := by decide +kernel
theorem dJ6_bitCount_0f7a4_35 : decode cJ6_bitCount_0f7a4 35 = .ok (.iload_n 0, 1) := by decide +kernel
theorem dJ6_bitCount_0f7a4_36 : decode cJ6_bitCount_0f7a4 36 = .ok (.bipush 8, 2) := by decide +kernel
theorem dJ6_bitCount_0f7a4_38 : decode cJ6_bitCount_0f7a4 38 = .ok (.iushr, 1) := by decide +kernel
theorem dJ6_bitCount_0f7a4_39 : decode cJ6_bitCount_0f7a4 39 = .ok (.iadd, 1) := by decide +kernel
theorem dJ6_bitCount_0f7a4_40 : decode cJ6_bitCount_0f7a4 40 = .ok (.istore_n 0, 1) := by decide +kernel
theorem dJ6_bitCount_0f7a4_41 : decode cJ6_bitCount_0f7a4 41 = .ok (.iload_n 0, 1) := by decide +kernel
theorem dJ6_bitCount_0f7a4_42 : decode cJ6_bitCount_0f7a4 42 = .ok (.iload_n 0, 1) := by decide +kernel
theorem dJ6_bitCount_0f7a4_43 : decode cJ6_bitCount_0f7a4 43 = .ok (.bipush 16, 2) := by decide +kernel
theorem dJ6_bitCount_0f7a4_45 : decode cJ6_bitCount_0f7a4 45 = .ok (.iushr, 1) := by decide +kernel
theorem dJ6_bitCount_0f7a4_46 : decode cJ6_bitCount_0f7a4 46 = .ok (.iadd, 1) := by decide +kernel
theorem dJ6_bitCount_0f7a4_47 : decode cJ6_bitCount_0f7a4 47 = .ok (.istore_n 0, 1) := by decide +kernel
theorem dJ6_bitCount_0f7a4_48 : decode cJ6_bitCount_0f7a4 48 = .ok (.iload_n 0, 1) := by decide +kernel
theorem dJ6_bitCount_0f7a4_49 : decode cJ6_bitCount_0f7a4 49 = .ok (.bipush 63, 2) := by decide +kernel
theorem dJ6_bitCount_0f7a4_51 : decode cJ6_bitCount_0f7a4 51 = .ok (.iand, 1) := by decide +kernel
theorem dJ6_bitCount_0f7a4_52 : decode cJ6_bitCount_0f7a4 52 = .ok (.ireturn, 1) := by decide +kernel
theorem dJ6_signum_0f7a4_0 : decode cJ6_signum_0f7a4 0 = .ok (.iload_n 0, 1) := by decide +kernel
theorem dJ6_signum_0f7a4_1 : decode cJ6_signum_0f7a4 1 = .ok (.bipush 31, 2) := by decide +kernel
theorem dJ6_signum_0f7a4_3 : decode cJ6_signum_0f7a4 3 = .ok (.ishr, 1) := by decide +kernel
theorem dJ6_signum_0f7a4_4 : decode cJ6_signum_0f7a4 4 = .ok (.iload_n 0, 1) := by decide +kernel
theorem dJ6_signum_0f7a4_5 : decode cJ6_signum_0f7a4 5 = .ok (.ineg, 1) := by decide +kernel
theorem dJ6_signum_0f7a4_6 : decode cJ6_signum_0f7a4 6 = .ok (.bipush 31, 2) := by decide +kernel
theorem dJ6_signum_0f7a4_8 : decode cJ6_signum_0f7a4 8 = .ok (.iushr, 1) := by decide +kernel
theorem dJ6_signum_0f7a4_9 : decode cJ6_signum_0f7a4 9 = .ok (.ior, 1) := by decide +kernel
theorem dJ6_signum_0f7a4_10 : decode cJ6_signum_0f7a4 10 = .ok (.ireturn, 1) := by decide +kernel
theorem dJ9_abs_0f7a4_0 : decode cJ9_abs_0f7a4 0 = .ok (.iload_n 0, 1) := by decide +kernel
theorem dJ9_abs_0f7a4_1 : decode cJ9_abs_0f7a4 1 = .ok (.ifCond .ge 8, 3) := by decide +kernel
theorem dJ9_abs_0f7a4_4 : decode cJ9_abs_0f7a4 4 = .ok (.iload_n 0, 1) := by decide +kernel
theorem dJ9_abs_0f7a4_5 : decode cJ9_abs_0f7a4 5 = .ok (.ineg, 1) := by decide +kernel
theorem dJ9_abs_0f7a4_6 : decode cJ9_abs_0f7a4 6 = .ok (.goto 4, 3) := by decide +kernel
theorem dJ9_abs_0f7a4_9 : decode cJ9_abs_0f7a4 9 = .ok (.iload_n 0, 1) := by decide +kernel
theorem dJ9_abs_0f7a4_10 : decode cJ9_abs_0f7a4 10 = .ok (.ireturn, 1) := by decide +kernel
theorem dJ9_max_7cf53_0 : decode cJ9_max_7cf53 0 = .ok (.iload_n 0, 1) := by decide +kernel
theorem dJ9_max_7cf53_1 : decode cJ9_max_7cf53 1 = .ok (.iload_n 1, 1) := by decide +kernel
theorem dJ9_max_7cf53_2 : decode cJ9_max_7cf53 2 = .ok (.if_icmp .lt 7, 3) := by decide +kernel
theorem dJ9_max_7cf53_5 : decode cJ9_max_7cf53 5 = .ok (.iload_n 0, 1) := by decide +kernel
theorem dJ9_max_7cf53_6 : decode cJ9_max_7cf53 6 = .ok (.goto 4, 3) := by decide +kernel
theorem dJ9_max_7cf53_9 : decode cJ9_max_7cf53 9 = .ok (.iload_n 1, 1) := by decide +kernel
theorem dJ9_max_7cf53_10 : decode cJ9_max_7cf53 10 = .ok (.ireturn, 1) := by decide +kernel
theorem dJ9_min_7cf53_0 : decode cJ9_min_7cf53 0 = .ok (.iload_n 0, 1) := by decide +kernel
theorem dJ9_min_7cf53_1 : decode cJ9_min_7cf53 1 = .ok (.iload_n 1, 1) := by decide +kernel
theorem dJ9_min_7cf53_2 : decode cJ9_min_7cf53 2 = .ok (.if_icmp .gt 7, 3) := by decide +kernel
theorem dJ9_min_7cf53_5 : decode cJ9_min_7cf53 5 = .ok (.iload_n 0, 1) := by decide +kernel
theorem dJ9_min_7cf53_6 : decode cJ9_min_7cf53 6 = .ok (.goto 4, 3) := by decide +kernel
theorem dJ9_min_7cf53_9 : decode cJ9_min_7cf53 9 = .ok (.iload_n 1, 1) := by decide +kernel
theorem dJ9_min_7cf53_10 : decode cJ9_min_7cf53 10 = .ok (.ireturn, 1) := by decide +kernel
theorem dJ0_length_8abf5_0 : decode cJ0_length_8abf5 0 = .ok (.aload_n 0, 1) := by decide +kernel
theorem dJ0_length_8abf5_1 : decode cJ0_length_8abf5 1 = .ok (.getfield 9, 3) := by decide +kernel
theorem dJ0_length_8abf5_4 : decode cJ0_length_8abf5 4 = .ok (.arraylength, 1) := by decide +kernel
theorem dJ0_length_8abf5_5 : decode cJ0_length_8abf5 5 = .ok (.aload_n 0, 1) := by decide +kernel
theorem dJ0_length_8abf5_6 : decode cJ0_length_8abf5 6 = .ok (.invokevirtual 335, 3) := by decide +kernel
theorem dJ0_length_8abf5_9 : decode cJ0_length_8abf5 9 = .ok (.ishr, 1) := by decide +kernel
theorem dJ0_length_8abf5_10 : decode cJ0_length_8abf5 10 = .ok (.ireturn, 1) := by decide +kernel
theorem dJ0_charAt_5068e_0 : decode cJ0_charAt_5068e 0 = .ok (.aload_n 0, 1) := by decide +kernel
theorem dJ0_charAt_5068e_1 : decode cJ0_charAt_5068e 1 = .ok (.invokevirtual 492, 3) := by decide +kernel
theorem dJ0_charAt_5068e_4 : decode cJ0_charAt_5068e 4 = .ok (.ifCond .eq 12, 3) := by decide +kernel
theorem dJ0_charAt_5068e_7 : decode cJ0_charAt_5068e 7 = .ok (.aload_n 0, 1) := by decide +kernel
theorem dJ0_charAt_5068e_8 : decode cJ0_charAt_5068e 8 = .ok (.getfield 9, 3) := by decide +kernel
theorem dJ0_charAt_5068e_11 : decode cJ0_charAt_5068e 11 = .ok (.iload_n 1, 1) := by decide +kernel
theorem dJ0_charAt_5068e_12 : decode cJ0_charAt_5068e 12 = .ok (.invokestatic 495, 3) := by decide +kernel
theorem dJ0_charAt_5068e_15 : decode cJ0_charAt_5068e 15 = .ok (.ireturn, 1) := by decide +kernel
theorem dJ0_charAt_5068e_16 : decode cJ0_charAt_5068e 16 = .ok (.aload_n 0, 1) := by decide +kernel
theorem dJ0_charAt_5068e_17 : decode cJ0_charAt_5068e 17 = .ok (.getfield 9, 3) := by decide +kernel
theorem dJ0_charAt_5068e_20 : decode cJ0_charAt_5068e 20 = .ok (.iload_n 1, 1) := by decide +kernel
theorem dJ0_charAt_5068e_21 : decode cJ0_charAt_5068e 21 = .ok (.invokestatic 498, 3) := by decide +kernel
theorem dJ0_charAt_5068e_24 : decode cJ0_charAt_5068e 24 = .ok (.ireturn, 1) := by decide +kernel
theorem dJ0_indexOf_0f7a4_0 : decode cJ0_indexOf_0f7a4 0 = .ok (.aload_n 0, 1) := by decide +kernel
theorem dJ0_indexOf_0f7a4_1 : decode cJ0_indexOf_0f7a4 1 = .ok (.iload_n 1, 1) := by decide +kernel
theorem dJ0_indexOf_0f7a4_2 : decode cJ0_indexOf_0f7a4 2 = .ok (.iconst 0, 1) := by decide +kernel
theorem dJ0_indexOf_0f7a4_3 : decode cJ0_indexOf_0f7a4 3 = .ok (.invokevirtual 633, 3) := by decide +kernel
theorem dJ0_indexOf_0f7a4_6 : decode cJ0_indexOf_0f7a4 6 = .ok (.ireturn, 1) := by decide +kernel
theorem dJ0_indexOf_7cf53_0 : decode cJ0_indexOf_7cf53 0 = .ok (.aload_n 0, 1) := by decide +kernel
theorem dJ0_indexOf_7cf53_1 : decode cJ0_indexOf_7cf53 1 = .ok (.invokevirtual 492, 3) := by decide +kernel
theorem dJ0_indexOf_7cf53_4 : decode cJ0_indexOf_7cf53 4 = .ok (.ifCond .eq 19, 3) := by decide +kernel
theorem dJ0_indexOf_7cf53_7 : decode cJ0_indexOf_7cf53 7 = .ok (.aload_n 0, 1) := by decide +kernel
theorem dJ0_indexOf_7cf53_8 : decode cJ0_indexOf_7cf53 8 = .ok (.getfield 9, 3) := by decide +kernel
theorem dJ0_indexOf_7cf53_11 : decode cJ0_indexOf_7cf53 11 = .ok (.iload_n 1, 1) := by decide +kernel
theorem dJ0_indexOf_7cf53_12 : decode cJ0_indexOf_7cf53 12 = .ok (.iload_n 2, 1) := by decide +kernel
theorem dJ0_indexOf_7cf53_13 : decode cJ0_indexOf_7cf53 13 = .ok (.aload_n 0, 1) := by decide +kernel
theorem dJ0_indexOf_7cf53_14 : decode cJ0_indexOf_7cf53 14 = .ok (.invokevirtual 505, 3) := by decide +kernel
theorem dJ0_indexOf_7cf53_17 : decode cJ0_indexOf_7cf53 17 = .ok (.invokestatic 637, 3) := by decide +kernel
theorem dJ0_indexOf_7cf53_20 : decode cJ0_indexOf_7cf53 20 = .ok (.goto 16, 3) := by decide +kernel
theorem dJ0_indexOf_7cf53_23 : decode cJ0_indexOf_7cf53 23 = .ok (.aload_n 0, 1) := by decide +kernel
theorem dJ0_indexOf_7cf53_24 : decode cJ0_indexOf_7cf53 24 = .ok (.getfield 9, 3) := by decide +kernel
theorem dJ0_indexOf_7cf53_27 : decode cJ0_indexOf_7cf53 27 = .ok (.iload_n 1, 1) := by decide +kernel
theorem dJ0_indexOf_7cf53_28 : decode cJ0_indexOf_7cf53 28 = .ok (.iload_n 2, 1) := by decide +kernel
theorem dJ0_indexOf_7cf53_29 : decode cJ0_indexOf_7cf53 29 = .ok (.aload_n 0, 1) := by decide +kernel
theorem dJ0_indexOf_7cf53_30 : decode cJ0_indexOf_7cf53 30 = .ok (.invokevirtual 505, 3) := by decide +kernel
theorem dJ0_indexOf_7cf53_33 : decode cJ0_indexOf_7cf53 33 = .ok (.invokestatic 640, 3) := by decide +kernel
theorem dJ0_indexOf_7cf53_36 : decode cJ0_indexOf_7cf53 36 = .ok (.ireturn, 1) := by decide +kernel
theorem dJ0_coder_7d493_0 : decode cJ0_coder_7d493 0 = .ok (.getstatic 38, 3) := by decide +kernel
theorem dJ0_coder_7d493_3 : decode cJ0_coder_7d493 3 = .ok (.ifCond .eq 10, 3) := by decide +kernel
theorem dJ0_coder_7d493_6 : decode cJ0_coder_7d493 6 = .ok (.aload_n 0, 1) := by decide +kernel
theorem dJ0_coder_7d493_7 : decode cJ0_coder_7d493 7 = .ok (.getfield 15, 3) := by decide +kernel
theorem dJ0_coder_7d493_10 : decode cJ0_coder_7d493 10 = .ok (.goto 4, 3) := by decide +kernel
theorem dJ0_coder_7d493_13 : decode cJ0_coder_7d493 13 = .ok (.iconst 1, 1) := by decide +kernel
theorem dJ0_coder_7d493_14 : decode cJ0_coder_7d493 14 = .ok (.ireturn, 1) := by decide +kernel
theorem dJ0_isLatin1_aae02_0 : decode cJ0_isLatin1_aae02 0 = .ok (.getstatic 38, 3) := by decide +kernel
theorem dJ0_isLatin1_aae02_3 : decode cJ0_isLatin1_aae02 3 = .ok (.ifCond .eq 14, 3) := by decide +kernel
theorem dJ0_isLatin1_aae02_6 : decode cJ0_isLatin1_aae02 6 = .ok (.aload_n 0, 1) := by decide +kernel
theorem dJ0_isLatin1_aae02_7 : decode cJ0_isLatin1_aae02 7 = .ok (.getfield 15, 3) := by decide +kernel
theorem dJ0_isLatin1_aae02_10 : decode cJ0_isLatin1_aae02 10 = .ok (.ifCond .ne 7, 3) := by decide +kernel
theorem dJ0_isLatin1_aae02_13 : decode cJ0_isLatin1_aae02 13 = .ok (.iconst 1, 1) := by decide +kernel
theorem dJ0_isLatin1_aae02_14 : decode cJ0_isLatin1_aae02 14 = .ok (.goto 4, 3) := by decide +kernel
theorem dJ0_isLatin1_aae02_17 : decode cJ0_isLatin1_aae02 17 = .ok (.iconst 0, 1) := by decide +kernel
theorem dJ0_isLatin1_aae02_18 : decode cJ0_isLatin1_aae02 18 = .ok (.ireturn, 1) := by decide +kernel
theorem dJ0_checkIndex_df160_0 : decode cJ0_checkIndex_df160 0 = .ok (.iload_n 0, 1) := by decide +kernel
theorem dJ0_checkIndex_df160_1 : decode cJ0_checkIndex_df160 1 = .ok (.iload_n 1, 1) := by decide +kernel
theorem dJ0_checkIndex_df160_2 : decode cJ0_checkIndex_df160 2 = .ok (.getstatic 1053, 3) := by decide +kernel
theorem dJ0_checkIndex_df160_5 : decode cJ0_checkIndex_df160 5 = .ok (.invokestatic 1059, 3) := by decide +kernel
theorem dJ0_checkIndex_df160_8 : decode cJ0_checkIndex_df160 8 = .ok (.pop, 1) := by decide +kernel
theorem dJ0_checkIndex_df160_9 : decode cJ0_checkIndex_df160 9 = .ok (.return_, 1) := by decide +kernel
theorem dJ0_checkBoundsBeginEnd_23922_0 : decode cJ0_checkBoundsBeginEnd_23922 0 = .ok (.iload_n 0, 1) := by decide +kernel
theorem dJ0_checkBoundsBeginEnd_23922_1 : decode cJ0_checkBoundsBeginEnd_23922 1 = .ok (.iload_n 1, 1) := by decide +kernel
theorem dJ0_checkBoundsBeginEnd_23922_2 : decode cJ0_checkBoundsBeginEnd_23922 2 = .ok (.iload_n 2, 1) := by decide +kernel
theorem dJ0_checkBoundsBeginEnd_23922_3 : decode cJ0_checkBoundsBeginEnd_23922 3 = .ok (.getstatic 1053, 3) := by decide +kernel
theorem dJ0_checkBoundsBeginEnd_23922_6 : decode cJ0_checkBoundsBeginEnd_23922 6 = .ok (.invokestatic 1062, 3) := by decide +kernel
theorem dJ0_checkBoundsBeginEnd_23922_9 : decode cJ0_checkBoundsBeginEnd_23922 9 = .ok (.pop, 1) := by decide +kernel
theorem dJ0_checkBoundsBeginEnd_23922_10 : decode cJ0_checkBoundsBeginEnd_23922 10 = .ok (.return_, 1) := by decide +kernel
theorem dJ1_charAt_3b067_0 : decode cJ1_charAt_3b067 0 = .ok (.iload_n 1, 1) := by decide +kernel
theorem dJ1_charAt_3b067_1 : decode cJ1_charAt_3b067 1 = .ok (.aload_n 0, 1) := by decide +kernel
theorem dJ1_charAt_3b067_2 : decode cJ1_charAt_3b067 2 = .ok (.arraylength, 1) := by decide +kernel
theorem dJ1_charAt_3b067_3 : decode cJ1_charAt_3b067 3 = .ok (.invokestatic 9, 3) := by decide +kernel
theorem dJ1_charAt_3b067_6 : decode cJ1_charAt_3b067 6 = .ok (.aload_n 0, 1) := by decide +kernel
theorem dJ1_charAt_3b067_7 : decode cJ1_charAt_3b067 7 = .ok (.iload_n 1, 1) := by decide +kernel
theorem dJ1_charAt_3b067_8 : decode cJ1_charAt_3b067 8 = .ok (.baload, 1) := by decide +kernel
theorem dJ1_charAt_3b067_9 : decode cJ1_charAt_3b067 9 = .ok (.sipush 255, 3) := by decide +kernel
theorem dJ1_charAt_3b067_12 : decode cJ1_charAt_3b067 12 = .ok (.iand, 1) := by decide +kernel
theorem dJ1_charAt_3b067_13 : decode cJ1_charAt_3b067 13 = .ok (.i2c, 1) := by decide +kernel
theorem dJ1_charAt_3b067_14 : decode cJ1_charAt_3b067 14 = .ok (.ireturn, 1) := by decide +kernel
theorem dJ1_canEncode_9a6ad_0 : decode cJ1_canEncode_9a6ad 0 = .ok (.iload_n 0, 1) := by decide +kernel
theorem dJ1_canEncode_9a6ad_1 : decode cJ1_canEncode_9a6ad 1 = .ok (.ifCond .lt 14, 3) := by decide +kernel
theorem dJ1_canEncode_9a6ad_4 : decode cJ1_canEncode_9a6ad 4 = .ok (.iload_n 0, 1) := by decide +kernel
theorem dJ1_canEncode_9a6ad_5 : decode cJ1_canEncode_9a6ad 5 = .ok (.sipush 255, 3) := by decide +kernel
theorem dJ1_canEncode_9a6ad_8 : decode cJ1_canEncode_9a6ad 8 = .ok (.if_icmp .gt 7, 3) := by decide +kernel
theorem dJ1_canEncode_9a6ad_11 : decode cJ1_canEncode_9a6ad 11 = .ok (.iconst 1, 1) := by decide +kernel
theorem dJ1_canEncode_9a6ad_12 : decode cJ1_canEncode_9a6ad 12 = .ok (.goto 4, 3) := by decide +kernel
theorem dJ1_canEncode_9a6ad_15 : decode cJ1_canEncode_9a6ad 15 = .ok (.iconst 0, 1) := by decide +kernel
theorem dJ1_canEncode_9a6ad_16 : decode cJ1_canEncode_9a6ad 16 = .ok (.ireturn, 1) := by decide +kernel
theorem dJ1_indexOf_4cfef_0 : decode cJ1_indexOf_4cfef 0 = .ok (.iload_n 1, 1) := by decide +kernel
theorem dJ1_indexOf_4cfef_1 : decode cJ1_indexOf_4cfef 1 = .ok (.invokestatic 88, 3) := by decide +kernel
theorem dJ1_indexOf_4cfef_4 : decode cJ1_indexOf_4cfef 4 = .ok (.ifCond .ne 5, 3) := by decide +kernel
theorem dJ1_indexOf_4cfef_7 : decode cJ1_indexOf_4cfef 7 = .ok (.iconst (-1), 1) := by decide +kernel
theorem dJ1_indexOf_4cfef_8 : decode cJ1_indexOf_4cfef 8 = .ok (.ireturn, 1) := by decide +kernel
theorem dJ1_indexOf_4cfef_9 : decode cJ1_indexOf_4cfef 9 = .ok (.iload_n 2, 1) := by decide +kernel
theorem dJ1_indexOf_4cfef_10 : decode cJ1_indexOf_4cfef 10 = .ok (.iconst 0, 1) := by decide +kernel
theorem dJ1_indexOf_4cfef_11 : decode cJ1_indexOf_4cfef 11 = .ok (.invokestatic 92, 3) := by decide +kernel
theorem dJ1_indexOf_4cfef_14 : decode cJ1_indexOf_4cfef 14 = .ok (.istore_n 2, 1) := by decide +kernel
theorem dJ1_indexOf_4cfef_15 : decode cJ1_indexOf_4cfef 15 = .ok (.iload_n 3, 1) := by decide +kernel
theorem dJ1_indexOf_4cfef_16 : decode cJ1_indexOf_4cfef 16 = .ok (.aload_n 0, 1) := by decide +kernel
theorem dJ1_indexOf_4cfef_17 : decode cJ1_indexOf_4cfef 17 = .ok (.arraylength, 1) := by decide +kernel
theorem dJ1_indexOf_4cfef_18 : decode cJ1_indexOf_4cfef 18 = .ok (.invokestatic 38, 3) := by decide +kernel
theorem dJ1_indexOf_4cfef_21 : decode cJ1_indexOf_4cfef 21 = .ok (.istore_n 3, 1) := by decide +kernel
theorem dJ1_indexOf_4cfef_22 : decode cJ1_indexOf_4cfef 22 = .ok (.iload_n 2, 1) := by decide +kernel
theorem dJ1_indexOf_4cfef_23 : decode cJ1_indexOf_4cfef 23 = .ok (.iload_n 3, 1) := by decide +kernel
theorem dJ1_indexOf_4cfef_24 : decode cJ1_indexOf_4cfef 24 = .ok (.if_icmp .lt 5, 3) := by decide +kernel
theorem dJ1_indexOf_4cfef_27 : decode cJ1_indexOf_4cfef 27 = .ok (.iconst (-1), 1) := by decide +kernel
theorem dJ1_indexOf_4cfef_28 : decode cJ1_indexOf_4cfef 28 = .ok (.ireturn, 1) := by decide +kernel
theorem dJ1_indexOf_4cfef_29 : decode cJ1_indexOf_4cfef 29 = .ok (.aload_n 0, 1) := by decide +kernel
theorem dJ1_indexOf_4cfef_30 : decode cJ1_indexOf_4cfef 30 = .ok (.iload_n 1, 1) := by decide +kernel
theorem dJ1_indexOf_4cfef_31 : decode cJ1_indexOf_4cfef 31 = .ok (.iload_n 2, 1) := by decide +kernel
theorem dJ1_indexOf_4cfef_32 : decode cJ1_indexOf_4cfef 32 = .ok (.iload_n 3, 1) := by decide +kernel
theorem dJ1_indexOf_4cfef_33 : decode cJ1_indexOf_4cfef 33 = .ok (.invokestatic 95, 3) := by decide +kernel
theorem dJ1_indexOf_4cfef_36 : decode cJ1_indexOf_4cfef 36 = .ok (.ireturn, 1) := by decide +kernel
theorem dJ1_indexOfChar_4cfef_0 : decode cJ1_indexOfChar_4cfef 0 = .ok (.iload_n 1, 1) := by decide +kernel
theorem dJ1_indexOfChar_4cfef_1 : decode cJ1_indexOfChar_4cfef 1 = .ok (.i2b, 1) := by decide +kernel
theorem dJ1_indexOfChar_4cfef_2 : decode cJ1_indexOfChar_4cfef 2 = .ok (.istore 4, 2) := by decide +kernel
theorem dJ1_indexOfChar_4cfef_4 : decode cJ1_indexOfChar_4cfef 4 = .ok (.iload_n 2, 1) := by decide +kernel
theorem dJ1_indexOfChar_4cfef_5 : decode cJ1_indexOfChar_4cfef 5 = .ok (.istore 5, 2) := by decide +kernel
theorem dJ1_indexOfChar_4cfef_7 : decode cJ1_indexOfChar_4cfef 7 = .ok (.iload 5, 2) := by decide +kernel
theorem dJ1_indexOfChar_4cfef_9 : decode cJ1_indexOfChar_4cfef 9 = .ok (.iload_n 3, 1) := by decide +kernel
theorem dJ1_indexOfChar_4cfef_10 : decode cJ1_indexOfChar_4cfef 10 = .ok (.if_icmp .ge 21, 3) := by decide +kernel
theorem dJ1_indexOfChar_4cfef_13 : decode cJ1_indexOfChar_4cfef 13 = .ok (.aload_n 0, 1) := by decide +kernel
theorem dJ1_indexOfChar_4cfef_14 : decode cJ1_indexOfChar_4cfef 14 = .ok (.iload 5, 2) := by decide +kernel
theorem dJ1_indexOfChar_4cfef_16 : decode cJ1_indexOfChar_4cfef 16 = .ok (.baload, 1) := by decide +kernel
theorem dJ1_indexOfChar_4cfef_17 : decode cJ1_indexOfChar_4cfef 17 = .ok (.iload 4, 2) := by decide +kernel
theorem dJ1_indexOfChar_4cfef_19 : decode cJ1_indexOfChar_4cfef 19 = .ok (.if_icmp .ne 6, 3) := by decide +kernel
theorem dJ1_indexOfChar_4cfef_22 : decode cJ1_indexOfChar_4cfef 22 = .ok (.iload 5, 2) := by decide +kernel
theorem dJ1_indexOfChar_4cfef_24 : decode cJ1_indexOfChar_4cfef 24 = .ok (.ireturn, 1) := by decide +kernel
theorem dJ1_indexOfChar_4cfef_25 : decode cJ1_indexOfChar_4cfef 25 = .ok (.iinc 5 1, 3) := by decide +kernel
theorem dJ1_indexOfChar_4cfef_28 : decode cJ1_indexOfChar_4cfef 28 = .ok (.goto (-21), 3) := by decide +kernel
theorem dJ1_indexOfChar_4cfef_31 : decode cJ1_indexOfChar_4cfef 31 = .ok (.iconst (-1), 1) := by decide +kernel
theorem dJ1_indexOfChar_4cfef_32 : decode cJ1_indexOfChar_4cfef 32 = .ok (.ireturn, 1) := by decide +kernel
theorem dJ2_getChar_3b067_0 : decode cJ2_getChar_3b067 0 = .ok (.getstatic 44, 3) := by decide +kernel
theorem dJ2_getChar_3b067_3 : decode cJ2_getChar_3b067 3 = .ok (.ifCond .ne 25, 3) := by decide +kernel
theorem dJ2_getChar_3b067_6 : decode cJ2_getChar_3b067 6 = .ok (.iload_n 1, 1) := by decide +kernel
theorem dJ2_getChar_3b067_7 : decode cJ2_getChar_3b067 7 = .ok (.ifCond .lt 11, 3) := by decide +kernel
theorem dJ2_getChar_3b067_10 : decode cJ2_getChar_3b067 10 = .ok (.iload_n 1, 1) := by decide +kernel
theorem dJ2_getChar_3b067_11 : decode cJ2_getChar_3b067 11 = .ok (.aload_n 0, 1) := by decide +kernel
theorem dJ2_getChar_3b067_12 : decode cJ2_getChar_3b067 12 = .ok (.invokestatic 48, 3) := by decide +kernel
theorem dJ2_getChar_3b067_15 : decode cJ2_getChar_3b067 15 = .ok (.if_icmp .lt 13, 3) := by decide +kernel
theorem dJ2_getChar_3b067_18 : decode cJ2_getChar_3b067 18 = .ok (.new 52, 3) := by decide +kernel
theorem dJ2_getChar_3b067_21 : decode cJ2_getChar_3b067 21 = .ok (.dup, 1) := by decide +kernel
theorem dJ2_getChar_3b067_22 : decode cJ2_getChar_3b067 22 = .ok (.ldc 54, 2) := by decide +kernel
theorem dJ2_getChar_3b067_24 : decode cJ2_getChar_3b067 24 = .ok (.invokespecial 56, 3) := by decide +kernel
theorem dJ2_getChar_3b067_27 : decode cJ2_getChar_3b067 27 = .ok (.athrow, 1) := by decide +kernel
theorem dJ2_getChar_3b067_28 : decode cJ2_getChar_3b067 28 = .ok (.iload_n 1, 1) := by decide +kernel
theorem dJ2_getChar_3b067_29 : decode cJ2_getChar_3b067 29 = .ok (.iconst 1, 1) := by decide +kernel
theorem dJ2_getChar_3b067_30 : decode cJ2_getChar_3b067 30 = .ok (.ishl, 1) := by decide +kernel
theorem dJ2_getChar_3b067_31 : decode cJ2_getChar_3b067 31 = .ok (.istore_n 1, 1) := by decide +kernel
theorem dJ2_getChar_3b067_32 : decode cJ2_getChar_3b067 32 = .ok (.aload_n 0, 1) := by decide +kernel
theorem dJ2_getChar_3b067_33 : decode cJ2_getChar_3b067 33 = .ok (.iload_n 1, 1) := by decide +kernel
theorem dJ2_getChar_3b067_34 : decode cJ2_getChar_3b067 34 = .ok (.iinc 1 1, 3) := by decide +kernel
theorem dJ2_getChar_3b067_37 : decode cJ2_getChar_3b067 37 = .ok (.baload, 1) := by decide +kernel
theorem dJ2_getChar_3b067_38 : decode cJ2_getChar_3b067 38 = .ok (.sipush 255, 3) := by decide +kernel
theorem dJ2_getChar_3b067_41 : decode cJ2_getChar_3b067 41 = .ok (.iand, 1) := by decide +kernel
theorem dJ2_getChar_3b067_42 : decode cJ2_getChar_3b067 42 = .ok (.getstatic 59, 3) := by decide +kernel
theorem dJ2_getChar_3b067_45 : decode cJ2_getChar_3b067 45 = .ok (.ishl, 1) := by decide +kernel
theorem dJ2_getChar_3b067_46 : decode cJ2_getChar_3b067 46 = .ok (.aload_n 0, 1) := by decide +kernel
theorem dJ2_getChar_3b067_47 : decode cJ2_getChar_3b067 47 = .ok (.iload_n 1, 1) := by decide +kernel
theorem dJ2_getChar_3b067_48 : decode cJ2_getChar_3b067 48 = .ok (.baload, 1) := by decide +kernel
theorem dJ2_getChar_3b067_49 : decode cJ2_getChar_3b067 49 = .ok (.sipush 255, 3) := by decide +kernel
theorem dJ2_getChar_3b067_52 : decode cJ2_getChar_3b067 52 = .ok (.iand, 1) := by decide +kernel
theorem dJ2_getChar_3b067_53 : decode cJ2_getChar_3b067 53 = .ok (.getstatic 63, 3) := by decide +kernel
theorem dJ2_getChar_3b067_56 : decode cJ2_getChar_3b067 56 = .ok (.ishl, 1) := by decide +kernel
theorem dJ2_getChar_3b067_57 : decode cJ2_getChar_3b067 57 = .ok (.ior, 1) := by decide +kernel
theorem dJ2_getChar_3b067_58 : decode cJ2_getChar_3b067 58 = .ok (.i2c, 1) := by decide +kernel
theorem dJ2_getChar_3b067_59 : decode cJ2_getChar_3b067 59 = .ok (.ireturn, 1) := by decide +kernel
theorem dJ2_length_9d52b_0 : decode cJ2_length_9d52b 0 = .ok (.aload_n 0, 1) := by decide +kernel
theorem dJ2_length_9d52b_1 : decode cJ2_length_9d52b 1 = .ok (.arraylength, 1) := by decide +kernel
theorem dJ2_length_9d52b_2 : decode cJ2_length_9d52b 2 = .ok (.iconst 1, 1) := by decide +kernel
theorem dJ2_length_9d52b_3 : decode cJ2_length_9d52b 3 = .ok (.ishr, 1) := by decide +kernel
theorem dJ2_length_9d52b_4 : decode cJ2_length_9d52b 4 = .ok (.ireturn, 1) := by decide +kernel
theorem dJ2_indexOf_4cfef_0 : decode cJ2_indexOf_4cfef 0 = .ok (.iload_n 2, 1) := by decide +kernel
theorem dJ2_indexOf_4cfef_1 : decode cJ2_indexOf_4cfef 1 = .ok (.iconst 0, 1) := by decide +kernel
theorem dJ2_indexOf_4cfef_2 : decode cJ2_indexOf_4cfef 2 = .ok (.invokestatic 224, 3) := by decide +kernel
theorem dJ2_indexOf_4cfef_5 : decode cJ2_indexOf_4cfef 5 = .ok (.istore_n 2, 1) := by decide +kernel
theorem dJ2_indexOf_4cfef_6 : decode cJ2_indexOf_4cfef 6 = .ok (.iload_n 3, 1) := by decide +kernel
theorem dJ2_indexOf_4cfef_7 : decode cJ2_indexOf_4cfef 7 = .ok (.aload_n 0, 1) := by decide +kernel
theorem dJ2_indexOf_4cfef_8 : decode cJ2_indexOf_4cfef 8 = .ok (.arraylength, 1) := by decide +kernel
theorem dJ2_indexOf_4cfef_9 : decode cJ2_indexOf_4cfef 9 = .ok (.iconst 1, 1) := by decide +kernel
theorem dJ2_indexOf_4cfef_10 : decode cJ2_indexOf_4cfef 10 = .ok (.ishr, 1) := by decide +kernel
theorem dJ2_indexOf_4cfef_11 : decode cJ2_indexOf_4cfef 11 = .ok (.invokestatic 183, 3) := by decide +kernel
theorem dJ2_indexOf_4cfef_14 : decode cJ2_indexOf_4cfef 14 = .ok (.istore_n 3, 1) := by decide +kernel
theorem dJ2_indexOf_4cfef_15 : decode cJ2_indexOf_4cfef 15 = .ok (.iload_n 2, 1) := by decide +kernel
theorem dJ2_indexOf_4cfef_16 : decode cJ2_indexOf_4cfef 16 = .ok (.iload_n 3, 1) := by decide +kernel
theorem dJ2_indexOf_4cfef_17 : decode cJ2_indexOf_4cfef 17 = .ok (.if_icmp .lt 5, 3) := by decide +kernel
theorem dJ2_indexOf_4cfef_20 : decode cJ2_indexOf_4cfef 20 = .ok (.iconst (-1), 1) := by decide +kernel
theorem dJ2_indexOf_4cfef_21 : decode cJ2_indexOf_4cfef 21 = .ok (.ireturn, 1) := by decide +kernel
theorem dJ2_indexOf_4cfef_22 : decode cJ2_indexOf_4cfef 22 = .ok (.iload_n 1, 1) := by decide +kernel
theorem dJ2_indexOf_4cfef_23 : decode cJ2_indexOf_4cfef 23 = .ok (.ldc 227, 2) := by decide +kernel
theorem dJ2_indexOf_4cfef_25 : decode cJ2_indexOf_4cfef 25 = .ok (.if_icmp .ge 11, 3) := by decide +kernel
theorem dJ2_indexOf_4cfef_28 : decode cJ2_indexOf_4cfef 28 = .ok (.aload_n 0, 1) := by decide +kernel
theorem dJ2_indexOf_4cfef_29 : decode cJ2_indexOf_4cfef 29 = .ok (.iload_n 1, 1) := by decide +kernel
theorem dJ2_indexOf_4cfef_30 : decode cJ2_indexOf_4cfef 30 = .ok (.iload_n 2, 1) := by decide +kernel
theorem dJ2_indexOf_4cfef_31 : decode cJ2_indexOf_4cfef 31 = .ok (.iload_n 3, 1) := by decide +kernel
theorem dJ2_indexOf_4cfef_32 : decode cJ2_indexOf_4cfef 32 = .ok (.invokestatic 228, 3) := by decide +kernel
theorem dJ2_indexOf_4cfef_35 : decode cJ2_indexOf_4cfef 35 = .ok (.ireturn, 1) := by decide +kernel
theorem dJ2_indexOf_4cfef_36 : decode cJ2_indexOf_4cfef 36 = .ok (.aload_n 0, 1) := by decide +kernel
theorem dJ2_indexOf_4cfef_37 : decode cJ2_indexOf_4cfef 37 = .ok (.iload_n 1, 1) := by decide +kernel
theorem dJ2_indexOf_4cfef_38 : decode cJ2_indexOf_4cfef 38 = .ok (.iload_n 2, 1) := by decide +kernel
theorem dJ2_indexOf_4cfef_39 : decode cJ2_indexOf_4cfef 39 = .ok (.iload_n 3, 1) := by decide +kernel
theorem dJ2_indexOf_4cfef_40 : decode cJ2_indexOf_4cfef 40 = .ok (.invokestatic 232, 3) := by decide +kernel
theorem dJ2_indexOf_4cfef_43 : decode cJ2_indexOf_4cfef 43 = .ok (.ireturn, 1) := by decide +kernel
theorem dJ2_indexOfChar_4cfef_0 : decode cJ2_indexOfChar_4cfef 0 = .ok (.iload_n 2, 1) := by decide +kernel
theorem dJ2_indexOfChar_4cfef_1 : decode cJ2_indexOfChar_4cfef 1 = .ok (.iload_n 3, 1) := by decide +kernel
theorem dJ2_indexOfChar_4cfef_2 : decode cJ2_indexOfChar_4cfef 2 = .ok (.aload_n 0, 1) := by decide +kernel
theorem dJ2_indexOfChar_4cfef_3 : decode cJ2_indexOfChar_4cfef 3 = .ok (.invokestatic 96, 3) := by decide +kernel
theorem dJ2_indexOfChar_4cfef_6 : decode cJ2_indexOfChar_4cfef 6 = .ok (.aload_n 0, 1) := by decide +kernel
theorem dJ2_indexOfChar_4cfef_7 : decode cJ2_indexOfChar_4cfef 7 = .ok (.iload_n 1, 1) := by decide +kernel
theorem dJ2_indexOfChar_4cfef_8 : decode cJ2_indexOfChar_4cfef 8 = .ok (.iload_n 2, 1) := by decide +kernel
theorem dJ2_indexOfChar_4cfef_9 : decode cJ2_indexOfChar_4cfef 9 = .ok (.iload_n 3, 1) := by decide +kernel
theorem dJ2_indexOfChar_4cfef_10 : decode cJ2_indexOfChar_4cfef 10 = .ok (.invokestatic 244, 3) := by decide +kernel
theorem dJ2_indexOfChar_4cfef_13 : decode cJ2_indexOfChar_4cfef 13 = .ok (.ireturn, 1) := by decide +kernel
theorem dJ2_indexOfCharUnsafe_4cfef_0 : decode cJ2_indexOfCharUnsafe_4cfef 0 = .ok (.iload_n 2, 1) := by decide +kernel
theorem dJ2_indexOfCharUnsafe_4cfef_1 : decode cJ2_indexOfCharUnsafe_4cfef 1 = .ok (.istore 4, 2) := by decide +kernel
theorem dJ2_indexOfCharUnsafe_4cfef_3 : decode cJ2_indexOfCharUnsafe_4cfef 3 = .ok (.iload 4, 2) := by decide +kernel
theorem dJ2_indexOfCharUnsafe_4cfef_5 : decode cJ2_indexOfCharUnsafe_4cfef 5 = .ok (.iload_n 3, 1) := by decide +kernel
theorem dJ2_indexOfCharUnsafe_4cfef_6 : decode cJ2_indexOfCharUnsafe_4cfef 6 = .ok (.if_icmp .ge 22, 3) := by decide +kernel
theorem dJ2_indexOfCharUnsafe_4cfef_9 : decode cJ2_indexOfCharUnsafe_4cfef 9 = .ok (.aload_n 0, 1) := by decide +kernel
theorem dJ2_indexOfCharUnsafe_4cfef_10 : decode cJ2_indexOfCharUnsafe_4cfef 10 = .ok (.iload 4, 2) := by decide +kernel
theorem dJ2_indexOfCharUnsafe_4cfef_12 : decode cJ2_indexOfCharUnsafe_4cfef 12 = .ok (.invokestatic 71, 3) := by decide +kernel
theorem dJ2_indexOfCharUnsafe_4cfef_15 : decode cJ2_indexOfCharUnsafe_4cfef 15 = .ok (.iload_n 1, 1) := by decide +kernel
theorem dJ2_indexOfCharUnsafe_4cfef_16 : decode cJ2_indexOfCharUnsafe_4cfef 16 = .ok (.if_icmp .ne 6, 3) := by decide +kernel
theorem dJ2_indexOfCharUnsafe_4cfef_19 : decode cJ2_indexOfCharUnsafe_4cfef 19 = .ok (.iload 4, 2) := by decide +kernel
theorem dJ2_indexOfCharUnsafe_4cfef_21 : decode cJ2_indexOfCharUnsafe_4cfef 21 = .ok (.ireturn, 1) := by decide +kernel
theorem dJ2_indexOfCharUnsafe_4cfef_22 : decode cJ2_indexOfCharUnsafe_4cfef 22 = .ok (.iinc 4 1, 3) := by decide +kernel
theorem dJ2_indexOfCharUnsafe_4cfef_25 : decode cJ2_indexOfCharUnsafe_4cfef 25 = .ok (.goto (-22), 3) := by decide +kernel
theorem dJ2_indexOfCharUnsafe_4cfef_28 : decode cJ2_indexOfCharUnsafe_4cfef 28 = .ok (.iconst (-1), 1) := by decide +kernel
theorem dJ2_indexOfCharUnsafe_4cfef_29 : decode cJ2_indexOfCharUnsafe_4cfef 29 = .ok (.ireturn, 1) := by decide +kernel
theorem dJ2_indexOfSupplementary_4cfef_0 : decode cJ2_indexOfSupplementary_4cfef 0 = .ok (.iload_n 1, 1) := by decide +kernel
theorem dJ2_indexOfSupplementary_4cfef_1 : decode cJ2_indexOfSupplementary_4cfef 1 = .ok (.invokestatic 164, 3) := by decide +kernel
theorem dJ2_indexOfSupplementary_4cfef_4 : decode cJ2_indexOfSupplementary_4cfef 4 = .ok (.ifCond .eq 65, 3) := by decide +kernel
theorem dJ2_indexOfSupplementary_4cfef_7 : decode cJ2_indexOfSupplementary_4cfef 7 = .ok (.iload_n 1, 1) := by decide +kernel
theorem dJ2_indexOfSupplementary_4cfef_8 : decode cJ2_indexOfSupplementary_4cfef 8 = .ok (.invokestatic 157, 3) := by decide +kernel
theorem dJ2_indexOfSupplementary_4cfef_11 : decode cJ2_indexOfSupplementary_4cfef 11 = .ok (.istore 4, 2) := by decide +kernel
theorem dJ2_indexOfSupplementary_4cfef_13 : decode cJ2_indexOfSupplementary_4cfef 13 = .ok (.iload_n 1, 1) := by decide +kernel
theorem dJ2_indexOfSupplementary_4cfef_14 : decode cJ2_indexOfSupplementary_4cfef 14 = .ok (.invokestatic 161, 3) := by decide +kernel
theorem dJ2_indexOfSupplementary_4cfef_17 : decode cJ2_indexOfSupplementary_4cfef 17 = .ok (.istore 5, 2) := by decide +kernel
theorem dJ2_indexOfSupplementary_4cfef_19 : decode cJ2_indexOfSupplementary_4cfef 19 = .ok (.iload_n 2, 1) := by decide +kernel
theorem dJ2_indexOfSupplementary_4cfef_20 : decode cJ2_indexOfSupplementary_4cfef 20 = .ok (.iload_n 3, 1) := by decide +kernel
theorem dJ2_indexOfSupplementary_4cfef_21 : decode cJ2_indexOfSupplementary_4cfef 21 = .ok (.aload_n 0, 1) := by decide +kernel
theorem dJ2_indexOfSupplementary_4cfef_22 : decode cJ2_indexOfSupplementary_4cfef 22 = .ok (.invokestatic 96, 3) := by decide +kernel
theorem dJ2_indexOfSupplementary_4cfef_25 : decode cJ2_indexOfSupplementary_4cfef 25 = .ok (.iload_n 2, 1) := by decide +kernel
theorem dJ2_indexOfSupplementary_4cfef_26 : decode cJ2_indexOfSupplementary_4cfef 26 = .ok (.istore 6, 2) := by decide +kernel
theorem dJ2_indexOfSupplementary_4cfef_28 : decode cJ2_indexOfSupplementary_4cfef 28 = .ok (.iload 6, 2) := by decide +kernel
theorem dJ2_indexOfSupplementary_4cfef_30 : decode cJ2_indexOfSupplementary_4cfef 30 = .ok (.iload_n 3, 1) := by decide +kernel
theorem dJ2_indexOfSupplementary_4cfef_31 : decode cJ2_indexOfSupplementary_4cfef 31 = .ok (.iconst 1, 1) := by decide +kernel
theorem dJ2_indexOfSupplementary_4cfef_32 : decode cJ2_indexOfSupplementary_4cfef 32 = .ok (.isub, 1) := by decide +kernel
theorem dJ2_indexOfSupplementary_4cfef_33 : decode cJ2_indexOfSupplementary_4cfef 33 = .ok (.if_icmp .ge 36, 3) := by decide +kernel
theorem dJ2_indexOfSupplementary_4cfef_36 : decode cJ2_indexOfSupplementary_4cfef 36 = .ok (.aload_n 0, 1) := by decide +kernel
theorem dJ2_indexOfSupplementary_4cfef_37 : decode cJ2_indexOfSupplementary_4cfef 37 = .ok (.iload 6, 2) := by decide +kernel
theorem dJ2_indexOfSupplementary_4cfef_39 : decode cJ2_indexOfSupplementary_4cfef 39 = .ok (.invokestatic 71, 3) := by decide +kernel
theorem dJ2_indexOfSupplementary_4cfef_42 : decode cJ2_indexOfSupplementary_4cfef 42 = .ok (.iload 4, 2) := by decide +kernel
theorem dJ2_indexOfSupplementary_4cfef_44 : decode cJ2_indexOfSupplementary_4cfef 44 = .ok (.if_icmp .ne 19, 3) := by decide +kernel
theorem dJ2_indexOfSupplementary_4cfef_47 : decode cJ2_indexOfSupplementary_4cfef 47 = .ok (.aload_n 0, 1) := by decide +kernel
theorem dJ2_indexOfSupplementary_4cfef_48 : decode cJ2_indexOfSupplementary_4cfef 48 = .ok (.iload 6, 2) := by decide +kernel
theorem dJ2_indexOfSupplementary_4cfef_50 : decode cJ2_indexOfSupplementary_4cfef 50 = .ok (.iconst 1, 1) := by decide +kernel
theorem dJ2_indexOfSupplementary_4cfef_51 : decode cJ2_indexOfSupplementary_4cfef 51 = .ok (.iadd, 1) := by decide +kernel
theorem dJ2_indexOfSupplementary_4cfef_52 : decode cJ2_indexOfSupplementary_4cfef 52 = .ok (.invokestatic 71, 3) := by decide +kernel
theorem dJ2_indexOfSupplementary_4cfef_55 : decode cJ2_indexOfSupplementary_4cfef 55 = .ok (.iload 5, 2) := by decide +kernel
theorem dJ2_indexOfSupplementary_4cfef_57 : decode cJ2_indexOfSupplementary_4cfef 57 = .ok (.if_icmp .ne 6, 3) := by decide +kernel
theorem dJ2_indexOfSupplementary_4cfef_60 : decode cJ2_indexOfSupplementary_4cfef 60 = .ok (.iload 6, 2) := by decide +kernel
theorem dJ2_indexOfSupplementary_4cfef_62 : decode cJ2_indexOfSupplementary_4cfef 62 = .ok (.ireturn, 1) := by decide +kernel
theorem dJ2_indexOfSupplementary_4cfef_63 : decode cJ2_indexOfSupplementary_4cfef 63 = .ok (.iinc 6 1, 3) := by decide +kernel
theorem dJ2_indexOfSupplementary_4cfef_66 : decode cJ2_indexOfSupplementary_4cfef 66 = .ok (.goto (-38), 3) := by decide +kernel
theorem dJ2_indexOfSupplementary_4cfef_69 : decode cJ2_indexOfSupplementary_4cfef 69 = .ok (.iconst (-1), 1) := by decide +kernel
theorem dJ2_indexOfSupplementary_4cfef_70 : decode cJ2_indexOfSupplementary_4cfef 70 = .ok (.ireturn, 1) := by decide +kernel
theorem dJ2_charAt_3b067_0 : decode cJ2_charAt_3b067 0 = .ok (.iload_n 1, 1) := by decide +kernel
theorem dJ2_charAt_3b067_1 : decode cJ2_charAt_3b067 1 = .ok (.aload_n 0, 1) := by decide +kernel
theorem dJ2_charAt_3b067_2 : decode cJ2_charAt_3b067 2 = .ok (.invokestatic 67, 3) := by decide +kernel
theorem dJ2_charAt_3b067_5 : decode cJ2_charAt_3b067 5 = .ok (.aload_n 0, 1) := by decide +kernel
theorem dJ2_charAt_3b067_6 : decode cJ2_charAt_3b067 6 = .ok (.iload_n 1, 1) := by decide +kernel
theorem dJ2_charAt_3b067_7 : decode cJ2_charAt_3b067 7 = .ok (.invokestatic 71, 3) := by decide +kernel
theorem dJ2_charAt_3b067_10 : decode cJ2_charAt_3b067 10 = .ok (.ireturn, 1) := by decide +kernel
theorem dJ2_checkIndex_2214a_0 : decode cJ2_checkIndex_2214a 0 = .ok (.iload_n 0, 1) := by decide +kernel
theorem dJ2_checkIndex_2214a_1 : decode cJ2_checkIndex_2214a 1 = .ok (.aload_n 1, 1) := by decide +kernel
theorem dJ2_checkIndex_2214a_2 : decode cJ2_checkIndex_2214a 2 = .ok (.invokestatic 48, 3) := by decide +kernel
theorem dJ2_checkIndex_2214a_5 : decode cJ2_checkIndex_2214a 5 = .ok (.invokestatic 414, 3) := by decide +kernel
theorem dJ2_checkIndex_2214a_8 : decode cJ2_checkIndex_2214a 8 = .ok (.return_, 1) := by decide +kernel
theorem dJ2_checkBoundsBeginEnd_d044e_0 : decode cJ2_checkBoundsBeginEnd_d044e 0 = .ok (.iload_n 0, 1) := by decide +kernel
theorem dJ2_checkBoundsBeginEnd_d044e_1 : decode cJ2_checkBoundsBeginEnd_d044e 1 = .ok (.iload_n 1, 1) := by decide +kernel
theorem dJ2_checkBoundsBeginEnd_d044e_2 : decode cJ2_checkBoundsBeginEnd_d044e 2 = .ok (.aload_n 2, 1) := by decide +kernel
theorem dJ2_checkBoundsBeginEnd_d044e_3 : decode cJ2_checkBoundsBeginEnd_d044e 3 = .ok (.invokestatic 48, 3) := by decide +kernel
theorem dJ2_checkBoundsBeginEnd_d044e_6 : decode cJ2_checkBoundsBeginEnd_d044e 6 = .ok (.invokestatic 241, 3) := by decide +kernel
theorem dJ2_checkBoundsBeginEnd_d044e_9 : decode cJ2_checkBoundsBeginEnd_d044e 9 = .ok (.return_, 1) := by decide +kernel
theorem dJ3_checkIndex_8e157_0 : decode cJ3_checkIndex_8e157 0 = .ok (.iload_n 0, 1) := by decide +kernel
theorem dJ3_checkIndex_8e157_1 : decode cJ3_checkIndex_8e157 1 = .ok (.ifCond .lt 8, 3) := by decide +kernel
theorem dJ3_checkIndex_8e157_4 : decode cJ3_checkIndex_8e157 4 = .ok (.iload_n 0, 1) := by decide +kernel
theorem dJ3_checkIndex_8e157_5 : decode cJ3_checkIndex_8e157 5 = .ok (.iload_n 1, 1) := by decide +kernel
theorem dJ3_checkIndex_8e157_6 : decode cJ3_checkIndex_8e157 6 = .ok (.if_icmp .lt 10, 3) := by decide +kernel
theorem dJ3_checkIndex_8e157_9 : decode cJ3_checkIndex_8e157 9 = .ok (.aload_n 2, 1) := by decide +kernel
theorem dJ3_checkIndex_8e157_10 : decode cJ3_checkIndex_8e157 10 = .ok (.iload_n 0, 1) := by decide +kernel
theorem dJ3_checkIndex_8e157_11 : decode cJ3_checkIndex_8e157 11 = .ok (.iload_n 1, 1) := by decide +kernel
theorem dJ3_checkIndex_8e157_12 : decode cJ3_checkIndex_8e157 12 = .ok (.invokestatic 95, 3) := by decide +kernel
theorem dJ3_checkIndex_8e157_15 : decode cJ3_checkIndex_8e157 15 = .ok (.athrow, 1) := by decide +kernel
theorem dJ3_checkIndex_8e157_16 : decode cJ3_checkIndex_8e157 16 = .ok (.iload_n 0, 1) := by decide +kernel
theorem dJ3_checkIndex_8e157_17 : decode cJ3_checkIndex_8e157 17 = .ok (.ireturn, 1) := by decide +kernel
theorem dJ3_checkFromToIndex_8c36e_0 : decode cJ3_checkFromToIndex_8c36e 0 = .ok (.iload_n 0, 1) := by decide +kernel
theorem dJ3_checkFromToIndex_8c36e_1 : decode cJ3_checkFromToIndex_8c36e 1 = .ok (.ifCond .lt 13, 3) := by decide +kernel
theorem dJ3_checkFromToIndex_8c36e_4 : decode cJ3_checkFromToIndex_8c36e 4 = .ok (.iload_n 0, 1) := by decide +kernel
theorem dJ3_checkFromToIndex_8c36e_5 : decode cJ3_checkFromToIndex_8c36e 5 = .ok (.iload_n 1, 1) := by decide +kernel
theorem dJ3_checkFromToIndex_8c36e_6 : decode cJ3_checkFromToIndex_8c36e 6 = .ok (.if_icmp .gt 8, 3) := by decide +kernel
theorem dJ3_checkFromToIndex_8c36e_9 : decode cJ3_checkFromToIndex_8c36e 9 = .ok (.iload_n 1, 1) := by decide +kernel
theorem dJ3_checkFromToIndex_8c36e_10 : decode cJ3_checkFromToIndex_8c36e 10 = .ok (.iload_n 2, 1) := by decide +kernel
theorem dJ3_checkFromToIndex_8c36e_11 : decode cJ3_checkFromToIndex_8c36e 11 = .ok (.if_icmp .le 11, 3) := by decide +kernel
theorem dJ3_checkFromToIndex_8c36e_14 : decode cJ3_checkFromToIndex_8c36e 14 = .ok (.aload_n 3, 1) := by decide +kernel
theorem dJ3_checkFromToIndex_8c36e_15 : decode cJ3_checkFromToIndex_8c36e 15 = .ok (.iload_n 0, 1) := by decide +kernel
theorem dJ3_checkFromToIndex_8c36e_16 : decode cJ3_checkFromToIndex_8c36e 16 = .ok (.iload_n 1, 1) := by decide +kernel
theorem dJ3_checkFromToIndex_8c36e_17 : decode cJ3_checkFromToIndex_8c36e 17 = .ok (.iload_n 2, 1) := by decide +kernel
theorem dJ3_checkFromToIndex_8c36e_18 : decode cJ3_checkFromToIndex_8c36e 18 = .ok (.invokestatic 99, 3) := by decide +kernel
theorem dJ3_checkFromToIndex_8c36e_21 : decode cJ3_checkFromToIndex_8c36e 21 = .ok (.athrow, 1) := by decide +kernel
theorem dJ3_checkFromToIndex_8c36e_22 : decode cJ3_checkFromToIndex_8c36e 22 = .ok (.iload_n 0, 1) := by decide +kernel
theorem dJ3_checkFromToIndex_8c36e_23 : decode cJ3_checkFromToIndex_8c36e 23 = .ok (.ireturn, 1) := by decide +kernel
theorem dL_law_0 : decode cL_law 0 = .ok (.new 7, 3) := by decide +kernel
theorem dL_law_3 : decode cL_law 3 = .ok (.dup, 1) := by decide +kernel
theorem dL_law_4 : decode cL_law 4 = .ok (.invokespecial 9, 3) := by decide +kernel
theorem dL_law_7 : decode cL_law 7 = .ok (.astore_n 1, 1) := by decide +kernel
theorem dL_law_8 : decode cL_law 8 = .ok (.new 10, 3) := by decide +kernel
theorem dL_law_11 : decode cL_law 11 = .ok (.dup, 1) := by decide +kernel
theorem dL_law_12 : decode cL_law 12 = .ok (.invokespecial 12, 3) := by decide +kernel
theorem dL_law_15 : decode cL_law 15 = .ok (.astore_n 2, 1) := by decide +kernel
theorem dL_law_16 : decode cL_law 16 = .ok (.iconst 0, 1) := by decide +kernel
theorem dL_law_17 : decode cL_law 17 = .ok (.istore_n 3, 1) := by decide +kernel
theorem dL_law_18 : decode cL_law 18 = .ok (.iload_n 3, 1) := by decide +kernel
theorem dL_law_19 : decode cL_law 19 = .ok (.aload_n 0, 1) := by decide +kernel
theorem dL_law_20 : decode cL_law 20 = .ok (.arraylength, 1) := by decide +kernel
theorem dL_law_21 : decode cL_law 21 = .ok (.bipush 6, 2) := by decide +kernel
theorem dL_law_23 : decode cL_law 23 = .ok (.isub, 1) := by decide +kernel
theorem dL_law_24 : decode cL_law 24 = .ok (.if_icmp .gt 1316, 3) := by decide +kernel
theorem dL_law_27 : decode cL_law 27 = .ok (.aload_n 0, 1) := by decide +kernel
theorem dL_law_28 : decode cL_law 28 = .ok (.iload_n 3, 1) := by decide +kernel
theorem dL_law_29 : decode cL_law 29 = .ok (.iaload, 1) := by decide +kernel
theorem dL_law_30 : decode cL_law 30 = .ok (.bipush 63, 2) := by decide +kernel
theorem dL_law_32 : decode cL_law 32 = .ok (.iand, 1) := by decide +kernel
theorem dL_law_33 : decode cL_law 33 = .ok (.tableswitch 1301 0 34 #[155, 178, 191, 204, 217, 230, 273, 306, 339, 372, 405, 458, 521, 544, 577, 610, 633, 676, 719, 772, 825, 868, 901, 944, 987, 1020, 1033, 1056, 1089, 1112, 1145, 1189, 1232, 1255, 1278], 155) := by decide +kernel
theorem dL_law_188 : decode cL_law 188 = .ok (.aload_n 1, 1) := by decide +kernel
theorem dL_law_189 : decode cL_law 189 = .ok (.aload_n 0, 1) := by decide +kernel
theorem dL_law_190 : decode cL_law 190 = .ok (.iload_n 3, 1) := by decide +kernel
theorem dL_law_191 : decode cL_law 191 = .ok (.iconst 1, 1) := by decide +kernel
theorem dL_law_192 : decode cL_law 192 = .ok (.iadd, 1) := by decide +kernel
theorem dL_law_193 : decode cL_law 193 = .ok (.iaload, 1) := by decide +kernel
theorem dL_law_194 : decode cL_law 194 = .ok (.invokevirtual 13, 3) := by decide +kernel
theorem dL_law_197 : decode cL_law 197 = .ok (.aload_n 2, 1) := by decide +kernel
theorem dL_law_198 : decode cL_law 198 = .ok (.aload_n 0, 1) := by decide +kernel
theorem dL_law_199 : decode cL_law 199 = .ok (.iload_n 3, 1) := by decide +kernel
theorem dL_law_200 : decode cL_law 200 = .ok (.iconst 1, 1) := by decide +kernel
theorem dL_law_201 : decode cL_law 201 = .ok (.iadd, 1) := by decide +kernel
theorem dL_law_202 : decode cL_law 202 = .ok (.iaload, 1) := by decide +kernel
theorem dL_law_203 : decode cL_law 203 = .ok (.invokevirtual 17, 3) := by decide +kernel
theorem dL_law_206 : decode cL_law 206 = .ok (.if_icmp .eq 1128, 3) := by decide +kernel
theorem dL_law_209 : decode cL_law 209 = .ok (.iconst 0, 1) := by decide +kernel
theorem dL_law_210 : decode cL_law 210 = .ok (.ireturn, 1) := by decide +kernel
theorem dL_law_211 : decode cL_law 211 = .ok (.aload_n 1, 1) := by decide +kernel
theorem dL_law_212 : decode cL_law 212 = .ok (.invokevirtual 18, 3) := by decide +kernel
theorem dL_law_215 : decode cL_law 215 = .ok (.aload_n 2, 1) := by decide +kernel
theorem dL_law_216 : decode cL_law 216 = .ok (.invokevirtual 22, 3) := by decide +kernel
theorem dL_law_219 : decode cL_law 219 = .ok (.if_icmp .eq 1115, 3) := by decide +kernel
theorem dL_law_222 : decode cL_law 222 = .ok (.iconst 0, 1) := by decide +kernel
theorem dL_law_223 : decode cL_law 223 = .ok (.ireturn, 1) := by decide +kernel
theorem dL_law_224 : decode cL_law 224 = .ok (.aload_n 1, 1) := by decide +kernel
theorem dL_law_225 : decode cL_law 225 = .ok (.invokevirtual 23, 3) := by decide +kernel
theorem dL_law_228 : decode cL_law 228 = .ok (.aload_n 2, 1) := by decide +kernel
theorem dL_law_229 : decode cL_law 229 = .ok (.invokevirtual 26, 3) := by decide +kernel
theorem dL_law_232 : decode cL_law 232 = .ok (.if_icmp .eq 1102, 3) := by decide +kernel
theorem dL_law_235 : decode cL_law 235 = .ok (.iconst 0, 1) := by decide +kernel
theorem dL_law_236 : decode cL_law 236 = .ok (.ireturn, 1) := by decide +kernel
theorem dL_law_237 : decode cL_law 237 = .ok (.aload_n 1, 1) := by decide +kernel
theorem dL_law_238 : decode cL_law 238 = .ok (.invokevirtual 27, 3) := by decide +kernel
theorem dL_law_241 : decode cL_law 241 = .ok (.aload_n 2, 1) := by decide +kernel
theorem dL_law_242 : decode cL_law 242 = .ok (.invokevirtual 30, 3) := by decide +kernel
theorem dL_law_245 : decode cL_law 245 = .ok (.if_icmp .eq 1089, 3) := by decide +kernel
theorem dL_law_248 : decode cL_law 248 = .ok (.iconst 0, 1) := by decide +kernel
theorem dL_law_249 : decode cL_law 249 = .ok (.ireturn, 1) := by decide +kernel
theorem dL_law_250 : decode cL_law 250 = .ok (.aload_n 1, 1) := by decide +kernel
theorem dL_law_251 : decode cL_law 251 = .ok (.invokevirtual 31, 3) := by decide +kernel
theorem dL_law_254 : decode cL_law 254 = .ok (.aload_n 2, 1) := by decide +kernel
theorem dL_law_255 : decode cL_law 255 = .ok (.invokevirtual 34, 3) := by decide +kernel
theorem dL_law_258 : decode cL_law 258 = .ok (.if_icmp .eq 1076, 3) := by decide +kernel
theorem dL_law_261 : decode cL_law 261 = .ok (.iconst 0, 1) := by decide +kernel
theorem dL_law_262 : decode cL_law 262 = .ok (.ireturn, 1) := by decide +kernel
theorem dL_law_263 : decode cL_law 263 = .ok (.aload_n 1, 1) := by decide +kernel
theorem dL_law_264 : decode cL_law 264 = .ok (.aload_n 0, 1) := by decide +kernel
theorem dL_law_265 : decode cL_law 265 = .ok (.iload_n 3, 1) := by decide +kernel
theorem dL_law_266 : decode cL_law 266 = .ok (.iconst 1, 1) := by decide +kernel
theorem dL_law_267 : decode cL_law 267 = .ok (.iadd, 1) := by decide +kernel
theorem dL_law_268 : decode cL_law 268 = .ok (.iaload, 1) := by decide +kernel
theorem dL_law_269 : decode cL_law 269 = .ok (.aload_n 0, 1) := by decide +kernel
theorem dL_law_270 : decode cL_law 270 = .ok (.iload_n 3, 1) := by decide +kernel
theorem dL_law_271 : decode cL_law 271 = .ok (.iconst 2, 1) := by decide +kernel
theorem dL_law_272 : decode cL_law 272 = .ok (.iadd, 1) := by decide +kernel
theorem dL_law_273 : decode cL_law 273 = .ok (.iaload, 1) := by decide +kernel
theorem dL_law_274 : decode cL_law 274 = .ok (.aload_n 0, 1) := by decide +kernel
theorem dL_law_275 : decode cL_law 275 = .ok (.iload_n 3, 1) := by decide +kernel
theorem dL_law_276 : decode cL_law 276 = .ok (.iconst 3, 1) := by decide +kernel
theorem dL_law_277 : decode cL_law 277 = .ok (.iadd, 1) := by decide +kernel
theorem dL_law_278 : decode cL_law 278 = .ok (.iaload, 1) := by decide +kernel
theorem dL_law_279 : decode cL_law 279 = .ok (.invokevirtual 35, 3) := by decide +kernel
theorem dL_law_282 : decode cL_law 282 = .ok (.aload_n 2, 1) := by decide +kernel
theorem dL_law_283 : decode cL_law 283 = .ok (.aload_n 0, 1) := by decide +kernel
theorem dL_law_284 : decode cL_law 284 = .ok (.iload_n 3, 1) := by decide +kernel
theorem dL_law_285 : decode cL_law 285 = .ok (.iconst 1, 1) := by decide +kernel
theorem dL_law_286 : decode cL_law 286 = .ok (.iadd, 1) := by decide +kernel
theorem dL_law_287 : decode cL_law 287 = .ok (.iaload, 1) := by decide +kernel
theorem dL_law_288 : decode cL_law 288 = .ok (.aload_n 0, 1) := by decide +kernel
theorem dL_law_289 : decode cL_law 289 = .ok (.iload_n 3, 1) := by decide +kernel
theorem dL_law_290 : decode cL_law 290 = .ok (.iconst 2, 1) := by decide +kernel
theorem dL_law_291 : decode cL_law 291 = .ok (.iadd, 1) := by decide +kernel
theorem dL_law_292 : decode cL_law 292 = .ok (.iaload, 1) := by decide +kernel
theorem dL_law_293 : decode cL_law 293 = .ok (.aload_n 0, 1) := by decide +kernel
theorem dL_law_294 : decode cL_law 294 = .ok (.iload_n 3, 1) := by decide +kernel
theorem dL_law_295 : decode cL_law 295 = .ok (.iconst 3, 1) := by decide +kernel
theorem dL_law_296 : decode cL_law 296 = .ok (.iadd, 1) := by decide +kernel
theorem dL_law_297 : decode cL_law 297 = .ok (.iaload, 1) := by decide +kernel
theorem dL_law_298 : decode cL_law 298 = .ok (.invokevirtual 39, 3) := by decide +kernel
theorem dL_law_301 : decode cL_law 301 = .ok (.if_icmp .eq 1033, 3) := by decide +kernel
theorem dL_law_304 : decode cL_law 304 = .ok (.iconst 0, 1) := by decide +kernel
theorem dL_law_305 : decode cL_law 305 = .ok (.ireturn, 1) := by decide +kernel
theorem dL_law_306 : decode cL_law 306 = .ok (.aload_n 1, 1) := by decide +kernel
theorem dL_law_307 : decode cL_law 307 = .ok (.aload_n 0, 1) := by decide +kernel
theorem dL_law_308 : decode cL_law 308 = .ok (.iload_n 3, 1) := by decide +kernel
theorem dL_law_309 : decode cL_law 309 = .ok (.iconst 1, 1) := by decide +kernel
theorem dL_law_310 : decode cL_law 310 = .ok (.iadd, 1) := by decide +kernel
theorem dL_law_311 : decode cL_law 311 = .ok (.iaload, 1) := by decide +kernel
theorem dL_law_312 : decode cL_law 312 = .ok (.aload_n 0, 1) := by decide +kernel
theorem dL_law_313 : decode cL_law 313 = .ok (.iload_n 3, 1) := by decide +kernel
theorem dL_law_314 : decode cL_law 314 = .ok (.iconst 2, 1) := by decide +kernel
theorem dL_law_315 : decode cL_law 315 = .ok (.iadd, 1) := by decide +kernel
theorem dL_law_316 : decode cL_law 316 = .ok (.iaload, 1) := by decide +kernel
theorem dL_law_317 : decode cL_law 317 = .ok (.invokevirtual 40, 3) := by decide +kernel
theorem dL_law_320 : decode cL_law 320 = .ok (.aload_n 2, 1) := by decide +kernel
theorem dL_law_321 : decode cL_law 321 = .ok (.aload_n 0, 1) := by decide +kernel
theorem dL_law_322 : decode cL_law 322 = .ok (.iload_n 3, 1) := by decide +kernel
theorem dL_law_323 : decode cL_law 323 = .ok (.iconst 1, 1) := by decide +kernel
theorem dL_law_324 : decode cL_law 324 = .ok (.iadd, 1) := by decide +kernel
theorem dL_law_325 : decode cL_law 325 = .ok (.iaload, 1) := by decide +kernel
theorem dL_law_326 : decode cL_law 326 = .ok (.aload_n 0, 1) := by decide +kernel
theorem dL_law_327 : decode cL_law 327 = .ok (.iload_n 3, 1) := by decide +kernel
theorem dL_law_328 : decode cL_law 328 = .ok (.iconst 2, 1) := by decide +kernel
theorem dL_law_329 : decode cL_law 329 = .ok (.iadd, 1) := by decide +kernel
theorem dL_law_330 : decode cL_law 330 = .ok (.iaload, 1) := by decide +kernel
theorem dL_law_331 : decode cL_law 331 = .ok (.invokevirtual 44, 3) := by decide +kernel
theorem dL_law_334 : decode cL_law 334 = .ok (.if_icmp .eq 1000, 3) := by decide +kernel
theorem dL_law_337 : decode cL_law 337 = .ok (.iconst 0, 1) := by decide +kernel
theorem dL_law_338 : decode cL_law 338 = .ok (.ireturn, 1) := by decide +kernel
theorem dL_law_339 : decode cL_law 339 = .ok (.aload_n 1, 1) := by decide +kernel
theorem dL_law_340 : decode cL_law 340 = .ok (.aload_n 0, 1) := by decide +kernel
theorem dL_law_341 : decode cL_law 341 = .ok (.iload_n 3, 1) := by decide +kernel
theorem dL_law_342 : decode cL_law 342 = .ok (.iconst 1, 1) := by decide +kernel
theorem dL_law_343 : decode cL_law 343 = .ok (.iadd, 1) := by decide +kernel
theorem dL_law_344 : decode cL_law 344 = .ok (.iaload, 1) := by decide +kernel
theorem dL_law_345 : decode cL_law 345 = .ok (.aload_n 0, 1) := by decide +kernel
theorem dL_law_346 : decode cL_law 346 = .ok (.iload_n 3, 1) := by decide +kernel
theorem dL_law_347 : decode cL_law 347 = .ok (.iconst 2, 1) := by decide +kernel
theorem dL_law_348 : decode cL_law 348 = .ok (.iadd, 1) := by decide +kernel
theorem dL_law_349 : decode cL_law 349 = .ok (.iaload, 1) := by decide +kernel
theorem dL_law_350 : decode cL_law 350 = .ok (.invokevirtual 45, 3) := by decide +kernel
theorem dL_law_353 : decode cL_law 353 = .ok (.aload_n 2, 1) := by decide +kernel
theorem dL_law_354 : decode cL_law 354 = .ok (.aload_n 0, 1) := by decide +kernel
theorem dL_law_355 : decode cL_law 355 = .ok (.iload_n 3, 1) := by decide +kernel
theorem dL_law_356 : decode cL_law 356 = .ok (.iconst 1, 1) := by decide +kernel
theorem dL_law_357 : decode cL_law 357 = .ok (.iadd, 1) := by decide +kernel
theorem dL_law_358 : decode cL_law 358 = .ok (.iaload, 1) := by decide +kernel
theorem dL_law_359 : decode cL_law 359 = .ok (.aload_n 0, 1) := by decide +kernel
theorem dL_law_360 : decode cL_law 360 = .ok (.iload_n 3, 1) := by decide +kernel
theorem dL_law_361 : decode cL_law 361 = .ok (.iconst 2, 1) := by decide +kernel
theorem dL_law_362 : decode cL_law 362 = .ok (.iadd, 1) := by decide +kernel
theorem dL_law_363 : decode cL_law 363 = .ok (.iaload, 1) := by decide +kernel
theorem dL_law_364 : decode cL_law 364 = .ok (.invokevirtual 48, 3) := by decide +kernel
theorem dL_law_367 : decode cL_law 367 = .ok (.if_icmp .eq 967, 3) := by decide +kernel
theorem dL_law_370 : decode cL_law 370 = .ok (.iconst 0, 1) := by decide +kernel
theorem dL_law_371 : decode cL_law 371 = .ok (.ireturn, 1) := by decide +kernel
theorem dL_law_372 : decode cL_law 372 = .ok (.aload_n 1, 1) := by decide +kernel
theorem dL_law_373 : decode cL_law 373 = .ok (.aload_n 0, 1) := by decide +kernel
theorem dL_law_374 : decode cL_law 374 = .ok (.iload_n 3, 1) := by decide +kernel
theorem dL_law_375 : decode cL_law 375 = .ok (.iconst 1, 1) := by decide +kernel
theorem dL_law_376 : decode cL_law 376 = .ok (.iadd, 1) := by decide +kernel
theorem dL_law_377 : decode cL_law 377 = .ok (.iaload, 1) := by decide +kernel
theorem dL_law_378 : decode cL_law 378 = .ok (.aload_n 0, 1) := by decide +kernel
theorem dL_law_379 : decode cL_law 379 = .ok (.iload_n 3, 1) := by decide +kernel
theorem dL_law_380 : decode cL_law 380 = .ok (.iconst 2, 1) := by decide +kernel
theorem dL_law_381 : decode cL_law 381 = .ok (.iadd, 1) := by decide +kernel
theorem dL_law_382 : decode cL_law 382 = .ok (.iaload, 1) := by decide +kernel
theorem dL_law_383 : decode cL_law 383 = .ok (.invokevirtual 49, 3) := by decide +kernel
theorem dL_law_386 : decode cL_law 386 = .ok (.aload_n 2, 1) := by decide +kernel
theorem dL_law_387 : decode cL_law 387 = .ok (.aload_n 0, 1) := by decide +kernel
theorem dL_law_388 : decode cL_law 388 = .ok (.iload_n 3, 1) := by decide +kernel
theorem dL_law_389 : decode cL_law 389 = .ok (.iconst 1, 1) := by decide +kernel
theorem dL_law_390 : decode cL_law 390 = .ok (.iadd, 1) := by decide +kernel
theorem dL_law_391 : decode cL_law 391 = .ok (.iaload, 1) := by decide +kernel
theorem dL_law_392 : decode cL_law 392 = .ok (.aload_n 0, 1) := by decide +kernel
theorem dL_law_393 : decode cL_law 393 = .ok (.iload_n 3, 1) := by decide +kernel
theorem dL_law_394 : decode cL_law 394 = .ok (.iconst 2, 1) := by decide +kernel
theorem dL_law_395 : decode cL_law 395 = .ok (.iadd, 1) := by decide +kernel
theorem dL_law_396 : decode cL_law 396 = .ok (.iaload, 1) := by decide +kernel
theorem dL_law_397 : decode cL_law 397 = .ok (.invokevirtual 52, 3) := by decide +kernel
theorem dL_law_400 : decode cL_law 400 = .ok (.if_icmp .eq 934, 3) := by decide +kernel
theorem dL_law_403 : decode cL_law 403 = .ok (.iconst 0, 1) := by decide +kernel
theorem dL_law_404 : decode cL_law 404 = .ok (.ireturn, 1) := by decide +kernel
theorem dL_law_405 : decode cL_law 405 = .ok (.aload_n 1, 1) := by decide +kernel
theorem dL_law_406 : decode cL_law 406 = .ok (.aload_n 0, 1) := by decide +kernel
theorem dL_law_407 : decode cL_law 407 = .ok (.iload_n 3, 1) := by decide +kernel
theorem dL_law_408 : decode cL_law 408 = .ok (.iconst 1, 1) := by decide +kernel
theorem dL_law_409 : decode cL_law 409 = .ok (.iadd, 1) := by decide +kernel
theorem dL_law_410 : decode cL_law 410 = .ok (.iaload, 1) := by decide +kernel
theorem dL_law_411 : decode cL_law 411 = .ok (.aload_n 0, 1) := by decide +kernel
theorem dL_law_412 : decode cL_law 412 = .ok (.iload_n 3, 1) := by decide +kernel
theorem dL_law_413 : decode cL_law 413 = .ok (.iconst 2, 1) := by decide +kernel
theorem dL_law_414 : decode cL_law 414 = .ok (.iadd, 1) := by decide +kernel
theorem dL_law_415 : decode cL_law 415 = .ok (.iaload, 1) := by decide +kernel
theorem dL_law_416 : decode cL_law 416 = .ok (.invokevirtual 53, 3) := by decide +kernel
theorem dL_law_419 : decode cL_law 419 = .ok (.aload_n 2, 1) := by decide +kernel
theorem dL_law_420 : decode cL_law 420 = .ok (.aload_n 0, 1) := by decide +kernel
theorem dL_law_421 : decode cL_law 421 = .ok (.iload_n 3, 1) := by decide +kernel
theorem dL_law_422 : decode cL_law 422 = .ok (.iconst 1, 1) := by decide +kernel
theorem dL_law_423 : decode cL_law 423 = .ok (.iadd, 1) := by decide +kernel
theorem dL_law_424 : decode cL_law 424 = .ok (.iaload, 1) := by decide +kernel
theorem dL_law_425 : decode cL_law 425 = .ok (.aload_n 0, 1) := by decide +kernel
theorem dL_law_426 : decode cL_law 426 = .ok (.iload_n 3, 1) := by decide +kernel
theorem dL_law_427 : decode cL_law 427 = .ok (.iconst 2, 1) := by decide +kernel
theorem dL_law_428 : decode cL_law 428 = .ok (.iadd, 1) := by decide +kernel
theorem dL_law_429 : decode cL_law 429 = .ok (.iaload, 1) := by decide +kernel
theorem dL_law_430 : decode cL_law 430 = .ok (.invokevirtual 56, 3) := by decide +kernel
theorem dL_law_433 : decode cL_law 433 = .ok (.if_icmp .eq 901, 3) := by decide +kernel
theorem dL_law_436 : decode cL_law 436 = .ok (.iconst 0, 1) := by decide +kernel
theorem dL_law_437 : decode cL_law 437 = .ok (.ireturn, 1) := by decide +kernel
theorem dL_law_438 : decode cL_law 438 = .ok (.aload_n 1, 1) := by decide +kernel
theorem dL_law_439 : decode cL_law 439 = .ok (.aload_n 0, 1) := by decide +kernel
theorem dL_law_440 : decode cL_law 440 = .ok (.iload_n 3, 1) := by decide +kernel
theorem dL_law_441 : decode cL_law 441 = .ok (.iconst 1, 1) := by decide +kernel
theorem dL_law_442 : decode cL_law 442 = .ok (.iadd, 1) := by decide +kernel
theorem dL_law_443 : decode cL_law 443 = .ok (.iaload, 1) := by decide +kernel
theorem dL_law_444 : decode cL_law 444 = .ok (.aload_n 0, 1) := by decide +kernel
theorem dL_law_445 : decode cL_law 445 = .ok (.iload_n 3, 1) := by decide +kernel
theorem dL_law_446 : decode cL_law 446 = .ok (.iconst 2, 1) := by decide +kernel
theorem dL_law_447 : decode cL_law 447 = .ok (.iadd, 1) := by decide +kernel
theorem dL_law_448 : decode cL_law 448 = .ok (.iaload, 1) := by decide +kernel
theorem dL_law_449 : decode cL_law 449 = .ok (.aload_n 0, 1) := by decide +kernel
theorem dL_law_450 : decode cL_law 450 = .ok (.iload_n 3, 1) := by decide +kernel
theorem dL_law_451 : decode cL_law 451 = .ok (.iconst 3, 1) := by decide +kernel
theorem dL_law_452 : decode cL_law 452 = .ok (.iadd, 1) := by decide +kernel
theorem dL_law_453 : decode cL_law 453 = .ok (.iaload, 1) := by decide +kernel
theorem dL_law_454 : decode cL_law 454 = .ok (.aload_n 0, 1) := by decide +kernel
theorem dL_law_455 : decode cL_law 455 = .ok (.iload_n 3, 1) := by decide +kernel
theorem dL_law_456 : decode cL_law 456 = .ok (.iconst 4, 1) := by decide +kernel
theorem dL_law_457 : decode cL_law 457 = .ok (.iadd, 1) := by decide +kernel
theorem dL_law_458 : decode cL_law 458 = .ok (.iaload, 1) := by decide +kernel
theorem dL_law_459 : decode cL_law 459 = .ok (.invokevirtual 57, 3) := by decide +kernel
theorem dL_law_462 : decode cL_law 462 = .ok (.aload_n 2, 1) := by decide +kernel
theorem dL_law_463 : decode cL_law 463 = .ok (.aload_n 0, 1) := by decide +kernel
theorem dL_law_464 : decode cL_law 464 = .ok (.iload_n 3, 1) := by decide +kernel
theorem dL_law_465 : decode cL_law 465 = .ok (.iconst 1, 1) := by decide +kernel
theorem dL_law_466 : decode cL_law 466 = .ok (.iadd, 1) := by decide +kernel
theorem dL_law_467 : decode cL_law 467 = .ok (.iaload, 1) := by decide +kernel
theorem dL_law_468 : decode cL_law 468 = .ok (.aload_n 0, 1) := by decide +kernel
theorem dL_law_469 : decode cL_law 469 = .ok (.iload_n 3, 1) := by decide +kernel
theorem dL_law_470 : decode cL_law 470 = .ok (.iconst 2, 1) := by decide +kernel
theorem dL_law_471 : decode cL_law 471 = .ok (.iadd, 1) := by decide +kernel
theorem dL_law_472 : decode cL_law 472 = .ok (.iaload, 1) := by decide +kernel
theorem dL_law_473 : decode cL_law 473 = .ok (.aload_n 0, 1) := by decide +kernel
theorem dL_law_474 : decode cL_law 474 = .ok (.iload_n 3, 1) := by decide +kernel
theorem dL_law_475 : decode cL_law 475 = .ok (.iconst 3, 1) := by decide +kernel
theorem dL_law_476 : decode cL_law 476 = .ok (.iadd, 1) := by decide +kernel
theorem dL_law_477 : decode cL_law 477 = .ok (.iaload, 1) := by decide +kernel
theorem dL_law_478 : decode cL_law 478 = .ok (.aload_n 0, 1) := by decide +kernel
theorem dL_law_479 : decode cL_law 479 = .ok (.iload_n 3, 1) := by decide +kernel
theorem dL_law_480 : decode cL_law 480 = .ok (.iconst 4, 1) := by decide +kernel
theorem dL_law_481 : decode cL_law 481 = .ok (.iadd, 1) := by decide +kernel
theorem dL_law_482 : decode cL_law 482 = .ok (.iaload, 1) := by decide +kernel
theorem dL_law_483 : decode cL_law 483 = .ok (.invokevirtual 61, 3) := by decide +kernel
theorem dL_law_486 : decode cL_law 486 = .ok (.if_icmp .eq 848, 3) := by decide +kernel
theorem dL_law_489 : decode cL_law 489 = .ok (.iconst 0, 1) := by decide +kernel
theorem dL_law_490 : decode cL_law 490 = .ok (.ireturn, 1) := by decide +kernel
theorem dL_law_491 : decode cL_law 491 = .ok (.aload_n 1, 1) := by decide +kernel
theorem dL_law_492 : decode cL_law 492 = .ok (.aload_n 0, 1) := by decide +kernel
theorem dL_law_493 : decode cL_law 493 = .ok (.iload_n 3, 1) := by decide +kernel
theorem dL_law_494 : decode cL_law 494 = .ok (.iconst 1, 1) := by decide +kernel
theorem dL_law_495 : decode cL_law 495 = .ok (.iadd, 1) := by decide +kernel
theorem dL_law_496 : decode cL_law 496 = .ok (.iaload, 1) := by decide +kernel
theorem dL_law_497 : decode cL_law 497 = .ok (.aload_n 0, 1) := by decide +kernel
theorem dL_law_498 : decode cL_law 498 = .ok (.iload_n 3, 1) := by decide +kernel
theorem dL_law_499 : decode cL_law 499 = .ok (.iconst 2, 1) := by decide +kernel
theorem dL_law_500 : decode cL_law 500 = .ok (.iadd, 1) := by decide +kernel
theorem dL_law_501 : decode cL_law 501 = .ok (.iaload, 1) := by decide +kernel
theorem dL_law_502 : decode cL_law 502 = .ok (.aload_n 0, 1) := by decide +kernel
theorem dL_law_503 : decode cL_law 503 = .ok (.iload_n 3, 1) := by decide +kernel
theorem dL_law_504 : decode cL_law 504 = .ok (.iconst 3, 1) := by decide +kernel
theorem dL_law_505 : decode cL_law 505 = .ok (.iadd, 1) := by decide +kernel
theorem dL_law_506 : decode cL_law 506 = .ok (.iaload, 1) := by decide +kernel
theorem dL_law_507 : decode cL_law 507 = .ok (.aload_n 0, 1) := by decide +kernel
theorem dL_law_508 : decode cL_law 508 = .ok (.iload_n 3, 1) := by decide +kernel
theorem dL_law_509 : decode cL_law 509 = .ok (.iconst 4, 1) := by decide +kernel
theorem dL_law_510 : decode cL_law 510 = .ok (.iadd, 1) := by decide +kernel
theorem dL_law_511 : decode cL_law 511 = .ok (.iaload, 1) := by decide +kernel
theorem dL_law_512 : decode cL_law 512 = .ok (.aload_n 0, 1) := by decide +kernel
theorem dL_law_513 : decode cL_law 513 = .ok (.iload_n 3, 1) := by decide +kernel
theorem dL_law_514 : decode cL_law 514 = .ok (.iconst 5, 1) := by decide +kernel
theorem dL_law_515 : decode cL_law 515 = .ok (.iadd, 1) := by decide +kernel
theorem dL_law_516 : decode cL_law 516 = .ok (.iaload, 1) := by decide +kernel
theorem dL_law_517 : decode cL_law 517 = .ok (.invokevirtual 62, 3) := by decide +kernel
theorem dL_law_520 : decode cL_law 520 = .ok (.aload_n 2, 1) := by decide +kernel
theorem dL_law_521 : decode cL_law 521 = .ok (.aload_n 0, 1) := by decide +kernel
theorem dL_law_522 : decode cL_law 522 = .ok (.iload_n 3, 1) := by decide +kernel
theorem dL_law_523 : decode cL_law 523 = .ok (.iconst 1, 1) := by decide +kernel
theorem dL_law_524 : decode cL_law 524 = .ok (.iadd, 1) := by decide +kernel
theorem dL_law_525 : decode cL_law 525 = .ok (.iaload, 1) := by decide +kernel
theorem dL_law_526 : decode cL_law 526 = .ok (.aload_n 0, 1) := by decide +kernel
theorem dL_law_527 : decode cL_law 527 = .ok (.iload_n 3, 1) := by decide +kernel
theorem dL_law_528 : decode cL_law 528 = .ok (.iconst 2, 1) := by decide +kernel
theorem dL_law_529 : decode cL_law 529 = .ok (.iadd, 1) := by decide +kernel
theorem dL_law_530 : decode cL_law 530 = .ok (.iaload, 1) := by decide +kernel
theorem dL_law_531 : decode cL_law 531 = .ok (.aload_n 0, 1) := by decide +kernel
theorem dL_law_532 : decode cL_law 532 = .ok (.iload_n 3, 1) := by decide +kernel
theorem dL_law_533 : decode cL_law 533 = .ok (.iconst 3, 1) := by decide +kernel
theorem dL_law_534 : decode cL_law 534 = .ok (.iadd, 1) := by decide +kernel
theorem dL_law_535 : decode cL_law 535 = .ok (.iaload, 1) := by decide +kernel
theorem dL_law_536 : decode cL_law 536 = .ok (.aload_n 0, 1) := by decide +kernel
theorem dL_law_537 : decode cL_law 537 = .ok (.iload_n 3, 1) := by decide +kernel
theorem dL_law_538 : decode cL_law 538 = .ok (.iconst 4, 1) := by decide +kernel
theorem dL_law_539 : decode cL_law 539 = .ok (.iadd, 1) := by decide +kernel
theorem dL_law_540 : decode cL_law 540 = .ok (.iaload, 1) := by decide +kernel
theorem dL_law_541 : decode cL_law 541 = .ok (.aload_n 0, 1) := by decide +kernel
theorem dL_law_542 : decode cL_law 542 = .ok (.iload_n 3, 1) := by decide +kernel
theorem dL_law_543 : decode cL_law 543 = .ok (.iconst 5, 1) := by decide +kernel
theorem dL_law_544 : decode cL_law 544 = .ok (.iadd, 1) := by decide +kernel
theorem dL_law_545 : decode cL_law 545 = .ok (.iaload, 1) := by decide +kernel
theorem dL_law_546 : decode cL_law 546 = .ok (.invokevirtual 66, 3) := by decide +kernel
theorem dL_law_549 : decode cL_law 549 = .ok (.if_icmp .eq 785, 3) := by decide +kernel
theorem dL_law_552 : decode cL_law 552 = .ok (.iconst 0, 1) := by decide +kernel
theorem dL_law_553 : decode cL_law 553 = .ok (.ireturn, 1) := by decide +kernel
theorem dL_law_554 : decode cL_law 554 = .ok (.aload_n 1, 1) := by decide +kernel
theorem dL_law_555 : decode cL_law 555 = .ok (.aload_n 0, 1) := by decide +kernel
theorem dL_law_556 : decode cL_law 556 = .ok (.iload_n 3, 1) := by decide +kernel
theorem dL_law_557 : decode cL_law 557 = .ok (.iconst 1, 1) := by decide +kernel
theorem dL_law_558 : decode cL_law 558 = .ok (.iadd, 1) := by decide +kernel
theorem dL_law_559 : decode cL_law 559 = .ok (.iaload, 1) := by decide +kernel
theorem dL_law_560 : decode cL_law 560 = .ok (.invokevirtual 67, 3) := by decide +kernel
theorem dL_law_563 : decode cL_law 563 = .ok (.aload_n 2, 1) := by decide +kernel
theorem dL_law_564 : decode cL_law 564 = .ok (.aload_n 0, 1) := by decide +kernel
theorem dL_law_565 : decode cL_law 565 = .ok (.iload_n 3, 1) := by decide +kernel
theorem dL_law_566 : decode cL_law 566 = .ok (.iconst 1, 1) := by decide +kernel
theorem dL_law_567 : decode cL_law 567 = .ok (.iadd, 1) := by decide +kernel
theorem dL_law_568 : decode cL_law 568 = .ok (.iaload, 1) := by decide +kernel
theorem dL_law_569 : decode cL_law 569 = .ok (.invokevirtual 70, 3) := by decide +kernel
theorem dL_law_572 : decode cL_law 572 = .ok (.if_icmp .eq 762, 3) := by decide +kernel
theorem dL_law_575 : decode cL_law 575 = .ok (.iconst 0, 1) := by decide +kernel
theorem dL_law_576 : decode cL_law 576 = .ok (.ireturn, 1) := by decide +kernel
theorem dL_law_577 : decode cL_law 577 = .ok (.aload_n 1, 1) := by decide +kernel
theorem dL_law_578 : decode cL_law 578 = .ok (.aload_n 0, 1) := by decide +kernel
theorem dL_law_579 : decode cL_law 579 = .ok (.iload_n 3, 1) := by decide +kernel
theorem dL_law_580 : decode cL_law 580 = .ok (.iconst 1, 1) := by decide +kernel
theorem dL_law_581 : decode cL_law 581 = .ok (.iadd, 1) := by decide +kernel
theorem dL_law_582 : decode cL_law 582 = .ok (.iaload, 1) := by decide +kernel
theorem dL_law_583 : decode cL_law 583 = .ok (.aload_n 0, 1) := by decide +kernel
theorem dL_law_584 : decode cL_law 584 = .ok (.iload_n 3, 1) := by decide +kernel
theorem dL_law_585 : decode cL_law 585 = .ok (.iconst 2, 1) := by decide +kernel
theorem dL_law_586 : decode cL_law 586 = .ok (.iadd, 1) := by decide +kernel
theorem dL_law_587 : decode cL_law 587 = .ok (.iaload, 1) := by decide +kernel
theorem dL_law_588 : decode cL_law 588 = .ok (.invokevirtual 71, 3) := by decide +kernel
theorem dL_law_591 : decode cL_law 591 = .ok (.aload_n 2, 1) := by decide +kernel
theorem dL_law_592 : decode cL_law 592 = .ok (.aload_n 0, 1) := by decide +kernel
theorem dL_law_593 : decode cL_law 593 = .ok (.iload_n 3, 1) := by decide +kernel
theorem dL_law_594 : decode cL_law 594 = .ok (.iconst 1, 1) := by decide +kernel
theorem dL_law_595 : decode cL_law 595 = .ok (.iadd, 1) := by decide +kernel
theorem dL_law_596 : decode cL_law 596 = .ok (.iaload, 1) := by decide +kernel
theorem dL_law_597 : decode cL_law 597 = .ok (.aload_n 0, 1) := by decide +kernel
theorem dL_law_598 : decode cL_law 598 = .ok (.iload_n 3, 1) := by decide +kernel
theorem dL_law_599 : decode cL_law 599 = .ok (.iconst 2, 1) := by decide +kernel
theorem dL_law_600 : decode cL_law 600 = .ok (.iadd, 1) := by decide +kernel
theorem dL_law_601 : decode cL_law 601 = .ok (.iaload, 1) := by decide +kernel
theorem dL_law_602 : decode cL_law 602 = .ok (.invokevirtual 74, 3) := by decide +kernel
theorem dL_law_605 : decode cL_law 605 = .ok (.if_icmp .eq 729, 3) := by decide +kernel
theorem dL_law_608 : decode cL_law 608 = .ok (.iconst 0, 1) := by decide +kernel
theorem dL_law_609 : decode cL_law 609 = .ok (.ireturn, 1) := by decide +kernel
theorem dL_law_610 : decode cL_law 610 = .ok (.aload_n 1, 1) := by decide +kernel
theorem dL_law_611 : decode cL_law 611 = .ok (.aload_n 0, 1) := by decide +kernel
theorem dL_law_612 : decode cL_law 612 = .ok (.iload_n 3, 1) := by decide +kernel
theorem dL_law_613 : decode cL_law 613 = .ok (.iconst 1, 1) := by decide +kernel
theorem dL_law_614 : decode cL_law 614 = .ok (.iadd, 1) := by decide +kernel
theorem dL_law_615 : decode cL_law 615 = .ok (.iaload, 1) := by decide +kernel
theorem dL_law_616 : decode cL_law 616 = .ok (.aload_n 0, 1) := by decide +kernel
theorem dL_law_617 : decode cL_law 617 = .ok (.iload_n 3, 1) := by decide +kernel
theorem dL_law_618 : decode cL_law 618 = .ok (.iconst 2, 1) := by decide +kernel
theorem dL_law_619 : decode cL_law 619 = .ok (.iadd, 1) := by decide +kernel
theorem dL_law_620 : decode cL_law 620 = .ok (.iaload, 1) := by decide +kernel
theorem dL_law_621 : decode cL_law 621 = .ok (.invokevirtual 75, 3) := by decide +kernel
theorem dL_law_624 : decode cL_law 624 = .ok (.aload_n 2, 1) := by decide +kernel
theorem dL_law_625 : decode cL_law 625 = .ok (.aload_n 0, 1) := by decide +kernel
theorem dL_law_626 : decode cL_law 626 = .ok (.iload_n 3, 1) := by decide +kernel
theorem dL_law_627 : decode cL_law 627 = .ok (.iconst 1, 1) := by decide +kernel
theorem dL_law_628 : decode cL_law 628 = .ok (.iadd, 1) := by decide +kernel
theorem dL_law_629 : decode cL_law 629 = .ok (.iaload, 1) := by decide +kernel
theorem dL_law_630 : decode cL_law 630 = .ok (.aload_n 0, 1) := by decide +kernel
theorem dL_law_631 : decode cL_law 631 = .ok (.iload_n 3, 1) := by decide +kernel
theorem dL_law_632 : decode cL_law 632 = .ok (.iconst 2, 1) := by decide +kernel
theorem dL_law_633 : decode cL_law 633 = .ok (.iadd, 1) := by decide +kernel
theorem dL_law_634 : decode cL_law 634 = .ok (.iaload, 1) := by decide +kernel
theorem dL_law_635 : decode cL_law 635 = .ok (.invokevirtual 78, 3) := by decide +kernel
theorem dL_law_638 : decode cL_law 638 = .ok (.if_icmp .eq 696, 3) := by decide +kernel
theorem dL_law_641 : decode cL_law 641 = .ok (.iconst 0, 1) := by decide +kernel
theorem dL_law_642 : decode cL_law 642 = .ok (.ireturn, 1) := by decide +kernel
theorem dL_law_643 : decode cL_law 643 = .ok (.aload_n 1, 1) := by decide +kernel
theorem dL_law_644 : decode cL_law 644 = .ok (.aload_n 0, 1) := by decide +kernel
theorem dL_law_645 : decode cL_law 645 = .ok (.iload_n 3, 1) := by decide +kernel
theorem dL_law_646 : decode cL_law 646 = .ok (.iconst 1, 1) := by decide +kernel
theorem dL_law_647 : decode cL_law 647 = .ok (.iadd, 1) := by decide +kernel
theorem dL_law_648 : decode cL_law 648 = .ok (.iaload, 1) := by decide +kernel
theorem dL_law_649 : decode cL_law 649 = .ok (.invokevirtual 79, 3) := by decide +kernel
theorem dL_law_652 : decode cL_law 652 = .ok (.aload_n 2, 1) := by decide +kernel
theorem dL_law_653 : decode cL_law 653 = .ok (.aload_n 0, 1) := by decide +kernel
theorem dL_law_654 : decode cL_law 654 = .ok (.iload_n 3, 1) := by decide +kernel
theorem dL_law_655 : decode cL_law 655 = .ok (.iconst 1, 1) := by decide +kernel
theorem dL_law_656 : decode cL_law 656 = .ok (.iadd, 1) := by decide +kernel
theorem dL_law_657 : decode cL_law 657 = .ok (.iaload, 1) := by decide +kernel
theorem dL_law_658 : decode cL_law 658 = .ok (.invokevirtual 82, 3) := by decide +kernel
theorem dL_law_661 : decode cL_law 661 = .ok (.if_icmp .eq 673, 3) := by decide +kernel
theorem dL_law_664 : decode cL_law 664 = .ok (.iconst 0, 1) := by decide +kernel
theorem dL_law_665 : decode cL_law 665 = .ok (.ireturn, 1) := by decide +kernel
theorem dL_law_666 : decode cL_law 666 = .ok (.aload_n 1, 1) := by decide +kernel
theorem dL_law_667 : decode cL_law 667 = .ok (.aload_n 0, 1) := by decide +kernel
theorem dL_law_668 : decode cL_law 668 = .ok (.iload_n 3, 1) := by decide +kernel
theorem dL_law_669 : decode cL_law 669 = .ok (.iconst 1, 1) := by decide +kernel
theorem dL_law_670 : decode cL_law 670 = .ok (.iadd, 1) := by decide +kernel
theorem dL_law_671 : decode cL_law 671 = .ok (.iaload, 1) := by decide +kernel
theorem dL_law_672 : decode cL_law 672 = .ok (.aload_n 0, 1) := by decide +kernel
theorem dL_law_673 : decode cL_law 673 = .ok (.iload_n 3, 1) := by decide +kernel
theorem dL_law_674 : decode cL_law 674 = .ok (.iconst 2, 1) := by decide +kernel
theorem dL_law_675 : decode cL_law 675 = .ok (.iadd, 1) := by decide +kernel
theorem dL_law_676 : decode cL_law 676 = .ok (.iaload, 1) := by decide +kernel
theorem dL_law_677 : decode cL_law 677 = .ok (.aload_n 0, 1) := by decide +kernel
theorem dL_law_678 : decode cL_law 678 = .ok (.iload_n 3, 1) := by decide +kernel
theorem dL_law_679 : decode cL_law 679 = .ok (.iconst 3, 1) := by decide +kernel
theorem dL_law_680 : decode cL_law 680 = .ok (.iadd, 1) := by decide +kernel
theorem dL_law_681 : decode cL_law 681 = .ok (.iaload, 1) := by decide +kernel
theorem dL_law_682 : decode cL_law 682 = .ok (.invokevirtual 83, 3) := by decide +kernel
theorem dL_law_685 : decode cL_law 685 = .ok (.aload_n 2, 1) := by decide +kernel
theorem dL_law_686 : decode cL_law 686 = .ok (.aload_n 0, 1) := by decide +kernel
theorem dL_law_687 : decode cL_law 687 = .ok (.iload_n 3, 1) := by decide +kernel
theorem dL_law_688 : decode cL_law 688 = .ok (.iconst 1, 1) := by decide +kernel
theorem dL_law_689 : decode cL_law 689 = .ok (.iadd, 1) := by decide +kernel
theorem dL_law_690 : decode cL_law 690 = .ok (.iaload, 1) := by decide +kernel
theorem dL_law_691 : decode cL_law 691 = .ok (.aload_n 0, 1) := by decide +kernel
theorem dL_law_692 : decode cL_law 692 = .ok (.iload_n 3, 1) := by decide +kernel
theorem dL_law_693 : decode cL_law 693 = .ok (.iconst 2, 1) := by decide +kernel
theorem dL_law_694 : decode cL_law 694 = .ok (.iadd, 1) := by decide +kernel
theorem dL_law_695 : decode cL_law 695 = .ok (.iaload, 1) := by decide +kernel
theorem dL_law_696 : decode cL_law 696 = .ok (.aload_n 0, 1) := by decide +kernel
theorem dL_law_697 : decode cL_law 697 = .ok (.iload_n 3, 1) := by decide +kernel
theorem dL_law_698 : decode cL_law 698 = .ok (.iconst 3, 1) := by decide +kernel
theorem dL_law_699 : decode cL_law 699 = .ok (.iadd, 1) := by decide +kernel
theorem dL_law_700 : decode cL_law 700 = .ok (.iaload, 1) := by decide +kernel
theorem dL_law_701 : decode cL_law 701 = .ok (.invokevirtual 86, 3) := by decide +kernel
theorem dL_law_704 : decode cL_law 704 = .ok (.if_icmp .eq 630, 3) := by decide +kernel
theorem dL_law_707 : decode cL_law 707 = .ok (.iconst 0, 1) := by decide +kernel
theorem dL_law_708 : decode cL_law 708 = .ok (.ireturn, 1) := by decide +kernel
theorem dL_law_709 : decode cL_law 709 = .ok (.aload_n 1, 1) := by decide +kernel
theorem dL_law_710 : decode cL_law 710 = .ok (.aload_n 0, 1) := by decide +kernel
theorem dL_law_711 : decode cL_law 711 = .ok (.iload_n 3, 1) := by decide +kernel
theorem dL_law_712 : decode cL_law 712 = .ok (.iconst 1, 1) := by decide +kernel
theorem dL_law_713 : decode cL_law 713 = .ok (.iadd, 1) := by decide +kernel
theorem dL_law_714 : decode cL_law 714 = .ok (.iaload, 1) := by decide +kernel
theorem dL_law_715 : decode cL_law 715 = .ok (.aload_n 0, 1) := by decide +kernel
theorem dL_law_716 : decode cL_law 716 = .ok (.iload_n 3, 1) := by decide +kernel
theorem dL_law_717 : decode cL_law 717 = .ok (.iconst 2, 1) := by decide +kernel
theorem dL_law_718 : decode cL_law 718 = .ok (.iadd, 1) := by decide +kernel
theorem dL_law_719 : decode cL_law 719 = .ok (.iaload, 1) := by decide +kernel
theorem dL_law_720 : decode cL_law 720 = .ok (.aload_n 0, 1) := by decide +kernel
theorem dL_law_721 : decode cL_law 721 = .ok (.iload_n 3, 1) := by decide +kernel
theorem dL_law_722 : decode cL_law 722 = .ok (.iconst 3, 1) := by decide +kernel
theorem dL_law_723 : decode cL_law 723 = .ok (.iadd, 1) := by decide +kernel
theorem dL_law_724 : decode cL_law 724 = .ok (.iaload, 1) := by decide +kernel
theorem dL_law_725 : decode cL_law 725 = .ok (.invokevirtual 87, 3) := by decide +kernel
theorem dL_law_728 : decode cL_law 728 = .ok (.aload_n 2, 1) := by decide +kernel
theorem dL_law_729 : decode cL_law 729 = .ok (.aload_n 0, 1) := by decide +kernel
theorem dL_law_730 : decode cL_law 730 = .ok (.iload_n 3, 1) := by decide +kernel
theorem dL_law_731 : decode cL_law 731 = .ok (.iconst 1, 1) := by decide +kernel
theorem dL_law_732 : decode cL_law 732 = .ok (.iadd, 1) := by decide +kernel
theorem dL_law_733 : decode cL_law 733 = .ok (.iaload, 1) := by decide +kernel
theorem dL_law_734 : decode cL_law 734 = .ok (.aload_n 0, 1) := by decide +kernel
theorem dL_law_735 : decode cL_law 735 = .ok (.iload_n 3, 1) := by decide +kernel
theorem dL_law_736 : decode cL_law 736 = .ok (.iconst 2, 1) := by decide +kernel
theorem dL_law_737 : decode cL_law 737 = .ok (.iadd, 1) := by decide +kernel
theorem dL_law_738 : decode cL_law 738 = .ok (.iaload, 1) := by decide +kernel
theorem dL_law_739 : decode cL_law 739 = .ok (.aload_n 0, 1) := by decide +kernel
theorem dL_law_740 : decode cL_law 740 = .ok (.iload_n 3, 1) := by decide +kernel
theorem dL_law_741 : decode cL_law 741 = .ok (.iconst 3, 1) := by decide +kernel
theorem dL_law_742 : decode cL_law 742 = .ok (.iadd, 1) := by decide +kernel
theorem dL_law_743 : decode cL_law 743 = .ok (.iaload, 1) := by decide +kernel
theorem dL_law_744 : decode cL_law 744 = .ok (.invokevirtual 90, 3) := by decide +kernel
theorem dL_law_747 : decode cL_law 747 = .ok (.if_icmp .eq 587, 3) := by decide +kernel
theorem dL_law_750 : decode cL_law 750 = .ok (.iconst 0, 1) := by decide +kernel
theorem dL_law_751 : decode cL_law 751 = .ok (.ireturn, 1) := by decide +kernel
theorem dL_law_752 : decode cL_law 752 = .ok (.aload_n 1, 1) := by decide +kernel
theorem dL_law_753 : decode cL_law 753 = .ok (.aload_n 0, 1) := by decide +kernel
theorem dL_law_754 : decode cL_law 754 = .ok (.iload_n 3, 1) := by decide +kernel
theorem dL_law_755 : decode cL_law 755 = .ok (.iconst 1, 1) := by decide +kernel
theorem dL_law_756 : decode cL_law 756 = .ok (.iadd, 1) := by decide +kernel
theorem dL_law_757 : decode cL_law 757 = .ok (.iaload, 1) := by decide +kernel
theorem dL_law_758 : decode cL_law 758 = .ok (.aload_n 0, 1) := by decide +kernel
theorem dL_law_759 : decode cL_law 759 = .ok (.iload_n 3, 1) := by decide +kernel
theorem dL_law_760 : decode cL_law 760 = .ok (.iconst 2, 1) := by decide +kernel
theorem dL_law_761 : decode cL_law 761 = .ok (.iadd, 1) := by decide +kernel
theorem dL_law_762 : decode cL_law 762 = .ok (.iaload, 1) := by decide +kernel
theorem dL_law_763 : decode cL_law 763 = .ok (.aload_n 0, 1) := by decide +kernel
theorem dL_law_764 : decode cL_law 764 = .ok (.iload_n 3, 1) := by decide +kernel
theorem dL_law_765 : decode cL_law 765 = .ok (.iconst 3, 1) := by decide +kernel
theorem dL_law_766 : decode cL_law 766 = .ok (.iadd, 1) := by decide +kernel
theorem dL_law_767 : decode cL_law 767 = .ok (.iaload, 1) := by decide +kernel
theorem dL_law_768 : decode cL_law 768 = .ok (.aload_n 0, 1) := by decide +kernel
theorem dL_law_769 : decode cL_law 769 = .ok (.iload_n 3, 1) := by decide +kernel
theorem dL_law_770 : decode cL_law 770 = .ok (.iconst 4, 1) := by decide +kernel
theorem dL_law_771 : decode cL_law 771 = .ok (.iadd, 1) := by decide +kernel
theorem dL_law_772 : decode cL_law 772 = .ok (.iaload, 1) := by decide +kernel
theorem dL_law_773 : decode cL_law 773 = .ok (.invokevirtual 91, 3) := by decide +kernel
theorem dL_law_776 : decode cL_law 776 = .ok (.aload_n 2, 1) := by decide +kernel
theorem dL_law_777 : decode cL_law 777 = .ok (.aload_n 0, 1) := by decide +kernel
theorem dL_law_778 : decode cL_law 778 = .ok (.iload_n 3, 1) := by decide +kernel
theorem dL_law_779 : decode cL_law 779 = .ok (.iconst 1, 1) := by decide +kernel
theorem dL_law_780 : decode cL_law 780 = .ok (.iadd, 1) := by decide +kernel
theorem dL_law_781 : decode cL_law 781 = .ok (.iaload, 1) := by decide +kernel
theorem dL_law_782 : decode cL_law 782 = .ok (.aload_n 0, 1) := by decide +kernel
theorem dL_law_783 : decode cL_law 783 = .ok (.iload_n 3, 1) := by decide +kernel
theorem dL_law_784 : decode cL_law 784 = .ok (.iconst 2, 1) := by decide +kernel
theorem dL_law_785 : decode cL_law 785 = .ok (.iadd, 1) := by decide +kernel
theorem dL_law_786 : decode cL_law 786 = .ok (.iaload, 1) := by decide +kernel
theorem dL_law_787 : decode cL_law 787 = .ok (.aload_n 0, 1) := by decide +kernel
theorem dL_law_788 : decode cL_law 788 = .ok (.iload_n 3, 1) := by decide +kernel
theorem dL_law_789 : decode cL_law 789 = .ok (.iconst 3, 1) := by decide +kernel
theorem dL_law_790 : decode cL_law 790 = .ok (.iadd, 1) := by decide +kernel
theorem dL_law_791 : decode cL_law 791 = .ok (.iaload, 1) := by decide +kernel
theorem dL_law_792 : decode cL_law 792 = .ok (.aload_n 0, 1) := by decide +kernel
theorem dL_law_793 : decode cL_law 793 = .ok (.iload_n 3, 1) := by decide +kernel
theorem dL_law_794 : decode cL_law 794 = .ok (.iconst 4, 1) := by decide +kernel
theorem dL_law_795 : decode cL_law 795 = .ok (.iadd, 1) := by decide +kernel
theorem dL_law_796 : decode cL_law 796 = .ok (.iaload, 1) := by decide +kernel
theorem dL_law_797 : decode cL_law 797 = .ok (.invokevirtual 94, 3) := by decide +kernel
theorem dL_law_800 : decode cL_law 800 = .ok (.if_icmp .eq 534, 3) := by decide +kernel
theorem dL_law_803 : decode cL_law 803 = .ok (.iconst 0, 1) := by decide +kernel
theorem dL_law_804 : decode cL_law 804 = .ok (.ireturn, 1) := by decide +kernel
theorem dL_law_805 : decode cL_law 805 = .ok (.aload_n 1, 1) := by decide +kernel
theorem dL_law_806 : decode cL_law 806 = .ok (.aload_n 0, 1) := by decide +kernel
theorem dL_law_807 : decode cL_law 807 = .ok (.iload_n 3, 1) := by decide +kernel
theorem dL_law_808 : decode cL_law 808 = .ok (.iconst 1, 1) := by decide +kernel
theorem dL_law_809 : decode cL_law 809 = .ok (.iadd, 1) := by decide +kernel
theorem dL_law_810 : decode cL_law 810 = .ok (.iaload, 1) := by decide +kernel
theorem dL_law_811 : decode cL_law 811 = .ok (.aload_n 0, 1) := by decide +kernel
theorem dL_law_812 : decode cL_law 812 = .ok (.iload_n 3, 1) := by decide +kernel
theorem dL_law_813 : decode cL_law 813 = .ok (.iconst 2, 1) := by decide +kernel
theorem dL_law_814 : decode cL_law 814 = .ok (.iadd, 1) := by decide +kernel
theorem dL_law_815 : decode cL_law 815 = .ok (.iaload, 1) := by decide +kernel
theorem dL_law_816 : decode cL_law 816 = .ok (.aload_n 0, 1) := by decide +kernel
theorem dL_law_817 : decode cL_law 817 = .ok (.iload_n 3, 1) := by decide +kernel
theorem dL_law_818 : decode cL_law 818 = .ok (.iconst 3, 1) := by decide +kernel
theorem dL_law_819 : decode cL_law 819 = .ok (.iadd, 1) := by decide +kernel
theorem dL_law_820 : decode cL_law 820 = .ok (.iaload, 1) := by decide +kernel
theorem dL_law_821 : decode cL_law 821 = .ok (.aload_n 0, 1) := by decide +kernel
theorem dL_law_822 : decode cL_law 822 = .ok (.iload_n 3, 1) := by decide +kernel
theorem dL_law_823 : decode cL_law 823 = .ok (.iconst 4, 1) := by decide +kernel
theorem dL_law_824 : decode cL_law 824 = .ok (.iadd, 1) := by decide +kernel
theorem dL_law_825 : decode cL_law 825 = .ok (.iaload, 1) := by decide +kernel
theorem dL_law_826 : decode cL_law 826 = .ok (.invokevirtual 95, 3) := by decide +kernel
theorem dL_law_829 : decode cL_law 829 = .ok (.aload_n 2, 1) := by decide +kernel
theorem dL_law_830 : decode cL_law 830 = .ok (.aload_n 0, 1) := by decide +kernel
theorem dL_law_831 : decode cL_law 831 = .ok (.iload_n 3, 1) := by decide +kernel
theorem dL_law_832 : decode cL_law 832 = .ok (.iconst 1, 1) := by decide +kernel
theorem dL_law_833 : decode cL_law 833 = .ok (.iadd, 1) := by decide +kernel
theorem dL_law_834 : decode cL_law 834 = .ok (.iaload, 1) := by decide +kernel
theorem dL_law_835 : decode cL_law 835 = .ok (.aload_n 0, 1) := by decide +kernel
theorem dL_law_836 : decode cL_law 836 = .ok (.iload_n 3, 1) := by decide +kernel
theorem dL_law_837 : decode cL_law 837 = .ok (.iconst 2, 1) := by decide +kernel
theorem dL_law_838 : decode cL_law 838 = .ok (.iadd, 1) := by decide +kernel
theorem dL_law_839 : decode cL_law 839 = .ok (.iaload, 1) := by decide +kernel
theorem dL_law_840 : decode cL_law 840 = .ok (.aload_n 0, 1) := by decide +kernel
theorem dL_law_841 : decode cL_law 841 = .ok (.iload_n 3, 1) := by decide +kernel
theorem dL_law_842 : decode cL_law 842 = .ok (.iconst 3, 1) := by decide +kernel
theorem dL_law_843 : decode cL_law 843 = .ok (.iadd, 1) := by decide +kernel
theorem dL_law_844 : decode cL_law 844 = .ok (.iaload, 1) := by decide +kernel
theorem dL_law_845 : decode cL_law 845 = .ok (.aload_n 0, 1) := by decide +kernel
theorem dL_law_846 : decode cL_law 846 = .ok (.iload_n 3, 1) := by decide +kernel
theorem dL_law_847 : decode cL_law 847 = .ok (.iconst 4, 1) := by decide +kernel
theorem dL_law_848 : decode cL_law 848 = .ok (.iadd, 1) := by decide +kernel
theorem dL_law_849 : decode cL_law 849 = .ok (.iaload, 1) := by decide +kernel
theorem dL_law_850 : decode cL_law 850 = .ok (.invokevirtual 98, 3) := by decide +kernel
theorem dL_law_853 : decode cL_law 853 = .ok (.if_icmp .eq 481, 3) := by decide +kernel
theorem dL_law_856 : decode cL_law 856 = .ok (.iconst 0, 1) := by decide +kernel
theorem dL_law_857 : decode cL_law 857 = .ok (.ireturn, 1) := by decide +kernel
theorem dL_law_858 : decode cL_law 858 = .ok (.aload_n 1, 1) := by decide +kernel
theorem dL_law_859 : decode cL_law 859 = .ok (.aload_n 0, 1) := by decide +kernel
theorem dL_law_860 : decode cL_law 860 = .ok (.iload_n 3, 1) := by decide +kernel
theorem dL_law_861 : decode cL_law 861 = .ok (.iconst 1, 1) := by decide +kernel
theorem dL_law_862 : decode cL_law 862 = .ok (.iadd, 1) := by decide +kernel
theorem dL_law_863 : decode cL_law 863 = .ok (.iaload, 1) := by decide +kernel
theorem dL_law_864 : decode cL_law 864 = .ok (.aload_n 0, 1) := by decide +kernel
theorem dL_law_865 : decode cL_law 865 = .ok (.iload_n 3, 1) := by decide +kernel
theorem dL_law_866 : decode cL_law 866 = .ok (.iconst 2, 1) := by decide +kernel
theorem dL_law_867 : decode cL_law 867 = .ok (.iadd, 1) := by decide +kernel
theorem dL_law_868 : decode cL_law 868 = .ok (.iaload, 1) := by decide +kernel
theorem dL_law_869 : decode cL_law 869 = .ok (.aload_n 0, 1) := by decide +kernel
theorem dL_law_870 : decode cL_law 870 = .ok (.iload_n 3, 1) := by decide +kernel
theorem dL_law_871 : decode cL_law 871 = .ok (.iconst 3, 1) := by decide +kernel
theorem dL_law_872 : decode cL_law 872 = .ok (.iadd, 1) := by decide +kernel
theorem dL_law_873 : decode cL_law 873 = .ok (.iaload, 1) := by decide +kernel
theorem dL_law_874 : decode cL_law 874 = .ok (.invokevirtual 99, 3) := by decide +kernel
theorem dL_law_877 : decode cL_law 877 = .ok (.aload_n 2, 1) := by decide +kernel
theorem dL_law_878 : decode cL_law 878 = .ok (.aload_n 0, 1) := by decide +kernel
theorem dL_law_879 : decode cL_law 879 = .ok (.iload_n 3, 1) := by decide +kernel
theorem dL_law_880 : decode cL_law 880 = .ok (.iconst 1, 1) := by decide +kernel
theorem dL_law_881 : decode cL_law 881 = .ok (.iadd, 1) := by decide +kernel
theorem dL_law_882 : decode cL_law 882 = .ok (.iaload, 1) := by decide +kernel
theorem dL_law_883 : decode cL_law 883 = .ok (.aload_n 0, 1) := by decide +kernel
theorem dL_law_884 : decode cL_law 884 = .ok (.iload_n 3, 1) := by decide +kernel
theorem dL_law_885 : decode cL_law 885 = .ok (.iconst 2, 1) := by decide +kernel
theorem dL_law_886 : decode cL_law 886 = .ok (.iadd, 1) := by decide +kernel
theorem dL_law_887 : decode cL_law 887 = .ok (.iaload, 1) := by decide +kernel
theorem dL_law_888 : decode cL_law 888 = .ok (.aload_n 0, 1) := by decide +kernel
theorem dL_law_889 : decode cL_law 889 = .ok (.iload_n 3, 1) := by decide +kernel
theorem dL_law_890 : decode cL_law 890 = .ok (.iconst 3, 1) := by decide +kernel
theorem dL_law_891 : decode cL_law 891 = .ok (.iadd, 1) := by decide +kernel
theorem dL_law_892 : decode cL_law 892 = .ok (.iaload, 1) := by decide +kernel
theorem dL_law_893 : decode cL_law 893 = .ok (.invokevirtual 102, 3) := by decide +kernel
theorem dL_law_896 : decode cL_law 896 = .ok (.if_icmp .eq 438, 3) := by decide +kernel
theorem dL_law_899 : decode cL_law 899 = .ok (.iconst 0, 1) := by decide +kernel
theorem dL_law_900 : decode cL_law 900 = .ok (.ireturn, 1) := by decide +kernel
theorem dL_law_901 : decode cL_law 901 = .ok (.aload_n 1, 1) := by decide +kernel
theorem dL_law_902 : decode cL_law 902 = .ok (.aload_n 0, 1) := by decide +kernel
theorem dL_law_903 : decode cL_law 903 = .ok (.iload_n 3, 1) := by decide +kernel
theorem dL_law_904 : decode cL_law 904 = .ok (.iconst 1, 1) := by decide +kernel
theorem dL_law_905 : decode cL_law 905 = .ok (.iadd, 1) := by decide +kernel
theorem dL_law_906 : decode cL_law 906 = .ok (.iaload, 1) := by decide +kernel
theorem dL_law_907 : decode cL_law 907 = .ok (.aload_n 0, 1) := by decide +kernel
theorem dL_law_908 : decode cL_law 908 = .ok (.iload_n 3, 1) := by decide +kernel
theorem dL_law_909 : decode cL_law 909 = .ok (.iconst 2, 1) := by decide +kernel
theorem dL_law_910 : decode cL_law 910 = .ok (.iadd, 1) := by decide +kernel
theorem dL_law_911 : decode cL_law 911 = .ok (.iaload, 1) := by decide +kernel
theorem dL_law_912 : decode cL_law 912 = .ok (.invokevirtual 103, 3) := by decide +kernel
theorem dL_law_915 : decode cL_law 915 = .ok (.aload_n 2, 1) := by decide +kernel
theorem dL_law_916 : decode cL_law 916 = .ok (.aload_n 0, 1) := by decide +kernel
theorem dL_law_917 : decode cL_law 917 = .ok (.iload_n 3, 1) := by decide +kernel
theorem dL_law_918 : decode cL_law 918 = .ok (.iconst 1, 1) := by decide +kernel
theorem dL_law_919 : decode cL_law 919 = .ok (.iadd, 1) := by decide +kernel
theorem dL_law_920 : decode cL_law 920 = .ok (.iaload, 1) := by decide +kernel
theorem dL_law_921 : decode cL_law 921 = .ok (.aload_n 0, 1) := by decide +kernel
theorem dL_law_922 : decode cL_law 922 = .ok (.iload_n 3, 1) := by decide +kernel
theorem dL_law_923 : decode cL_law 923 = .ok (.iconst 2, 1) := by decide +kernel
theorem dL_law_924 : decode cL_law 924 = .ok (.iadd, 1) := by decide +kernel
theorem dL_law_925 : decode cL_law 925 = .ok (.iaload, 1) := by decide +kernel
theorem dL_law_926 : decode cL_law 926 = .ok (.invokevirtual 106, 3) := by decide +kernel
theorem dL_law_929 : decode cL_law 929 = .ok (.if_icmp .eq 405, 3) := by decide +kernel
theorem dL_law_932 : decode cL_law 932 = .ok (.iconst 0, 1) := by decide +kernel
theorem dL_law_933 : decode cL_law 933 = .ok (.ireturn, 1) := by decide +kernel
theorem dL_law_934 : decode cL_law 934 = .ok (.aload_n 1, 1) := by decide +kernel
theorem dL_law_935 : decode cL_law 935 = .ok (.aload_n 0, 1) := by decide +kernel
theorem dL_law_936 : decode cL_law 936 = .ok (.iload_n 3, 1) := by decide +kernel
theorem dL_law_937 : decode cL_law 937 = .ok (.iconst 1, 1) := by decide +kernel
theorem dL_law_938 : decode cL_law 938 = .ok (.iadd, 1) := by decide +kernel
theorem dL_law_939 : decode cL_law 939 = .ok (.iaload, 1) := by decide +kernel
theorem dL_law_940 : decode cL_law 940 = .ok (.aload_n 0, 1) := by decide +kernel
theorem dL_law_941 : decode cL_law 941 = .ok (.iload_n 3, 1) := by decide +kernel
theorem dL_law_942 : decode cL_law 942 = .ok (.iconst 2, 1) := by decide +kernel
theorem dL_law_943 : decode cL_law 943 = .ok (.iadd, 1) := by decide +kernel
theorem dL_law_944 : decode cL_law 944 = .ok (.iaload, 1) := by decide +kernel
theorem dL_law_945 : decode cL_law 945 = .ok (.aload_n 0, 1) := by decide +kernel
theorem dL_law_946 : decode cL_law 946 = .ok (.iload_n 3, 1) := by decide +kernel
theorem dL_law_947 : decode cL_law 947 = .ok (.iconst 3, 1) := by decide +kernel
theorem dL_law_948 : decode cL_law 948 = .ok (.iadd, 1) := by decide +kernel
theorem dL_law_949 : decode cL_law 949 = .ok (.iaload, 1) := by decide +kernel
theorem dL_law_950 : decode cL_law 950 = .ok (.invokevirtual 107, 3) := by decide +kernel
theorem dL_law_953 : decode cL_law 953 = .ok (.aload_n 2, 1) := by decide +kernel
theorem dL_law_954 : decode cL_law 954 = .ok (.aload_n 0, 1) := by decide +kernel
theorem dL_law_955 : decode cL_law 955 = .ok (.iload_n 3, 1) := by decide +kernel
theorem dL_law_956 : decode cL_law 956 = .ok (.iconst 1, 1) := by decide +kernel
theorem dL_law_957 : decode cL_law 957 = .ok (.iadd, 1) := by decide +kernel
theorem dL_law_958 : decode cL_law 958 = .ok (.iaload, 1) := by decide +kernel
theorem dL_law_959 : decode cL_law 959 = .ok (.aload_n 0, 1) := by decide +kernel
theorem dL_law_960 : decode cL_law 960 = .ok (.iload_n 3, 1) := by decide +kernel
theorem dL_law_961 : decode cL_law 961 = .ok (.iconst 2, 1) := by decide +kernel
theorem dL_law_962 : decode cL_law 962 = .ok (.iadd, 1) := by decide +kernel
theorem dL_law_963 : decode cL_law 963 = .ok (.iaload, 1) := by decide +kernel
theorem dL_law_964 : decode cL_law 964 = .ok (.aload_n 0, 1) := by decide +kernel
theorem dL_law_965 : decode cL_law 965 = .ok (.iload_n 3, 1) := by decide +kernel
theorem dL_law_966 : decode cL_law 966 = .ok (.iconst 3, 1) := by decide +kernel
theorem dL_law_967 : decode cL_law 967 = .ok (.iadd, 1) := by decide +kernel
theorem dL_law_968 : decode cL_law 968 = .ok (.iaload, 1) := by decide +kernel
theorem dL_law_969 : decode cL_law 969 = .ok (.invokevirtual 110, 3) := by decide +kernel
theorem dL_law_972 : decode cL_law 972 = .ok (.if_icmp .eq 362, 3) := by decide +kernel
theorem dL_law_975 : decode cL_law 975 = .ok (.iconst 0, 1) := by decide +kernel
theorem dL_law_976 : decode cL_law 976 = .ok (.ireturn, 1) := by decide +kernel
theorem dL_law_977 : decode cL_law 977 = .ok (.aload_n 1, 1) := by decide +kernel
theorem dL_law_978 : decode cL_law 978 = .ok (.aload_n 0, 1) := by decide +kernel
theorem dL_law_979 : decode cL_law 979 = .ok (.iload_n 3, 1) := by decide +kernel
theorem dL_law_980 : decode cL_law 980 = .ok (.iconst 1, 1) := by decide +kernel
theorem dL_law_981 : decode cL_law 981 = .ok (.iadd, 1) := by decide +kernel
theorem dL_law_982 : decode cL_law 982 = .ok (.iaload, 1) := by decide +kernel
theorem dL_law_983 : decode cL_law 983 = .ok (.aload_n 0, 1) := by decide +kernel
theorem dL_law_984 : decode cL_law 984 = .ok (.iload_n 3, 1) := by decide +kernel
theorem dL_law_985 : decode cL_law 985 = .ok (.iconst 2, 1) := by decide +kernel
theorem dL_law_986 : decode cL_law 986 = .ok (.iadd, 1) := by decide +kernel
theorem dL_law_987 : decode cL_law 987 = .ok (.iaload, 1) := by decide +kernel
theorem dL_law_988 : decode cL_law 988 = .ok (.aload_n 0, 1) := by decide +kernel
theorem dL_law_989 : decode cL_law 989 = .ok (.iload_n 3, 1) := by decide +kernel
theorem dL_law_990 : decode cL_law 990 = .ok (.iconst 3, 1) := by decide +kernel
theorem dL_law_991 : decode cL_law 991 = .ok (.iadd, 1) := by decide +kernel
theorem dL_law_992 : decode cL_law 992 = .ok (.iaload, 1) := by decide +kernel
theorem dL_law_993 : decode cL_law 993 = .ok (.invokevirtual 111, 3) := by decide +kernel
theorem dL_law_996 : decode cL_law 996 = .ok (.aload_n 2, 1) := by decide +kernel
theorem dL_law_997 : decode cL_law 997 = .ok (.aload_n 0, 1) := by decide +kernel
theorem dL_law_998 : decode cL_law 998 = .ok (.iload_n 3, 1) := by decide +kernel
theorem dL_law_999 : decode cL_law 999 = .ok (.iconst 1, 1) := by decide +kernel
theorem dL_law_1000 : decode cL_law 1000 = .ok (.iadd, 1) := by decide +kernel
theorem dL_law_1001 : decode cL_law 1001 = .ok (.iaload, 1) := by decide +kernel
theorem dL_law_1002 : decode cL_law 1002 = .ok (.aload_n 0, 1) := by decide +kernel
theorem dL_law_1003 : decode cL_law 1003 = .ok (.iload_n 3, 1) := by decide +kernel
theorem dL_law_1004 : decode cL_law 1004 = .ok (.iconst 2, 1) := by decide +kernel
theorem dL_law_1005 : decode cL_law 1005 = .ok (.iadd, 1) := by decide +kernel
theorem dL_law_1006 : decode cL_law 1006 = .ok (.iaload, 1) := by decide +kernel
theorem dL_law_1007 : decode cL_law 1007 = .ok (.aload_n 0, 1) := by decide +kernel
theorem dL_law_1008 : decode cL_law 1008 = .ok (.iload_n 3, 1) := by decide +kernel
theorem dL_law_1009 : decode cL_law 1009 = .ok (.iconst 3, 1) := by decide +kernel
theorem dL_law_1010 : decode cL_law 1010 = .ok (.iadd, 1) := by decide +kernel
theorem dL_law_1011 : decode cL_law 1011 = .ok (.iaload, 1) := by decide +kernel
theorem dL_law_1012 : decode cL_law 1012 = .ok (.invokevirtual 114, 3) := by decide +kernel
theorem dL_law_1015 : decode cL_law 1015 = .ok (.if_icmp .eq 319, 3) := by decide +kernel
theorem dL_law_1018 : decode cL_law 1018 = .ok (.iconst 0, 1) := by decide +kernel
theorem dL_law_1019 : decode cL_law 1019 = .ok (.ireturn, 1) := by decide +kernel
theorem dL_law_1020 : decode cL_law 1020 = .ok (.aload_n 1, 1) := by decide +kernel
theorem dL_law_1021 : decode cL_law 1021 = .ok (.aload_n 0, 1) := by decide +kernel
theorem dL_law_1022 : decode cL_law 1022 = .ok (.iload_n 3, 1) := by decide +kernel
theorem dL_law_1023 : decode cL_law 1023 = .ok (.iconst 1, 1) := by decide +kernel
theorem dL_law_1024 : decode cL_law 1024 = .ok (.iadd, 1) := by decide +kernel
theorem dL_law_1025 : decode cL_law 1025 = .ok (.iaload, 1) := by decide +kernel
theorem dL_law_1026 : decode cL_law 1026 = .ok (.aload_n 0, 1) := by decide +kernel
theorem dL_law_1027 : decode cL_law 1027 = .ok (.iload_n 3, 1) := by decide +kernel
theorem dL_law_1028 : decode cL_law 1028 = .ok (.iconst 2, 1) := by decide +kernel
theorem dL_law_1029 : decode cL_law 1029 = .ok (.iadd, 1) := by decide +kernel
theorem dL_law_1030 : decode cL_law 1030 = .ok (.iaload, 1) := by decide +kernel
theorem dL_law_1031 : decode cL_law 1031 = .ok (.invokevirtual 115, 3) := by decide +kernel
theorem dL_law_1034 : decode cL_law 1034 = .ok (.aload_n 2, 1) := by decide +kernel
theorem dL_law_1035 : decode cL_law 1035 = .ok (.aload_n 0, 1) := by decide +kernel
theorem dL_law_1036 : decode cL_law 1036 = .ok (.iload_n 3, 1) := by decide +kernel
theorem dL_law_1037 : decode cL_law 1037 = .ok (.iconst 1, 1) := by decide +kernel
theorem dL_law_1038 : decode cL_law 1038 = .ok (.iadd, 1) := by decide +kernel
theorem dL_law_1039 : decode cL_law 1039 = .ok (.iaload, 1) := by decide +kernel
theorem dL_law_1040 : decode cL_law 1040 = .ok (.aload_n 0, 1) := by decide +kernel
theorem dL_law_1041 : decode cL_law 1041 = .ok (.iload_n 3, 1) := by decide +kernel
theorem dL_law_1042 : decode cL_law 1042 = .ok (.iconst 2, 1) := by decide +kernel
theorem dL_law_1043 : decode cL_law 1043 = .ok (.iadd, 1) := by decide +kernel
theorem dL_law_1044 : decode cL_law 1044 = .ok (.iaload, 1) := by decide +kernel
theorem dL_law_1045 : decode cL_law 1045 = .ok (.invokevirtual 118, 3) := by decide +kernel
theorem dL_law_1048 : decode cL_law 1048 = .ok (.if_icmp .eq 286, 3) := by decide +kernel
theorem dL_law_1051 : decode cL_law 1051 = .ok (.iconst 0, 1) := by decide +kernel
theorem dL_law_1052 : decode cL_law 1052 = .ok (.ireturn, 1) := by decide +kernel
theorem dL_law_1053 : decode cL_law 1053 = .ok (.aload_n 1, 1) := by decide +kernel
theorem dL_law_1054 : decode cL_law 1054 = .ok (.invokevirtual 119, 3) := by decide +kernel
theorem dL_law_1057 : decode cL_law 1057 = .ok (.aload_n 2, 1) := by decide +kernel
theorem dL_law_1058 : decode cL_law 1058 = .ok (.invokevirtual 122, 3) := by decide +kernel
theorem dL_law_1061 : decode cL_law 1061 = .ok (.if_icmp .eq 273, 3) := by decide +kernel
theorem dL_law_1064 : decode cL_law 1064 = .ok (.iconst 0, 1) := by decide +kernel
theorem dL_law_1065 : decode cL_law 1065 = .ok (.ireturn, 1) := by decide +kernel
theorem dL_law_1066 : decode cL_law 1066 = .ok (.aload_n 1, 1) := by decide +kernel
theorem dL_law_1067 : decode cL_law 1067 = .ok (.aload_n 0, 1) := by decide +kernel
theorem dL_law_1068 : decode cL_law 1068 = .ok (.iload_n 3, 1) := by decide +kernel
theorem dL_law_1069 : decode cL_law 1069 = .ok (.iconst 1, 1) := by decide +kernel
theorem dL_law_1070 : decode cL_law 1070 = .ok (.iadd, 1) := by decide +kernel
theorem dL_law_1071 : decode cL_law 1071 = .ok (.iaload, 1) := by decide +kernel
theorem dL_law_1072 : decode cL_law 1072 = .ok (.invokevirtual 123, 3) := by decide +kernel
theorem dL_law_1075 : decode cL_law 1075 = .ok (.aload_n 2, 1) := by decide +kernel
theorem dL_law_1076 : decode cL_law 1076 = .ok (.aload_n 0, 1) := by decide +kernel
theorem dL_law_1077 : decode cL_law 1077 = .ok (.iload_n 3, 1) := by decide +kernel
theorem dL_law_1078 : decode cL_law 1078 = .ok (.iconst 1, 1) := by decide +kernel
theorem dL_law_1079 : decode cL_law 1079 = .ok (.iadd, 1) := by decide +kernel
theorem dL_law_1080 : decode cL_law 1080 = .ok (.iaload, 1) := by decide +kernel
theorem dL_law_1081 : decode cL_law 1081 = .ok (.invokevirtual 126, 3) := by decide +kernel
theorem dL_law_1084 : decode cL_law 1084 = .ok (.if_icmp .eq 250, 3) := by decide +kernel
theorem dL_law_1087 : decode cL_law 1087 = .ok (.iconst 0, 1) := by decide +kernel
theorem dL_law_1088 : decode cL_law 1088 = .ok (.ireturn, 1) := by decide +kernel
theorem dL_law_1089 : decode cL_law 1089 = .ok (.aload_n 1, 1) := by decide +kernel
theorem dL_law_1090 : decode cL_law 1090 = .ok (.aload_n 0, 1) := by decide +kernel
theorem dL_law_1091 : decode cL_law 1091 = .ok (.iload_n 3, 1) := by decide +kernel
theorem dL_law_1092 : decode cL_law 1092 = .ok (.iconst 1, 1) := by decide +kernel
theorem dL_law_1093 : decode cL_law 1093 = .ok (.iadd, 1) := by decide +kernel
theorem dL_law_1094 : decode cL_law 1094 = .ok (.iaload, 1) := by decide +kernel
theorem dL_law_1095 : decode cL_law 1095 = .ok (.aload_n 0, 1) := by decide +kernel
theorem dL_law_1096 : decode cL_law 1096 = .ok (.iload_n 3, 1) := by decide +kernel
theorem dL_law_1097 : decode cL_law 1097 = .ok (.iconst 2, 1) := by decide +kernel
theorem dL_law_1098 : decode cL_law 1098 = .ok (.iadd, 1) := by decide +kernel
theorem dL_law_1099 : decode cL_law 1099 = .ok (.iaload, 1) := by decide +kernel
theorem dL_law_1100 : decode cL_law 1100 = .ok (.invokevirtual 127, 3) := by decide +kernel
theorem dL_law_1103 : decode cL_law 1103 = .ok (.aload_n 2, 1) := by decide +kernel
theorem dL_law_1104 : decode cL_law 1104 = .ok (.aload_n 0, 1) := by decide +kernel
theorem dL_law_1105 : decode cL_law 1105 = .ok (.iload_n 3, 1) := by decide +kernel
theorem dL_law_1106 : decode cL_law 1106 = .ok (.iconst 1, 1) := by decide +kernel
theorem dL_law_1107 : decode cL_law 1107 = .ok (.iadd, 1) := by decide +kernel
theorem dL_law_1108 : decode cL_law 1108 = .ok (.iaload, 1) := by decide +kernel
theorem dL_law_1109 : decode cL_law 1109 = .ok (.aload_n 0, 1) := by decide +kernel
theorem dL_law_1110 : decode cL_law 1110 = .ok (.iload_n 3, 1) := by decide +kernel
theorem dL_law_1111 : decode cL_law 1111 = .ok (.iconst 2, 1) := by decide +kernel
theorem dL_law_1112 : decode cL_law 1112 = .ok (.iadd, 1) := by decide +kernel
theorem dL_law_1113 : decode cL_law 1113 = .ok (.iaload, 1) := by decide +kernel
theorem dL_law_1114 : decode cL_law 1114 = .ok (.invokevirtual 130, 3) := by decide +kernel
theorem dL_law_1117 : decode cL_law 1117 = .ok (.if_icmp .eq 217, 3) := by decide +kernel
theorem dL_law_1120 : decode cL_law 1120 = .ok (.iconst 0, 1) := by decide +kernel
theorem dL_law_1121 : decode cL_law 1121 = .ok (.ireturn, 1) := by decide +kernel
theorem dL_law_1122 : decode cL_law 1122 = .ok (.aload_n 1, 1) := by decide +kernel
theorem dL_law_1123 : decode cL_law 1123 = .ok (.aload_n 0, 1) := by decide +kernel
theorem dL_law_1124 : decode cL_law 1124 = .ok (.iload_n 3, 1) := by decide +kernel
theorem dL_law_1125 : decode cL_law 1125 = .ok (.iconst 1, 1) := by decide +kernel
theorem dL_law_1126 : decode cL_law 1126 = .ok (.iadd, 1) := by decide +kernel
theorem dL_law_1127 : decode cL_law 1127 = .ok (.iaload, 1) := by decide +kernel
theorem dL_law_1128 : decode cL_law 1128 = .ok (.invokevirtual 131, 3) := by decide +kernel
theorem dL_law_1131 : decode cL_law 1131 = .ok (.aload_n 2, 1) := by decide +kernel
theorem dL_law_1132 : decode cL_law 1132 = .ok (.aload_n 0, 1) := by decide +kernel
theorem dL_law_1133 : decode cL_law 1133 = .ok (.iload_n 3, 1) := by decide +kernel
theorem dL_law_1134 : decode cL_law 1134 = .ok (.iconst 1, 1) := by decide +kernel
theorem dL_law_1135 : decode cL_law 1135 = .ok (.iadd, 1) := by decide +kernel
theorem dL_law_1136 : decode cL_law 1136 = .ok (.iaload, 1) := by decide +kernel
theorem dL_law_1137 : decode cL_law 1137 = .ok (.invokevirtual 134, 3) := by decide +kernel
theorem dL_law_1140 : decode cL_law 1140 = .ok (.if_icmp .eq 194, 3) := by decide +kernel
theorem dL_law_1143 : decode cL_law 1143 = .ok (.iconst 0, 1) := by decide +kernel
theorem dL_law_1144 : decode cL_law 1144 = .ok (.ireturn, 1) := by decide +kernel
theorem dL_law_1145 : decode cL_law 1145 = .ok (.aload_n 1, 1) := by decide +kernel
theorem dL_law_1146 : decode cL_law 1146 = .ok (.aload_n 0, 1) := by decide +kernel
theorem dL_law_1147 : decode cL_law 1147 = .ok (.iload_n 3, 1) := by decide +kernel
theorem dL_law_1148 : decode cL_law 1148 = .ok (.iconst 1, 1) := by decide +kernel
theorem dL_law_1149 : decode cL_law 1149 = .ok (.iadd, 1) := by decide +kernel
theorem dL_law_1150 : decode cL_law 1150 = .ok (.iaload, 1) := by decide +kernel
theorem dL_law_1151 : decode cL_law 1151 = .ok (.aload_n 0, 1) := by decide +kernel
theorem dL_law_1152 : decode cL_law 1152 = .ok (.iload_n 3, 1) := by decide +kernel
theorem dL_law_1153 : decode cL_law 1153 = .ok (.iconst 2, 1) := by decide +kernel
theorem dL_law_1154 : decode cL_law 1154 = .ok (.iadd, 1) := by decide +kernel
theorem dL_law_1155 : decode cL_law 1155 = .ok (.iaload, 1) := by decide +kernel
theorem dL_law_1156 : decode cL_law 1156 = .ok (.invokevirtual 135, 3) := by decide +kernel
theorem dL_law_1159 : decode cL_law 1159 = .ok (.aload_n 2, 1) := by decide +kernel
theorem dL_law_1160 : decode cL_law 1160 = .ok (.aload_n 0, 1) := by decide +kernel
theorem dL_law_1161 : decode cL_law 1161 = .ok (.iload_n 3, 1) := by decide +kernel
theorem dL_law_1162 : decode cL_law 1162 = .ok (.iconst 1, 1) := by decide +kernel
theorem dL_law_1163 : decode cL_law 1163 = .ok (.iadd, 1) := by decide +kernel
theorem dL_law_1164 : decode cL_law 1164 = .ok (.iaload, 1) := by decide +kernel
theorem dL_law_1165 : decode cL_law 1165 = .ok (.aload_n 0, 1) := by decide +kernel
theorem dL_law_1166 : decode cL_law 1166 = .ok (.iload_n 3, 1) := by decide +kernel
theorem dL_law_1167 : decode cL_law 1167 = .ok (.iconst 2, 1) := by decide +kernel
theorem dL_law_1168 : decode cL_law 1168 = .ok (.iadd, 1) := by decide +kernel
theorem dL_law_1169 : decode cL_law 1169 = .ok (.iaload, 1) := by decide +kernel
theorem dL_law_1170 : decode cL_law 1170 = .ok (.invokevirtual 138, 3) := by decide +kernel
theorem dL_law_1173 : decode cL_law 1173 = .ok (.if_icmp .eq 161, 3) := by decide +kernel
theorem dL_law_1176 : decode cL_law 1176 = .ok (.iconst 0, 1) := by decide +kernel
theorem dL_law_1177 : decode cL_law 1177 = .ok (.ireturn, 1) := by decide +kernel
theorem dL_law_1178 : decode cL_law 1178 = .ok (.aload_n 1, 1) := by decide +kernel
theorem dL_law_1179 : decode cL_law 1179 = .ok (.aload_n 0, 1) := by decide +kernel
theorem dL_law_1180 : decode cL_law 1180 = .ok (.iload_n 3, 1) := by decide +kernel
theorem dL_law_1181 : decode cL_law 1181 = .ok (.iconst 1, 1) := by decide +kernel
theorem dL_law_1182 : decode cL_law 1182 = .ok (.iadd, 1) := by decide +kernel
theorem dL_law_1183 : decode cL_law 1183 = .ok (.iaload, 1) := by decide +kernel
theorem dL_law_1184 : decode cL_law 1184 = .ok (.aload_n 0, 1) := by decide +kernel
theorem dL_law_1185 : decode cL_law 1185 = .ok (.iload_n 3, 1) := by decide +kernel
theorem dL_law_1186 : decode cL_law 1186 = .ok (.iconst 2, 1) := by decide +kernel
theorem dL_law_1187 : decode cL_law 1187 = .ok (.iadd, 1) := by decide +kernel
theorem dL_law_1188 : decode cL_law 1188 = .ok (.iaload, 1) := by decide +kernel
theorem dL_law_1189 : decode cL_law 1189 = .ok (.aload_n 0, 1) := by decide +kernel
theorem dL_law_1190 : decode cL_law 1190 = .ok (.iload_n 3, 1) := by decide +kernel
theorem dL_law_1191 : decode cL_law 1191 = .ok (.iconst 3, 1) := by decide +kernel
theorem dL_law_1192 : decode cL_law 1192 = .ok (.iadd, 1) := by decide +kernel
theorem dL_law_1193 : decode cL_law 1193 = .ok (.iaload, 1) := by decide +kernel
theorem dL_law_1194 : decode cL_law 1194 = .ok (.invokevirtual 139, 3) := by decide +kernel
theorem dL_law_1197 : decode cL_law 1197 = .ok (.aload_n 2, 1) := by decide +kernel
theorem dL_law_1198 : decode cL_law 1198 = .ok (.aload_n 0, 1) := by decide +kernel
theorem dL_law_1199 : decode cL_law 1199 = .ok (.iload_n 3, 1) := by decide +kernel
theorem dL_law_1200 : decode cL_law 1200 = .ok (.iconst 1, 1) := by decide +kernel
theorem dL_law_1201 : decode cL_law 1201 = .ok (.iadd, 1) := by decide +kernel
theorem dL_law_1202 : decode cL_law 1202 = .ok (.iaload, 1) := by decide +kernel
theorem dL_law_1203 : decode cL_law 1203 = .ok (.aload_n 0, 1) := by decide +kernel
theorem dL_law_1204 : decode cL_law 1204 = .ok (.iload_n 3, 1) := by decide +kernel
theorem dL_law_1205 : decode cL_law 1205 = .ok (.iconst 2, 1) := by decide +kernel
theorem dL_law_1206 : decode cL_law 1206 = .ok (.iadd, 1) := by decide +kernel
theorem dL_law_1207 : decode cL_law 1207 = .ok (.iaload, 1) := by decide +kernel
theorem dL_law_1208 : decode cL_law 1208 = .ok (.aload_n 0, 1) := by decide +kernel
theorem dL_law_1209 : decode cL_law 1209 = .ok (.iload_n 3, 1) := by decide +kernel
theorem dL_law_1210 : decode cL_law 1210 = .ok (.iconst 3, 1) := by decide +kernel
theorem dL_law_1211 : decode cL_law 1211 = .ok (.iadd, 1) := by decide +kernel
theorem dL_law_1212 : decode cL_law 1212 = .ok (.iaload, 1) := by decide +kernel
theorem dL_law_1213 : decode cL_law 1213 = .ok (.invokevirtual 143, 3) := by decide +kernel
theorem dL_law_1216 : decode cL_law 1216 = .ok (.lcmp, 1) := by decide +kernel
theorem dL_law_1217 : decode cL_law 1217 = .ok (.ifCond .eq 117, 3) := by decide +kernel
theorem dL_law_1220 : decode cL_law 1220 = .ok (.iconst 0, 1) := by decide +kernel
theorem dL_law_1221 : decode cL_law 1221 = .ok (.ireturn, 1) := by decide +kernel
theorem dL_law_1222 : decode cL_law 1222 = .ok (.aload_n 1, 1) := by decide +kernel
theorem dL_law_1223 : decode cL_law 1223 = .ok (.aload_n 0, 1) := by decide +kernel
theorem dL_law_1224 : decode cL_law 1224 = .ok (.iload_n 3, 1) := by decide +kernel
theorem dL_law_1225 : decode cL_law 1225 = .ok (.iconst 1, 1) := by decide +kernel
theorem dL_law_1226 : decode cL_law 1226 = .ok (.iadd, 1) := by decide +kernel
theorem dL_law_1227 : decode cL_law 1227 = .ok (.iaload, 1) := by decide +kernel
theorem dL_law_1228 : decode cL_law 1228 = .ok (.aload_n 0, 1) := by decide +kernel
theorem dL_law_1229 : decode cL_law 1229 = .ok (.iload_n 3, 1) := by decide +kernel
theorem dL_law_1230 : decode cL_law 1230 = .ok (.iconst 2, 1) := by decide +kernel
theorem dL_law_1231 : decode cL_law 1231 = .ok (.iadd, 1) := by decide +kernel
theorem dL_law_1232 : decode cL_law 1232 = .ok (.iaload, 1) := by decide +kernel
theorem dL_law_1233 : decode cL_law 1233 = .ok (.aload_n 0, 1) := by decide +kernel
theorem dL_law_1234 : decode cL_law 1234 = .ok (.iload_n 3, 1) := by decide +kernel
theorem dL_law_1235 : decode cL_law 1235 = .ok (.iconst 3, 1) := by decide +kernel
theorem dL_law_1236 : decode cL_law 1236 = .ok (.iadd, 1) := by decide +kernel
theorem dL_law_1237 : decode cL_law 1237 = .ok (.iaload, 1) := by decide +kernel
theorem dL_law_1238 : decode cL_law 1238 = .ok (.invokevirtual 144, 3) := by decide +kernel
theorem dL_law_1241 : decode cL_law 1241 = .ok (.aload_n 2, 1) := by decide +kernel
theorem dL_law_1242 : decode cL_law 1242 = .ok (.aload_n 0, 1) := by decide +kernel
theorem dL_law_1243 : decode cL_law 1243 = .ok (.iload_n 3, 1) := by decide +kernel
theorem dL_law_1244 : decode cL_law 1244 = .ok (.iconst 1, 1) := by decide +kernel
theorem dL_law_1245 : decode cL_law 1245 = .ok (.iadd, 1) := by decide +kernel
theorem dL_law_1246 : decode cL_law 1246 = .ok (.iaload, 1) := by decide +kernel
theorem dL_law_1247 : decode cL_law 1247 = .ok (.aload_n 0, 1) := by decide +kernel
theorem dL_law_1248 : decode cL_law 1248 = .ok (.iload_n 3, 1) := by decide +kernel
theorem dL_law_1249 : decode cL_law 1249 = .ok (.iconst 2, 1) := by decide +kernel
theorem dL_law_1250 : decode cL_law 1250 = .ok (.iadd, 1) := by decide +kernel
theorem dL_law_1251 : decode cL_law 1251 = .ok (.iaload, 1) := by decide +kernel
theorem dL_law_1252 : decode cL_law 1252 = .ok (.aload_n 0, 1) := by decide +kernel
theorem dL_law_1253 : decode cL_law 1253 = .ok (.iload_n 3, 1) := by decide +kernel
theorem dL_law_1254 : decode cL_law 1254 = .ok (.iconst 3, 1) := by decide +kernel
theorem dL_law_1255 : decode cL_law 1255 = .ok (.iadd, 1) := by decide +kernel
theorem dL_law_1256 : decode cL_law 1256 = .ok (.iaload, 1) := by decide +kernel
theorem dL_law_1257 : decode cL_law 1257 = .ok (.invokevirtual 147, 3) := by decide +kernel
theorem dL_law_1260 : decode cL_law 1260 = .ok (.if_icmp .eq 74, 3) := by decide +kernel
theorem dL_law_1263 : decode cL_law 1263 = .ok (.iconst 0, 1) := by decide +kernel
theorem dL_law_1264 : decode cL_law 1264 = .ok (.ireturn, 1) := by decide +kernel
theorem dL_law_1265 : decode cL_law 1265 = .ok (.aload_n 1, 1) := by decide +kernel
theorem dL_law_1266 : decode cL_law 1266 = .ok (.aload_n 0, 1) := by decide +kernel
theorem dL_law_1267 : decode cL_law 1267 = .ok (.iload_n 3, 1) := by decide +kernel
theorem dL_law_1268 : decode cL_law 1268 = .ok (.iconst 1, 1) := by decide +kernel
theorem dL_law_1269 : decode cL_law 1269 = .ok (.iadd, 1) := by decide +kernel
theorem dL_law_1270 : decode cL_law 1270 = .ok (.iaload, 1) := by decide +kernel
theorem dL_law_1271 : decode cL_law 1271 = .ok (.invokevirtual 148, 3) := by decide +kernel
theorem dL_law_1274 : decode cL_law 1274 = .ok (.aload_n 2, 1) := by decide +kernel
theorem dL_law_1275 : decode cL_law 1275 = .ok (.aload_n 0, 1) := by decide +kernel
theorem dL_law_1276 : decode cL_law 1276 = .ok (.iload_n 3, 1) := by decide +kernel
theorem dL_law_1277 : decode cL_law 1277 = .ok (.iconst 1, 1) := by decide +kernel
theorem dL_law_1278 : decode cL_law 1278 = .ok (.iadd, 1) := by decide +kernel
theorem dL_law_1279 : decode cL_law 1279 = .ok (.iaload, 1) := by decide +kernel
theorem dL_law_1280 : decode cL_law 1280 = .ok (.invokevirtual 151, 3) := by decide +kernel
theorem dL_law_1283 : decode cL_law 1283 = .ok (.if_icmp .eq 51, 3) := by decide +kernel
theorem dL_law_1286 : decode cL_law 1286 = .ok (.iconst 0, 1) := by decide +kernel
theorem dL_law_1287 : decode cL_law 1287 = .ok (.ireturn, 1) := by decide +kernel
theorem dL_law_1288 : decode cL_law 1288 = .ok (.aload_n 1, 1) := by decide +kernel
theorem dL_law_1289 : decode cL_law 1289 = .ok (.aload_n 0, 1) := by decide +kernel
theorem dL_law_1290 : decode cL_law 1290 = .ok (.iload_n 3, 1) := by decide +kernel
theorem dL_law_1291 : decode cL_law 1291 = .ok (.iconst 1, 1) := by decide +kernel
theorem dL_law_1292 : decode cL_law 1292 = .ok (.iadd, 1) := by decide +kernel
theorem dL_law_1293 : decode cL_law 1293 = .ok (.iaload, 1) := by decide +kernel
theorem dL_law_1294 : decode cL_law 1294 = .ok (.invokevirtual 152, 3) := by decide +kernel
theorem dL_law_1297 : decode cL_law 1297 = .ok (.aload_n 2, 1) := by decide +kernel
theorem dL_law_1298 : decode cL_law 1298 = .ok (.aload_n 0, 1) := by decide +kernel
theorem dL_law_1299 : decode cL_law 1299 = .ok (.iload_n 3, 1) := by decide +kernel
theorem dL_law_1300 : decode cL_law 1300 = .ok (.iconst 1, 1) := by decide +kernel
theorem dL_law_1301 : decode cL_law 1301 = .ok (.iadd, 1) := by decide +kernel
theorem dL_law_1302 : decode cL_law 1302 = .ok (.iaload, 1) := by decide +kernel
theorem dL_law_1303 : decode cL_law 1303 = .ok (.invokevirtual 155, 3) := by decide +kernel
theorem dL_law_1306 : decode cL_law 1306 = .ok (.if_icmp .eq 28, 3) := by decide +kernel
theorem dL_law_1309 : decode cL_law 1309 = .ok (.iconst 0, 1) := by decide +kernel
theorem dL_law_1310 : decode cL_law 1310 = .ok (.ireturn, 1) := by decide +kernel
theorem dL_law_1311 : decode cL_law 1311 = .ok (.aload_n 1, 1) := by decide +kernel
theorem dL_law_1312 : decode cL_law 1312 = .ok (.aload_n 0, 1) := by decide +kernel
theorem dL_law_1313 : decode cL_law 1313 = .ok (.iload_n 3, 1) := by decide +kernel
theorem dL_law_1314 : decode cL_law 1314 = .ok (.iconst 1, 1) := by decide +kernel
theorem dL_law_1315 : decode cL_law 1315 = .ok (.iadd, 1) := by decide +kernel
theorem dL_law_1316 : decode cL_law 1316 = .ok (.iaload, 1) := by decide +kernel
theorem dL_law_1317 : decode cL_law 1317 = .ok (.invokevirtual 156, 3) := by decide +kernel
theorem dL_law_1320 : decode cL_law 1320 = .ok (.aload_n 2, 1) := by decide +kernel
theorem dL_law_1321 : decode cL_law 1321 = .ok (.aload_n 0, 1) := by decide +kernel
theorem dL_law_1322 : decode cL_law 1322 = .ok (.iload_n 3, 1) := by decide +kernel
theorem dL_law_1323 : decode cL_law 1323 = .ok (.iconst 1, 1) := by decide +kernel
theorem dL_law_1324 : decode cL_law 1324 = .ok (.iadd, 1) := by decide +kernel
theorem dL_law_1325 : decode cL_law 1325 = .ok (.iaload, 1) := by decide +kernel
theorem dL_law_1326 : decode cL_law 1326 = .ok (.invokevirtual 159, 3) := by decide +kernel
theorem dL_law_1329 : decode cL_law 1329 = .ok (.if_icmp .eq 5, 3) := by decide +kernel
theorem dL_law_1332 : decode cL_law 1332 = .ok (.iconst 0, 1) := by decide +kernel
theorem dL_law_1333 : decode cL_law 1333 = .ok (.ireturn, 1) := by decide +kernel
theorem dL_law_1334 : decode cL_law 1334 = .ok (.iinc 3 6, 3) := by decide +kernel
theorem dL_law_1337 : decode cL_law 1337 = .ok (.goto (-1319), 3) := by decide +kernel
theorem dL_law_1340 : decode cL_law 1340 = .ok (.iconst 1, 1) := by decide +kernel
theorem dL_law_1341 : decode cL_law 1341 = .ok (.ireturn, 1) := by decide +kernel
