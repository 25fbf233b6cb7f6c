/-! by program: methods as data, that they are right, what their bodies do -/
theorem dX12_readRest_0 : decode cX12_readRest 0 = .ok (.iload_n 2, 1) := by decide +kernel
theorem dX12_readRest_1 : decode cX12_readRest 1 = .ok (.tableswitch 336 1 16 #[79, 130, 194, 336, 311, 255, 336, 336, 336, 263, 304, 263, 304, 194, 336, 271], 79) := by decide +kernel
theorem dX12_readRest_80 : decode cX12_readRest 80 = .ok (.aload_n 0, 1) := by decide +kernel
theorem dX12_readRest_81 : decode cX12_readRest 81 = .ok (.iload_n 1, 1) := by decide +kernel
theorem dX12_readRest_82 : decode cX12_readRest 82 = .ok (.ldc 175, 2) := by decide +kernel
theorem dX12_readRest_84 : decode cX12_readRest 84 = .ok (.invokevirtual 255, 3) := by decide +kernel
theorem dX12_readRest_87 : decode cX12_readRest 87 = .ok (.ifCond .eq 13, 3) := by decide +kernel
theorem dX12_readRest_90 : decode cX12_readRest 90 = .ok (.aload_n 0, 1) := by decide +kernel
theorem dX12_readRest_91 : decode cX12_readRest 91 = .ok (.ldc_w 258, 3) := by decide +kernel
theorem dX12_readRest_94 : decode cX12_readRest 94 = .ok (.invokevirtual 259, 3) := by decide +kernel
theorem dX12_readRest_97 : decode cX12_readRest 97 = .ok (.ifCond .ne 5, 3) := by decide +kernel
theorem dX12_readRest_100 : decode cX12_readRest 100 = .ok (.iconst 0, 1) := by decide +kernel
theorem dX12_readRest_101 : decode cX12_readRest 101 = .ok (.ireturn, 1) := by decide +kernel
theorem dX12_readRest_102 : decode cX12_readRest 102 = .ok (.aload_n 0, 1) := by decide +kernel
theorem dX12_readRest_103 : decode cX12_readRest 103 = .ok (.getfield 27, 3) := by decide +kernel
theorem dX12_readRest_106 : decode cX12_readRest 106 = .ok (.iload_n 1, 1) := by decide +kernel
theorem dX12_readRest_107 : decode cX12_readRest 107 = .ok (.iconst 2, 1) := by decide +kernel
theorem dX12_readRest_108 : decode cX12_readRest 108 = .ok (.iadd, 1) := by decide +kernel
theorem dX12_readRest_109 : decode cX12_readRest 109 = .ok (.aload_n 0, 1) := by decide +kernel
theorem dX12_readRest_110 : decode cX12_readRest 110 = .ok (.invokevirtual 262, 3) := by decide +kernel
theorem dX12_readRest_113 : decode cX12_readRest 113 = .ok (.iastore, 1) := by decide +kernel
theorem dX12_readRest_114 : decode cX12_readRest 114 = .ok (.aload_n 0, 1) := by decide +kernel
theorem dX12_readRest_115 : decode cX12_readRest 115 = .ok (.getfield 27, 3) := by decide +kernel
theorem dX12_readRest_118 : decode cX12_readRest 118 = .ok (.iload_n 1, 1) := by decide +kernel
theorem dX12_readRest_119 : decode cX12_readRest 119 = .ok (.iconst 2, 1) := by decide +kernel
theorem dX12_readRest_120 : decode cX12_readRest 120 = .ok (.iadd, 1) := by decide +kernel
theorem dX12_readRest_121 : decode cX12_readRest 121 = .ok (.iaload, 1) := by decide +kernel
theorem dX12_readRest_122 : decode cX12_readRest 122 = .ok (.ifCond .lt 7, 3) := by decide +kernel
theorem dX12_readRest_125 : decode cX12_readRest 125 = .ok (.iconst 1, 1) := by decide +kernel
theorem dX12_readRest_126 : decode cX12_readRest 126 = .ok (.goto 4, 3) := by decide +kernel
theorem dX12_readRest_129 : decode cX12_readRest 129 = .ok (.iconst 0, 1) := by decide +kernel
theorem dX12_readRest_130 : decode cX12_readRest 130 = .ok (.ireturn, 1) := by decide +kernel
theorem dX12_readRest_131 : decode cX12_readRest 131 = .ok (.aload_n 0, 1) := by decide +kernel
theorem dX12_readRest_132 : decode cX12_readRest 132 = .ok (.getfield 27, 3) := by decide +kernel
theorem dX12_readRest_135 : decode cX12_readRest 135 = .ok (.iload_n 1, 1) := by decide +kernel
theorem dX12_readRest_136 : decode cX12_readRest 136 = .ok (.iconst 2, 1) := by decide +kernel
theorem dX12_readRest_137 : decode cX12_readRest 137 = .ok (.iadd, 1) := by decide +kernel
theorem dX12_readRest_138 : decode cX12_readRest 138 = .ok (.aload_n 0, 1) := by decide +kernel
theorem dX12_readRest_139 : decode cX12_readRest 139 = .ok (.invokevirtual 262, 3) := by decide +kernel
theorem dX12_readRest_142 : decode cX12_readRest 142 = .ok (.iastore, 1) := by decide +kernel
theorem dX12_readRest_143 : decode cX12_readRest 143 = .ok (.aload_n 0, 1) := by decide +kernel
theorem dX12_readRest_144 : decode cX12_readRest 144 = .ok (.getfield 27, 3) := by decide +kernel
theorem dX12_readRest_147 : decode cX12_readRest 147 = .ok (.iload_n 1, 1) := by decide +kernel
theorem dX12_readRest_148 : decode cX12_readRest 148 = .ok (.iconst 2, 1) := by decide +kernel
theorem dX12_readRest_149 : decode cX12_readRest 149 = .ok (.iadd, 1) := by decide +kernel
theorem dX12_readRest_150 : decode cX12_readRest 150 = .ok (.iaload, 1) := by decide +kernel
theorem dX12_readRest_151 : decode cX12_readRest 151 = .ok (.ifCond .lt 13, 3) := by decide +kernel
theorem dX12_readRest_154 : decode cX12_readRest 154 = .ok (.aload_n 0, 1) := by decide +kernel
theorem dX12_readRest_155 : decode cX12_readRest 155 = .ok (.ldc_w 265, 3) := by decide +kernel
theorem dX12_readRest_158 : decode cX12_readRest 158 = .ok (.invokevirtual 259, 3) := by decide +kernel
theorem dX12_readRest_161 : decode cX12_readRest 161 = .ok (.ifCond .ne 5, 3) := by decide +kernel
theorem dX12_readRest_164 : decode cX12_readRest 164 = .ok (.iconst 0, 1) := by decide +kernel
theorem dX12_readRest_165 : decode cX12_readRest 165 = .ok (.ireturn, 1) := by decide +kernel
theorem dX12_readRest_166 : decode cX12_readRest 166 = .ok (.aload_n 0, 1) := by decide +kernel
theorem dX12_readRest_167 : decode cX12_readRest 167 = .ok (.getfield 27, 3) := by decide +kernel
theorem dX12_readRest_170 : decode cX12_readRest 170 = .ok (.iload_n 1, 1) := by decide +kernel
theorem dX12_readRest_171 : decode cX12_readRest 171 = .ok (.iconst 3, 1) := by decide +kernel
theorem dX12_readRest_172 : decode cX12_readRest 172 = .ok (.iadd, 1) := by decide +kernel
theorem dX12_readRest_173 : decode cX12_readRest 173 = .ok (.aload_n 0, 1) := by decide +kernel
theorem dX12_readRest_174 : decode cX12_readRest 174 = .ok (.invokevirtual 262, 3) := by decide +kernel
theorem dX12_readRest_177 : decode cX12_readRest 177 = .ok (.iastore, 1) := by decide +kernel
theorem dX12_readRest_178 : decode cX12_readRest 178 = .ok (.aload_n 0, 1) := by decide +kernel
theorem dX12_readRest_179 : decode cX12_readRest 179 = .ok (.getfield 27, 3) := by decide +kernel
theorem dX12_readRest_182 : decode cX12_readRest 182 = .ok (.iload_n 1, 1) := by decide +kernel
theorem dX12_readRest_183 : decode cX12_readRest 183 = .ok (.iconst 3, 1) := by decide +kernel
theorem dX12_readRest_184 : decode cX12_readRest 184 = .ok (.iadd, 1) := by decide +kernel
theorem dX12_readRest_185 : decode cX12_readRest 185 = .ok (.iaload, 1) := by decide +kernel
theorem dX12_readRest_186 : decode cX12_readRest 186 = .ok (.ifCond .lt 7, 3) := by decide +kernel
theorem dX12_readRest_189 : decode cX12_readRest 189 = .ok (.iconst 1, 1) := by decide +kernel
theorem dX12_readRest_190 : decode cX12_readRest 190 = .ok (.goto 4, 3) := by decide +kernel
theorem dX12_readRest_193 : decode cX12_readRest 193 = .ok (.iconst 0, 1) := by decide +kernel
theorem dX12_readRest_194 : decode cX12_readRest 194 = .ok (.ireturn, 1) := by decide +kernel
theorem dX12_readRest_195 : decode cX12_readRest 195 = .ok (.aload_n 0, 1) := by decide +kernel
theorem dX12_readRest_196 : decode cX12_readRest 196 = .ok (.getfield 27, 3) := by decide +kernel
theorem dX12_readRest_199 : decode cX12_readRest 199 = .ok (.iload_n 1, 1) := by decide +kernel
theorem dX12_readRest_200 : decode cX12_readRest 200 = .ok (.iconst 2, 1) := by decide +kernel
theorem dX12_readRest_201 : decode cX12_readRest 201 = .ok (.iadd, 1) := by decide +kernel
theorem dX12_readRest_202 : decode cX12_readRest 202 = .ok (.aload_n 0, 1) := by decide +kernel
theorem dX12_readRest_203 : decode cX12_readRest 203 = .ok (.iload_n 2, 1) := by decide +kernel
theorem dX12_readRest_204 : decode cX12_readRest 204 = .ok (.bipush 14, 2) := by decide +kernel
theorem dX12_readRest_206 : decode cX12_readRest 206 = .ok (.if_icmp .ne 7, 3) := by decide +kernel
theorem dX12_readRest_209 : decode cX12_readRest 209 = .ok (.iconst 1, 1) := by decide +kernel
theorem dX12_readRest_210 : decode cX12_readRest 210 = .ok (.goto 4, 3) := by decide +kernel
theorem dX12_readRest_213 : decode cX12_readRest 213 = .ok (.iconst 0, 1) := by decide +kernel
theorem dX12_readRest_214 : decode cX12_readRest 214 = .ok (.invokevirtual 267, 3) := by decide +kernel
theorem dX12_readRest_217 : decode cX12_readRest 217 = .ok (.iastore, 1) := by decide +kernel
theorem dX12_readRest_218 : decode cX12_readRest 218 = .ok (.aload_n 0, 1) := by decide +kernel
theorem dX12_readRest_219 : decode cX12_readRest 219 = .ok (.getfield 27, 3) := by decide +kernel
theorem dX12_readRest_222 : decode cX12_readRest 222 = .ok (.iload_n 1, 1) := by decide +kernel
theorem dX12_readRest_223 : decode cX12_readRest 223 = .ok (.iconst 2, 1) := by decide +kernel
theorem dX12_readRest_224 : decode cX12_readRest 224 = .ok (.iadd, 1) := by decide +kernel
theorem dX12_readRest_225 : decode cX12_readRest 225 = .ok (.iaload, 1) := by decide +kernel
theorem dX12_readRest_226 : decode cX12_readRest 226 = .ok (.ifCond .lt 28, 3) := by decide +kernel
theorem dX12_readRest_229 : decode cX12_readRest 229 = .ok (.aload_n 0, 1) := by decide +kernel
theorem dX12_readRest_230 : decode cX12_readRest 230 = .ok (.iload_n 1, 1) := by decide +kernel
theorem dX12_readRest_231 : decode cX12_readRest 231 = .ok (.iload_n 2, 1) := by decide +kernel
theorem dX12_readRest_232 : decode cX12_readRest 232 = .ok (.bipush 14, 2) := by decide +kernel
theorem dX12_readRest_234 : decode cX12_readRest 234 = .ok (.if_icmp .ne 8, 3) := by decide +kernel
theorem dX12_readRest_237 : decode cX12_readRest 237 = .ok (.bipush 100, 2) := by decide +kernel
theorem dX12_readRest_239 : decode cX12_readRest 239 = .ok (.goto 5, 3) := by decide +kernel
theorem dX12_readRest_242 : decode cX12_readRest 242 = .ok (.ldc 175, 2) := by decide +kernel
theorem dX12_readRest_244 : decode cX12_readRest 244 = .ok (.invokevirtual 255, 3) := by decide +kernel
theorem dX12_readRest_247 : decode cX12_readRest 247 = .ok (.ifCond .eq 7, 3) := by decide +kernel
theorem dX12_readRest_250 : decode cX12_readRest 250 = .ok (.iconst 1, 1) := by decide +kernel
theorem dX12_readRest_251 : decode cX12_readRest 251 = .ok (.goto 4, 3) := by decide +kernel
theorem dX12_readRest_254 : decode cX12_readRest 254 = .ok (.iconst 0, 1) := by decide +kernel
theorem dX12_readRest_255 : decode cX12_readRest 255 = .ok (.ireturn, 1) := by decide +kernel
theorem dX12_readRest_256 : decode cX12_readRest 256 = .ok (.aload_n 0, 1) := by decide +kernel
theorem dX12_readRest_257 : decode cX12_readRest 257 = .ok (.iload_n 1, 1) := by decide +kernel
theorem dX12_readRest_258 : decode cX12_readRest 258 = .ok (.bipush 100, 2) := by decide +kernel
theorem dX12_readRest_260 : decode cX12_readRest 260 = .ok (.invokevirtual 255, 3) := by decide +kernel
theorem dX12_readRest_263 : decode cX12_readRest 263 = .ok (.ireturn, 1) := by decide +kernel
theorem dX12_readRest_264 : decode cX12_readRest 264 = .ok (.aload_n 0, 1) := by decide +kernel
theorem dX12_readRest_265 : decode cX12_readRest 265 = .ok (.iload_n 1, 1) := by decide +kernel
theorem dX12_readRest_266 : decode cX12_readRest 266 = .ok (.ldc 175, 2) := by decide +kernel
theorem dX12_readRest_268 : decode cX12_readRest 268 = .ok (.invokevirtual 255, 3) := by decide +kernel
theorem dX12_readRest_271 : decode cX12_readRest 271 = .ok (.ireturn, 1) := by decide +kernel
theorem dX12_readRest_272 : decode cX12_readRest 272 = .ok (.aload_n 0, 1) := by decide +kernel
theorem dX12_readRest_273 : decode cX12_readRest 273 = .ok (.invokevirtual 133, 3) := by decide +kernel
theorem dX12_readRest_276 : decode cX12_readRest 276 = .ok (.aload_n 0, 1) := by decide +kernel
theorem dX12_readRest_277 : decode cX12_readRest 277 = .ok (.getfield 27, 3) := by decide +kernel
theorem dX12_readRest_280 : decode cX12_readRest 280 = .ok (.iload_n 1, 1) := by decide +kernel
theorem dX12_readRest_281 : decode cX12_readRest 281 = .ok (.iconst 2, 1) := by decide +kernel
theorem dX12_readRest_282 : decode cX12_readRest 282 = .ok (.iadd, 1) := by decide +kernel
theorem dX12_readRest_283 : decode cX12_readRest 283 = .ok (.aload_n 0, 1) := by decide +kernel
theorem dX12_readRest_284 : decode cX12_readRest 284 = .ok (.invokevirtual 236, 3) := by decide +kernel
theorem dX12_readRest_287 : decode cX12_readRest 287 = .ok (.iastore, 1) := by decide +kernel
theorem dX12_readRest_288 : decode cX12_readRest 288 = .ok (.aload_n 0, 1) := by decide +kernel
theorem dX12_readRest_289 : decode cX12_readRest 289 = .ok (.getfield 27, 3) := by decide +kernel
theorem dX12_readRest_292 : decode cX12_readRest 292 = .ok (.iload_n 1, 1) := by decide +kernel
theorem dX12_readRest_293 : decode cX12_readRest 293 = .ok (.iconst 2, 1) := by decide +kernel
theorem dX12_readRest_294 : decode cX12_readRest 294 = .ok (.iadd, 1) := by decide +kernel
theorem dX12_readRest_295 : decode cX12_readRest 295 = .ok (.iaload, 1) := by decide +kernel
theorem dX12_readRest_296 : decode cX12_readRest 296 = .ok (.ifCond .lt 7, 3) := by decide +kernel
theorem dX12_readRest_299 : decode cX12_readRest 299 = .ok (.iconst 1, 1) := by decide +kernel
theorem dX12_readRest_300 : decode cX12_readRest 300 = .ok (.goto 4, 3) := by decide +kernel
theorem dX12_readRest_303 : decode cX12_readRest 303 = .ok (.iconst 0, 1) := by decide +kernel
theorem dX12_readRest_304 : decode cX12_readRest 304 = .ok (.ireturn, 1) := by decide +kernel
theorem dX12_readRest_305 : decode cX12_readRest 305 = .ok (.aload_n 0, 1) := by decide +kernel
theorem dX12_readRest_306 : decode cX12_readRest 306 = .ok (.iload_n 1, 1) := by decide +kernel
theorem dX12_readRest_307 : decode cX12_readRest 307 = .ok (.iconst 0, 1) := by decide +kernel
theorem dX12_readRest_308 : decode cX12_readRest 308 = .ok (.invokevirtual 271, 3) := by decide +kernel
theorem dX12_readRest_311 : decode cX12_readRest 311 = .ok (.ireturn, 1) := by decide +kernel
theorem dX12_readRest_312 : decode cX12_readRest 312 = .ok (.aload_n 0, 1) := by decide +kernel
theorem dX12_readRest_313 : decode cX12_readRest 313 = .ok (.iload_n 1, 1) := by decide +kernel
theorem dX12_readRest_314 : decode cX12_readRest 314 = .ok (.bipush 100, 2) := by decide +kernel
theorem dX12_readRest_316 : decode cX12_readRest 316 = .ok (.invokevirtual 255, 3) := by decide +kernel
theorem dX12_readRest_319 : decode cX12_readRest 319 = .ok (.ifCond .eq 16, 3) := by decide +kernel
theorem dX12_readRest_322 : decode cX12_readRest 322 = .ok (.aload_n 0, 1) := by decide +kernel
theorem dX12_readRest_323 : decode cX12_readRest 323 = .ok (.iload_n 1, 1) := by decide +kernel
theorem dX12_readRest_324 : decode cX12_readRest 324 = .ok (.iconst 1, 1) := by decide +kernel
theorem dX12_readRest_325 : decode cX12_readRest 325 = .ok (.invokevirtual 271, 3) := by decide +kernel
theorem dX12_readRest_328 : decode cX12_readRest 328 = .ok (.ifCond .eq 7, 3) := by decide +kernel
theorem dX12_readRest_331 : decode cX12_readRest 331 = .ok (.iconst 1, 1) := by decide +kernel
theorem dX12_readRest_332 : decode cX12_readRest 332 = .ok (.goto 4, 3) := by decide +kernel
theorem dX12_readRest_335 : decode cX12_readRest 335 = .ok (.iconst 0, 1) := by decide +kernel
theorem dX12_readRest_336 : decode cX12_readRest 336 = .ok (.ireturn, 1) := by decide +kernel
theorem dX12_readRest_337 : decode cX12_readRest 337 = .ok (.aload_n 0, 1) := by decide +kernel
theorem dX12_readRest_338 : decode cX12_readRest 338 = .ok (.iload_n 1, 1) := by decide +kernel
theorem dX12_readRest_339 : decode cX12_readRest 339 = .ok (.ldc 175, 2) := by decide +kernel
theorem dX12_readRest_341 : decode cX12_readRest 341 = .ok (.invokevirtual 255, 3) := by decide +kernel
theorem dX12_readRest_344 : decode cX12_readRest 344 = .ok (.ifCond .eq 16, 3) := by decide +kernel
theorem dX12_readRest_347 : decode cX12_readRest 347 = .ok (.aload_n 0, 1) := by decide +kernel
theorem dX12_readRest_348 : decode cX12_readRest 348 = .ok (.iload_n 1, 1) := by decide +kernel
theorem dX12_readRest_349 : decode cX12_readRest 349 = .ok (.iconst 0, 1) := by decide +kernel
theorem dX12_readRest_350 : decode cX12_readRest 350 = .ok (.invokevirtual 271, 3) := by decide +kernel
theorem dX12_readRest_353 : decode cX12_readRest 353 = .ok (.ifCond .eq 7, 3) := by decide +kernel
theorem dX12_readRest_356 : decode cX12_readRest 356 = .ok (.iconst 1, 1) := by decide +kernel
theorem dX12_readRest_357 : decode cX12_readRest 357 = .ok (.goto 4, 3) := by decide +kernel
theorem dX12_readRest_360 : decode cX12_readRest 360 = .ok (.iconst 0, 1) := by decide +kernel
theorem dX12_readRest_361 : decode cX12_readRest 361 = .ok (.ireturn, 1) := by decide +kernel
noncomputable def E_X12_readRest : mE := (mX12_readRest, [(118, [(0, (.iload_n 2, 1, false, false, 2, 0, 0, 0, 0, 0, [])), (1, (.tableswitch 336 1 16 #[79, 130, 194, 336, 311, 255, 336, 336, 336, 263, 304, 263, 304, 194, 336, 271], 0, false, false, 337, 0, 0, 0, 0, 0, [(1, 80), (2, 131), (3, 195), (4, 337), (5, 312), (6, 256), (7, 337), (8, 337), (9, 337), (10, 264), (11, 305), (12, 264), (13, 305), (14, 195), (15, 337), (16, 272)])), (80, (.aload_n 0, 81, false, false, 0, 0, 0, 0, 0, 0, [])), (81, (.iload_n 1, 82, false, false, 1, 0, 0, 0, 0, 0, [])), (82, (.ldc 175, 84, false, false, 0, 0, 0, 0, 999999, 0, [])), (84, (.invokevirtual 255, 87, false, false, 122, 2, 1, 15, 0, 0, [])), (87, (.ifCond .eq 13, 90, false, false, 100, 0, 0, 0, 0, 0, [])), (90, (.aload_n 0, 91, false, false, 0, 0, 0, 0, 0, 0, [])), (91, (.ldc_w 258, 94, false, false, 120, 20, 1, 0, 0, 0, [])), (94, (.invokevirtual 259, 97, false, false, 123, 1, 1, 15, 0, 0, [])), (97, (.ifCond .ne 5, 100, false, false, 102, 0, 0, 0, 0, 0, [])), (100, (.iconst 0, 101, false, false, 0, 0, 0, 0, 0, 0, [])), (101, (.ireturn, 102, false, false, 0, 0, 1, 0, 0, 0, [])), (102, (.aload_n 0, 103, false, false, 0, 0, 0, 0, 0, 0, [])), (103, (.getfield 27, 106, false, false, 15, 1, 1, 0, 0, 0, [])), (106, (.iload_n 1, 107, false, false, 1, 0, 0, 0, 0, 0, [])), (107, (.iconst 2, 108, false, false, 0, 0, 0, 0, 2, 0, [])), (108, (.iadd, 109, false, false, 0, 0, 0, 0, 0, 0, [])), (109, (.aload_n 0, 110, false, false, 0, 0, 0, 0, 0, 0, [])), (110, (.invokevirtual 262, 113, false, false, 124, 0, 1, 15, 0, 0, [])), (113, (.iastore, 114, false, false, 0, 0, 0, 0, 0, 0, [])), (114, (.aload_n 0, 115, false, false, 0, 0, 0, 0, 0, 0, [])), (115, (.getfield 27, 118, false, false, 15, 1, 1, 0, 0, 0, [])), (118, (.iload_n 1, 119, false, false, 1, 0, 0, 0, 0, 0, []))]),
  (154, [(119, (.iconst 2, 120, false, false, 0, 0, 0, 0, 2, 0, [])), (120, (.iadd, 121, false, false, 0, 0, 0, 0, 0, 0, [])), (121, (.iaload, 122, false, false, 0, 0, 0, 0, 0, 0, [])), (122, (.ifCond .lt 7, 125, false, false, 129, 0, 0, 0, 0, 0, [])), (125, (.iconst 1, 126, false, false, 0, 0, 0, 0, 1, 0, [])), (126, (.goto 4, 129, false, false, 130, 0, 0, 0, 0, 0, [])), (129, (.iconst 0, 130, false, false, 0, 0, 0, 0, 0, 0, [])), (130, (.ireturn, 131, false, false, 0, 0, 1, 0, 0, 0, [])), (131, (.aload_n 0, 132, false, false, 0, 0, 0, 0, 0, 0, [])), (132, (.getfield 27, 135, false, false, 15, 1, 1, 0, 0, 0, [])), (135, (.iload_n 1, 136, false, false, 1, 0, 0, 0, 0, 0, [])), (136, (.iconst 2, 137, false, false, 0, 0, 0, 0, 2, 0, [])), (137, (.iadd, 138, false, false, 0, 0, 0, 0, 0, 0, [])), (138, (.aload_n 0, 139, false, false, 0, 0, 0, 0, 0, 0, [])), (139, (.invokevirtual 262, 142, false, false, 124, 0, 1, 15, 0, 0, [])), (142, (.iastore, 143, false, false, 0, 0, 0, 0, 0, 0, [])), (143, (.aload_n 0, 144, false, false, 0, 0, 0, 0, 0, 0, [])), (144, (.getfield 27, 147, false, false, 15, 1, 1, 0, 0, 0, [])), (147, (.iload_n 1, 148, false, false, 1, 0, 0, 0, 0, 0, [])), (148, (.iconst 2, 149, false, false, 0, 0, 0, 0, 2, 0, [])), (149, (.iadd, 150, false, false, 0, 0, 0, 0, 0, 0, [])), (150, (.iaload, 151, false, false, 0, 0, 0, 0, 0, 0, [])), (151, (.ifCond .lt 13, 154, false, false, 164, 0, 0, 0, 0, 0, [])), (154, (.aload_n 0, 155, false, false, 0, 0, 0, 0, 0, 0, []))]),
  (194, [(155, (.ldc_w 265, 158, false, false, 126, 26, 1, 0, 0, 0, [])), (158, (.invokevirtual 259, 161, false, false, 123, 1, 1, 15, 0, 0, [])), (161, (.ifCond .ne 5, 164, false, false, 166, 0, 0, 0, 0, 0, [])), (164, (.iconst 0, 165, false, false, 0, 0, 0, 0, 0, 0, [])), (165, (.ireturn, 166, false, false, 0, 0, 1, 0, 0, 0, [])), (166, (.aload_n 0, 167, false, false, 0, 0, 0, 0, 0, 0, [])), (167, (.getfield 27, 170, false, false, 15, 1, 1, 0, 0, 0, [])), (170, (.iload_n 1, 171, false, false, 1, 0, 0, 0, 0, 0, [])), (171, (.iconst 3, 172, false, false, 0, 0, 0, 0, 3, 0, [])), (172, (.iadd, 173, false, false, 0, 0, 0, 0, 0, 0, [])), (173, (.aload_n 0, 174, false, false, 0, 0, 0, 0, 0, 0, [])), (174, (.invokevirtual 262, 177, false, false, 124, 0, 1, 15, 0, 0, [])), (177, (.iastore, 178, false, false, 0, 0, 0, 0, 0, 0, [])), (178, (.aload_n 0, 179, false, false, 0, 0, 0, 0, 0, 0, [])), (179, (.getfield 27, 182, false, false, 15, 1, 1, 0, 0, 0, [])), (182, (.iload_n 1, 183, false, false, 1, 0, 0, 0, 0, 0, [])), (183, (.iconst 3, 184, false, false, 0, 0, 0, 0, 3, 0, [])), (184, (.iadd, 185, false, false, 0, 0, 0, 0, 0, 0, [])), (185, (.iaload, 186, false, false, 0, 0, 0, 0, 0, 0, [])), (186, (.ifCond .lt 7, 189, false, false, 193, 0, 0, 0, 0, 0, [])), (189, (.iconst 1, 190, false, false, 0, 0, 0, 0, 1, 0, [])), (190, (.goto 4, 193, false, false, 194, 0, 0, 0, 0, 0, [])), (193, (.iconst 0, 194, false, false, 0, 0, 0, 0, 0, 0, [])), (194, (.ireturn, 195, false, false, 0, 0, 1, 0, 0, 0, []))]),
  (231, [(195, (.aload_n 0, 196, false, false, 0, 0, 0, 0, 0, 0, [])), (196, (.getfield 27, 199, false, false, 15, 1, 1, 0, 0, 0, [])), (199, (.iload_n 1, 200, false, false, 1, 0, 0, 0, 0, 0, [])), (200, (.iconst 2, 201, false, false, 0, 0, 0, 0, 2, 0, [])), (201, (.iadd, 202, false, false, 0, 0, 0, 0, 0, 0, [])), (202, (.aload_n 0, 203, false, false, 0, 0, 0, 0, 0, 0, [])), (203, (.iload_n 2, 204, false, false, 2, 0, 0, 0, 0, 0, [])), (204, (.bipush 14, 206, false, false, 0, 0, 0, 0, 14, 0, [])), (206, (.if_icmp .ne 7, 209, false, false, 213, 0, 0, 0, 0, 0, [])), (209, (.iconst 1, 210, false, false, 0, 0, 0, 0, 1, 0, [])), (210, (.goto 4, 213, false, true, 214, 0, 0, 0, 0, 0, [])), (213, (.iconst 0, 214, true, false, 0, 0, 0, 0, 0, 0, [])), (214, (.invokevirtual 267, 217, false, false, 125, 1, 1, 15, 0, 0, [])), (217, (.iastore, 218, false, false, 0, 0, 0, 0, 0, 0, [])), (218, (.aload_n 0, 219, false, false, 0, 0, 0, 0, 0, 0, [])), (219, (.getfield 27, 222, false, false, 15, 1, 1, 0, 0, 0, [])), (222, (.iload_n 1, 223, false, false, 1, 0, 0, 0, 0, 0, [])), (223, (.iconst 2, 224, false, false, 0, 0, 0, 0, 2, 0, [])), (224, (.iadd, 225, false, false, 0, 0, 0, 0, 0, 0, [])), (225, (.iaload, 226, false, false, 0, 0, 0, 0, 0, 0, [])), (226, (.ifCond .lt 28, 229, false, false, 254, 0, 0, 0, 0, 0, [])), (229, (.aload_n 0, 230, false, false, 0, 0, 0, 0, 0, 0, [])), (230, (.iload_n 1, 231, false, false, 1, 0, 0, 0, 0, 0, [])), (231, (.iload_n 2, 232, false, false, 2, 0, 0, 0, 0, 0, []))]),
  (276, [(232, (.bipush 14, 234, false, false, 0, 0, 0, 0, 14, 0, [])), (234, (.if_icmp .ne 8, 237, false, false, 242, 0, 0, 0, 0, 0, [])), (237, (.bipush 100, 239, false, false, 0, 0, 0, 0, 100, 0, [])), (239, (.goto 5, 242, false, false, 244, 0, 0, 0, 0, 0, [])), (242, (.ldc 175, 244, false, false, 0, 0, 0, 0, 999999, 0, [])), (244, (.invokevirtual 255, 247, false, false, 122, 2, 1, 15, 0, 0, [])), (247, (.ifCond .eq 7, 250, false, false, 254, 0, 0, 0, 0, 0, [])), (250, (.iconst 1, 251, false, false, 0, 0, 0, 0, 1, 0, [])), (251, (.goto 4, 254, false, false, 255, 0, 0, 0, 0, 0, [])), (254, (.iconst 0, 255, false, false, 0, 0, 0, 0, 0, 0, [])), (255, (.ireturn, 256, false, false, 0, 0, 1, 0, 0, 0, [])), (256, (.aload_n 0, 257, false, false, 0, 0, 0, 0, 0, 0, [])), (257, (.iload_n 1, 258, false, false, 1, 0, 0, 0, 0, 0, [])), (258, (.bipush 100, 260, false, false, 0, 0, 0, 0, 100, 0, [])), (260, (.invokevirtual 255, 263, false, false, 122, 2, 1, 15, 0, 0, [])), (263, (.ireturn, 264, false, false, 0, 0, 1, 0, 0, 0, [])), (264, (.aload_n 0, 265, false, false, 0, 0, 0, 0, 0, 0, [])), (265, (.iload_n 1, 266, false, false, 1, 0, 0, 0, 0, 0, [])), (266, (.ldc 175, 268, false, false, 0, 0, 0, 0, 999999, 0, [])), (268, (.invokevirtual 255, 271, false, false, 122, 2, 1, 15, 0, 0, [])), (271, (.ireturn, 272, false, false, 0, 0, 1, 0, 0, 0, [])), (272, (.aload_n 0, 273, false, false, 0, 0, 0, 0, 0, 0, [])), (273, (.invokevirtual 133, 276, false, false, 115, 0, 0, 15, 0, 0, [])), (276, (.aload_n 0, 277, false, false, 0, 0, 0, 0, 0, 0, []))]),
  (312, [(277, (.getfield 27, 280, false, false, 15, 1, 1, 0, 0, 0, [])), (280, (.iload_n 1, 281, false, false, 1, 0, 0, 0, 0, 0, [])), (281, (.iconst 2, 282, false, false, 0, 0, 0, 0, 2, 0, [])), (282, (.iadd, 283, false, false, 0, 0, 0, 0, 0, 0, [])), (283, (.aload_n 0, 284, false, false, 0, 0, 0, 0, 0, 0, [])), (284, (.invokevirtual 236, 287, false, false, 119, 0, 1, 15, 0, 0, [])), (287, (.iastore, 288, false, false, 0, 0, 0, 0, 0, 0, [])), (288, (.aload_n 0, 289, false, false, 0, 0, 0, 0, 0, 0, [])), (289, (.getfield 27, 292, false, false, 15, 1, 1, 0, 0, 0, [])), (292, (.iload_n 1, 293, false, false, 1, 0, 0, 0, 0, 0, [])), (293, (.iconst 2, 294, false, false, 0, 0, 0, 0, 2, 0, [])), (294, (.iadd, 295, false, false, 0, 0, 0, 0, 0, 0, [])), (295, (.iaload, 296, false, false, 0, 0, 0, 0, 0, 0, [])), (296, (.ifCond .lt 7, 299, false, false, 303, 0, 0, 0, 0, 0, [])), (299, (.iconst 1, 300, false, false, 0, 0, 0, 0, 1, 0, [])), (300, (.goto 4, 303, false, false, 304, 0, 0, 0, 0, 0, [])), (303, (.iconst 0, 304, false, false, 0, 0, 0, 0, 0, 0, [])), (304, (.ireturn, 305, false, false, 0, 0, 1, 0, 0, 0, [])), (305, (.aload_n 0, 306, false, false, 0, 0, 0, 0, 0, 0, [])), (306, (.iload_n 1, 307, false, false, 1, 0, 0, 0, 0, 0, [])), (307, (.iconst 0, 308, false, false, 0, 0, 0, 0, 0, 0, [])), (308, (.invokevirtual 271, 311, false, false, 135, 2, 1, 15, 0, 0, [])), (311, (.ireturn, 312, false, false, 0, 0, 1, 0, 0, 0, [])), (312, (.aload_n 0, 313, false, false, 0, 0, 0, 0, 0, 0, []))]),
  (356, [(313, (.iload_n 1, 314, false, false, 1, 0, 0, 0, 0, 0, [])), (314, (.bipush 100, 316, false, false, 0, 0, 0, 0, 100, 0, [])), (316, (.invokevirtual 255, 319, false, false, 122, 2, 1, 15, 0, 0, [])), (319, (.ifCond .eq 16, 322, false, false, 335, 0, 0, 0, 0, 0, [])), (322, (.aload_n 0, 323, false, false, 0, 0, 0, 0, 0, 0, [])), (323, (.iload_n 1, 324, false, false, 1, 0, 0, 0, 0, 0, [])), (324, (.iconst 1, 325, false, false, 0, 0, 0, 0, 1, 0, [])), (325, (.invokevirtual 271, 328, false, false, 135, 2, 1, 15, 0, 0, [])), (328, (.ifCond .eq 7, 331, false, false, 335, 0, 0, 0, 0, 0, [])), (331, (.iconst 1, 332, false, false, 0, 0, 0, 0, 1, 0, [])), (332, (.goto 4, 335, false, false, 336, 0, 0, 0, 0, 0, [])), (335, (.iconst 0, 336, false, false, 0, 0, 0, 0, 0, 0, [])), (336, (.ireturn, 337, false, false, 0, 0, 1, 0, 0, 0, [])), (337, (.aload_n 0, 338, false, false, 0, 0, 0, 0, 0, 0, [])), (338, (.iload_n 1, 339, false, false, 1, 0, 0, 0, 0, 0, [])), (339, (.ldc 175, 341, false, false, 0, 0, 0, 0, 999999, 0, [])), (341, (.invokevirtual 255, 344, false, false, 122, 2, 1, 15, 0, 0, [])), (344, (.ifCond .eq 16, 347, false, false, 360, 0, 0, 0, 0, 0, [])), (347, (.aload_n 0, 348, false, false, 0, 0, 0, 0, 0, 0, [])), (348, (.iload_n 1, 349, false, false, 1, 0, 0, 0, 0, 0, [])), (349, (.iconst 0, 350, false, false, 0, 0, 0, 0, 0, 0, [])), (350, (.invokevirtual 271, 353, false, false, 135, 2, 1, 15, 0, 0, [])), (353, (.ifCond .eq 7, 356, false, false, 360, 0, 0, 0, 0, 0, [])), (356, (.iconst 1, 357, false, false, 0, 0, 0, 0, 1, 0, []))]),
  (361, [(357, (.goto 4, 360, false, false, 361, 0, 0, 0, 0, 0, [])), (360, (.iconst 0, 361, false, false, 0, 0, 0, 0, 0, 0, [])), (361, (.ireturn, 362, false, false, 0, 0, 1, 0, 0, 0, []))])], 0, [])
set_option maxRecDepth 100000 in
theorem v_X12_readRest : VE MYT dflT E_X12_readRest := ⟨⟨⟨⟨⟨dX12_readRest_0, rfl⟩, rfl⟩, ⟨⟨_, dX12_readRest_1⟩, ⟨rfl, rfl, rfl, rfl, rfl, rfl, rfl, rfl, rfl, rfl, rfl, rfl, rfl, rfl, rfl, rfl, rfl, rfl, rfl, rfl, rfl, rfl, rfl, rfl, rfl, rfl, rfl, rfl, rfl, rfl, rfl, rfl, rfl, rfl, trivial⟩⟩, ⟨⟨dX12_readRest_80, rfl⟩, rfl⟩, ⟨⟨dX12_readRest_81, rfl⟩, rfl⟩, ⟨⟨dX12_readRest_82, rfl⟩, Or.inl ⟨rfl, kX12_175⟩⟩, ⟨⟨dX12_readRest_84, rfl⟩, Or.inr ⟨by decide, ⟨_, my_122, sX12_255⟩, fun q => absurd q (by decide)⟩⟩, ⟨⟨dX12_readRest_87, rfl⟩, rfl⟩, ⟨⟨dX12_readRest_90, rfl⟩, rfl⟩, ⟨⟨dX12_readRest_91, rfl⟩, Or.inr ⟨rfl, rfl, _, rfl, rfl, rfl⟩⟩, ⟨⟨dX12_readRest_94, rfl⟩, Or.inr ⟨by decide, ⟨_, my_123, sX12_259⟩, fun q => absurd q (by decide)⟩⟩, ⟨⟨dX12_readRest_97, rfl⟩, rfl⟩, ⟨⟨dX12_readRest_100, rfl⟩, rfl⟩, ⟨⟨dX12_readRest_101, rfl⟩, Or.inr (Or.inl ⟨rfl, rfl⟩)⟩, ⟨⟨dX12_readRest_102, rfl⟩, rfl⟩, ⟨⟨dX12_readRest_103, rfl⟩, Or.inl ⟨by decide, _, _, fX12_27⟩⟩, ⟨⟨dX12_readRest_106, rfl⟩, rfl⟩, ⟨⟨dX12_readRest_107, rfl⟩, rfl⟩, ⟨⟨dX12_readRest_108, rfl⟩, trivial⟩, ⟨⟨dX12_readRest_109, rfl⟩, rfl⟩, ⟨⟨dX12_readRest_110, rfl⟩, Or.inr ⟨by decide, ⟨_, my_124, sX12_262⟩, fun q => absurd q (by decide)⟩⟩, ⟨⟨dX12_readRest_113, rfl⟩, trivial⟩, ⟨⟨dX12_readRest_114, rfl⟩, rfl⟩, ⟨⟨dX12_readRest_115, rfl⟩, Or.inl ⟨by decide, _, _, fX12_27⟩⟩, ⟨⟨dX12_readRest_118, rfl⟩, rfl⟩, trivial⟩,
  ⟨⟨⟨dX12_readRest_119, rfl⟩, rfl⟩, ⟨⟨dX12_readRest_120, rfl⟩, trivial⟩, ⟨⟨dX12_readRest_121, rfl⟩, trivial⟩, ⟨⟨dX12_readRest_122, rfl⟩, rfl⟩, ⟨⟨dX12_readRest_125, rfl⟩, rfl⟩, ⟨⟨dX12_readRest_126, rfl⟩, rfl⟩, ⟨⟨dX12_readRest_129, rfl⟩, rfl⟩, ⟨⟨dX12_readRest_130, rfl⟩, Or.inr (Or.inl ⟨rfl, rfl⟩)⟩, ⟨⟨dX12_readRest_131, rfl⟩, rfl⟩, ⟨⟨dX12_readRest_132, rfl⟩, Or.inl ⟨by decide, _, _, fX12_27⟩⟩, ⟨⟨dX12_readRest_135, rfl⟩, rfl⟩, ⟨⟨dX12_readRest_136, rfl⟩, rfl⟩, ⟨⟨dX12_readRest_137, rfl⟩, trivial⟩, ⟨⟨dX12_readRest_138, rfl⟩, rfl⟩, ⟨⟨dX12_readRest_139, rfl⟩, Or.inr ⟨by decide, ⟨_, my_124, sX12_262⟩, fun q => absurd q (by decide)⟩⟩, ⟨⟨dX12_readRest_142, rfl⟩, trivial⟩, ⟨⟨dX12_readRest_143, rfl⟩, rfl⟩, ⟨⟨dX12_readRest_144, rfl⟩, Or.inl ⟨by decide, _, _, fX12_27⟩⟩, ⟨⟨dX12_readRest_147, rfl⟩, rfl⟩, ⟨⟨dX12_readRest_148, rfl⟩, rfl⟩, ⟨⟨dX12_readRest_149, rfl⟩, trivial⟩, ⟨⟨dX12_readRest_150, rfl⟩, trivial⟩, ⟨⟨dX12_readRest_151, rfl⟩, rfl⟩, ⟨⟨dX12_readRest_154, rfl⟩, rfl⟩, trivial⟩,
  ⟨⟨⟨dX12_readRest_155, rfl⟩, Or.inr ⟨rfl, rfl, _, rfl, rfl, rfl⟩⟩, ⟨⟨dX12_readRest_158, rfl⟩, Or.inr ⟨by decide, ⟨_, my_123, sX12_259⟩, fun q => absurd q (by decide)⟩⟩, ⟨⟨dX12_readRest_161, rfl⟩, rfl⟩, ⟨⟨dX12_readRest_164, rfl⟩, rfl⟩, ⟨⟨dX12_readRest_165, rfl⟩, Or.inr (Or.inl ⟨rfl, rfl⟩)⟩, ⟨⟨dX12_readRest_166, rfl⟩, rfl⟩, ⟨⟨dX12_readRest_167, rfl⟩, Or.inl ⟨by decide, _, _, fX12_27⟩⟩, ⟨⟨dX12_readRest_170, rfl⟩, rfl⟩, ⟨⟨dX12_readRest_171, rfl⟩, rfl⟩, ⟨⟨dX12_readRest_172, rfl⟩, trivial⟩, ⟨⟨dX12_readRest_173, rfl⟩, rfl⟩, ⟨⟨dX12_readRest_174, rfl⟩, Or.inr ⟨by decide, ⟨_, my_124, sX12_262⟩, fun q => absurd q (by decide)⟩⟩, ⟨⟨dX12_readRest_177, rfl⟩, trivial⟩, ⟨⟨dX12_readRest_178, rfl⟩, rfl⟩, ⟨⟨dX12_readRest_179, rfl⟩, Or.inl ⟨by decide, _, _, fX12_27⟩⟩, ⟨⟨dX12_readRest_182, rfl⟩, rfl⟩, ⟨⟨dX12_readRest_183, rfl⟩, rfl⟩, ⟨⟨dX12_readRest_184, rfl⟩, trivial⟩, ⟨⟨dX12_readRest_185, rfl⟩, trivial⟩, ⟨⟨dX12_readRest_186, rfl⟩, rfl⟩, ⟨⟨dX12_readRest_189, rfl⟩, rfl⟩, ⟨⟨dX12_readRest_190, rfl⟩, rfl⟩, ⟨⟨dX12_readRest_193, rfl⟩, rfl⟩, ⟨⟨dX12_readRest_194, rfl⟩, Or.inr (Or.inl ⟨rfl, rfl⟩)⟩, trivial⟩,
  ⟨⟨⟨dX12_readRest_195, rfl⟩, rfl⟩, ⟨⟨dX12_readRest_196, rfl⟩, Or.inl ⟨by decide, _, _, fX12_27⟩⟩, ⟨⟨dX12_readRest_199, rfl⟩, rfl⟩, ⟨⟨dX12_readRest_200, rfl⟩, rfl⟩, ⟨⟨dX12_readRest_201, rfl⟩, trivial⟩, ⟨⟨dX12_readRest_202, rfl⟩, rfl⟩, ⟨⟨dX12_readRest_203, rfl⟩, rfl⟩, ⟨⟨dX12_readRest_204, rfl⟩, rfl⟩, ⟨⟨dX12_readRest_206, rfl⟩, rfl⟩, ⟨⟨dX12_readRest_209, rfl⟩, rfl⟩, ⟨⟨dX12_readRest_210, rfl⟩, rfl⟩, ⟨⟨dX12_readRest_213, rfl⟩, rfl⟩, ⟨⟨dX12_readRest_214, rfl⟩, Or.inr ⟨by decide, ⟨_, my_125, sX12_267⟩, fun q => absurd q (by decide)⟩⟩, ⟨⟨dX12_readRest_217, rfl⟩, trivial⟩, ⟨⟨dX12_readRest_218, rfl⟩, rfl⟩, ⟨⟨dX12_readRest_219, rfl⟩, Or.inl ⟨by decide, _, _, fX12_27⟩⟩, ⟨⟨dX12_readRest_222, rfl⟩, rfl⟩, ⟨⟨dX12_readRest_223, rfl⟩, rfl⟩, ⟨⟨dX12_readRest_224, rfl⟩, trivial⟩, ⟨⟨dX12_readRest_225, rfl⟩, trivial⟩, ⟨⟨dX12_readRest_226, rfl⟩, rfl⟩, ⟨⟨dX12_readRest_229, rfl⟩, rfl⟩, ⟨⟨dX12_readRest_230, rfl⟩, rfl⟩, ⟨⟨dX12_readRest_231, rfl⟩, rfl⟩, trivial⟩,
  ⟨⟨⟨dX12_readRest_232, rfl⟩, rfl⟩, ⟨⟨dX12_readRest_234, rfl⟩, rfl⟩, ⟨⟨dX12_readRest_237, rfl⟩, rfl⟩, ⟨⟨dX12_readRest_239, rfl⟩, rfl⟩, ⟨⟨dX12_readRest_242, rfl⟩, Or.inl ⟨rfl, kX12_175⟩⟩, ⟨⟨dX12_readRest_244, rfl⟩, Or.inr ⟨by decide, ⟨_, my_122, sX12_255⟩, fun q => absurd q (by decide)⟩⟩, ⟨⟨dX12_readRest_247, rfl⟩, rfl⟩, ⟨⟨dX12_readRest_250, rfl⟩, rfl⟩, ⟨⟨dX12_readRest_251, rfl⟩, rfl⟩, ⟨⟨dX12_readRest_254, rfl⟩, rfl⟩, ⟨⟨dX12_readRest_255, rfl⟩, Or.inr (Or.inl ⟨rfl, rfl⟩)⟩, ⟨⟨dX12_readRest_256, rfl⟩, rfl⟩, ⟨⟨dX12_readRest_257, rfl⟩, rfl⟩, ⟨⟨dX12_readRest_258, rfl⟩, rfl⟩, ⟨⟨dX12_readRest_260, rfl⟩, Or.inr ⟨by decide, ⟨_, my_122, sX12_255⟩, fun q => absurd q (by decide)⟩⟩, ⟨⟨dX12_readRest_263, rfl⟩, Or.inr (Or.inl ⟨rfl, rfl⟩)⟩, ⟨⟨dX12_readRest_264, rfl⟩, rfl⟩, ⟨⟨dX12_readRest_265, rfl⟩, rfl⟩, ⟨⟨dX12_readRest_266, rfl⟩, Or.inl ⟨rfl, kX12_175⟩⟩, ⟨⟨dX12_readRest_268, rfl⟩, Or.inr ⟨by decide, ⟨_, my_122, sX12_255⟩, fun q => absurd q (by decide)⟩⟩, ⟨⟨dX12_readRest_271, rfl⟩, Or.inr (Or.inl ⟨rfl, rfl⟩)⟩, ⟨⟨dX12_readRest_272, rfl⟩, rfl⟩, ⟨⟨dX12_readRest_273, rfl⟩, Or.inr ⟨by decide, ⟨_, my_115, sX12_133⟩, fun q => absurd q (by decide)⟩⟩, ⟨⟨dX12_readRest_276, rfl⟩, rfl⟩, trivial⟩,
  ⟨⟨⟨dX12_readRest_277, rfl⟩, Or.inl ⟨by decide, _, _, fX12_27⟩⟩, ⟨⟨dX12_readRest_280, rfl⟩, rfl⟩, ⟨⟨dX12_readRest_281, rfl⟩, rfl⟩, ⟨⟨dX12_readRest_282, rfl⟩, trivial⟩, ⟨⟨dX12_readRest_283, rfl⟩, rfl⟩, ⟨⟨dX12_readRest_284, rfl⟩, Or.inr ⟨by decide, ⟨_, my_119, sX12_236⟩, fun q => absurd q (by decide)⟩⟩, ⟨⟨dX12_readRest_287, rfl⟩, trivial⟩, ⟨⟨dX12_readRest_288, rfl⟩, rfl⟩, ⟨⟨dX12_readRest_289, rfl⟩, Or.inl ⟨by decide, _, _, fX12_27⟩⟩, ⟨⟨dX12_readRest_292, rfl⟩, rfl⟩, ⟨⟨dX12_readRest_293, rfl⟩, rfl⟩, ⟨⟨dX12_readRest_294, rfl⟩, trivial⟩, ⟨⟨dX12_readRest_295, rfl⟩, trivial⟩, ⟨⟨dX12_readRest_296, rfl⟩, rfl⟩, ⟨⟨dX12_readRest_299, rfl⟩, rfl⟩, ⟨⟨dX12_readRest_300, rfl⟩, rfl⟩, ⟨⟨dX12_readRest_303, rfl⟩, rfl⟩, ⟨⟨dX12_readRest_304, rfl⟩, Or.inr (Or.inl ⟨rfl, rfl⟩)⟩, ⟨⟨dX12_readRest_305, rfl⟩, rfl⟩, ⟨⟨dX12_readRest_306, rfl⟩, rfl⟩, ⟨⟨dX12_readRest_307, rfl⟩, rfl⟩, ⟨⟨dX12_readRest_308, rfl⟩, Or.inr ⟨by decide, ⟨_, my_135, sX12_271⟩, fun q => absurd q (by decide)⟩⟩, ⟨⟨dX12_readRest_311, rfl⟩, Or.inr (Or.inl ⟨rfl, rfl⟩)⟩, ⟨⟨dX12_readRest_312, rfl⟩, rfl⟩, trivial⟩,
  ⟨⟨⟨dX12_readRest_313, rfl⟩, rfl⟩, ⟨⟨dX12_readRest_314, rfl⟩, rfl⟩, ⟨⟨dX12_readRest_316, rfl⟩, Or.inr ⟨by decide, ⟨_, my_122, sX12_255⟩, fun q => absurd q (by decide)⟩⟩, ⟨⟨dX12_readRest_319, rfl⟩, rfl⟩, ⟨⟨dX12_readRest_322, rfl⟩, rfl⟩, ⟨⟨dX12_readRest_323, rfl⟩, rfl⟩, ⟨⟨dX12_readRest_324, rfl⟩, rfl⟩, ⟨⟨dX12_readRest_325, rfl⟩, Or.inr ⟨by decide, ⟨_, my_135, sX12_271⟩, fun q => absurd q (by decide)⟩⟩, ⟨⟨dX12_readRest_328, rfl⟩, rfl⟩, ⟨⟨dX12_readRest_331, rfl⟩, rfl⟩, ⟨⟨dX12_readRest_332, rfl⟩, rfl⟩, ⟨⟨dX12_readRest_335, rfl⟩, rfl⟩, ⟨⟨dX12_readRest_336, rfl⟩, Or.inr (Or.inl ⟨rfl, rfl⟩)⟩, ⟨⟨dX12_readRest_337, rfl⟩, rfl⟩, ⟨⟨dX12_readRest_338, rfl⟩, rfl⟩, ⟨⟨dX12_readRest_339, rfl⟩, Or.inl ⟨rfl, kX12_175⟩⟩, ⟨⟨dX12_readRest_341, rfl⟩, Or.inr ⟨by decide, ⟨_, my_122, sX12_255⟩, fun q => absurd q (by decide)⟩⟩, ⟨⟨dX12_readRest_344, rfl⟩, rfl⟩, ⟨⟨dX12_readRest_347, rfl⟩, rfl⟩, ⟨⟨dX12_readRest_348, rfl⟩, rfl⟩, ⟨⟨dX12_readRest_349, rfl⟩, rfl⟩, ⟨⟨dX12_readRest_350, rfl⟩, Or.inr ⟨by decide, ⟨_, my_135, sX12_271⟩, fun q => absurd q (by decide)⟩⟩, ⟨⟨dX12_readRest_353, rfl⟩, rfl⟩, ⟨⟨dX12_readRest_356, rfl⟩, rfl⟩, trivial⟩,
  ⟨⟨⟨dX12_readRest_357, rfl⟩, rfl⟩, ⟨⟨dX12_readRest_360, rfl⟩, rfl⟩, ⟨⟨dX12_readRest_361, rfl⟩, Or.inr (Or.inl ⟨rfl, rfl⟩)⟩, trivial⟩, trivial⟩, by decide, Or.inl ⟨rfl, by decide, rfl⟩⟩
set_option maxRecDepth 100000 in
theorem g_X12_readRest_0 (S : sT) (call : cT) (n : Nat) (a0 : Nat) (x1 : Int32) (x2 : Int32) (h : pH) : bd S call dflT E_X12_readRest (n + 1) 0 [some (.ref a0), some (.int x1), some (.int x2)] [] h = ((if x2 = 1 then bd S call dflT E_X12_readRest n 80 [some (.ref a0), some (.int x1), some (.int x2)] [] h else (if x2 = 2 then bd S call dflT E_X12_readRest n 131 [some (.ref a0), some (.int x1), some (.int x2)] [] h else (if x2 = 3 then bd S call dflT E_X12_readRest n 195 [some (.ref a0), some (.int x1), some (.int x2)] [] h else (if x2 = 4 then bd S call dflT E_X12_readRest n 337 [some (.ref a0), some (.int x1), some (.int x2)] [] h else (if x2 = 5 then bd S call dflT E_X12_readRest n 312 [some (.ref a0), some (.int x1), some (.int x2)] [] h else (if x2 = 6 then bd S call dflT E_X12_readRest n 256 [some (.ref a0), some (.int x1), some (.int x2)] [] h else (if x2 = 7 then bd S call dflT E_X12_readRest n 337 [some (.ref a0), some (.int x1), some (.int x2)] [] h else (if x2 = 8 then bd S call dflT E_X12_readRest n 337 [some (.ref a0), some (.int x1), some (.int x2)] [] h else (if x2 = 9 then bd S call dflT E_X12_readRest n 337 [some (.ref a0), some (.int x1), some (.int x2)] [] h else (if x2 = 10 then bd S call dflT E_X12_readRest n 264 [some (.ref a0), some (.int x1), some (.int x2)] [] h else (if x2 = 11 then bd S call dflT E_X12_readRest n 305 [some (.ref a0), some (.int x1), some (.int x2)] [] h else (if x2 = 12 then bd S call dflT E_X12_readRest n 264 [some (.ref a0), some (.int x1), some (.int x2)] [] h else (if x2 = 13 then bd S call dflT E_X12_readRest n 305 [some (.ref a0), some (.int x1), some (.int x2)] [] h else (if x2 = 14 then bd S call dflT E_X12_readRest n 195 [some (.ref a0), some (.int x1), some (.int x2)] [] h else (if x2 = 15 then bd S call dflT E_X12_readRest n 337 [some (.ref a0), some (.int x1), some (.int x2)] [] h else (if x2 = 16 then bd S call dflT E_X12_readRest n 272 [some (.ref a0), some (.int x1), some (.int x2)] [] h else bd S call dflT E_X12_readRest n 337 [some (.ref a0), some (.int x1), some (.int x2)] [] h))))))))))))))))) := rfl
set_option maxRecDepth 100000 in
theorem g_X12_readRest_80 (S : sT) (call : cT) (n : Nat) (a0 : Nat) (x1 : Int32) (x2 : Int32) (h : pH) : bd S call dflT E_X12_readRest (n + 1) 80 [some (.ref a0), some (.int x1), some (.int x2)] [] h = (rC h (.ref a0) 15 (cI (call 122 [.ref a0, .int x1, .int 999999] h) (fun y2 h1 => (if y2 = 0 then zR 0 (some (.inl (some (.int 0)), h1)) else rC h1 (.ref a0) 15 (cI (call 123 [.ref a0, .retAddr 120] h1) (fun y4 h3 => (if y4 = 0 then zR 0 (some (.inl (some (.int 0)), h3)) else gV h3 (.ref a0) 15 1 (fun w5 => rC h3 (.ref a0) 15 (cI (call 124 [.ref a0] h3) (fun y7 h6 => sI h6 w5 0 (x1 + 2) y7 (fun h8 => gV h8 (.ref a0) 15 1 (fun w9 => aI h8 w9 0 (x1 + 2) (fun y10 => (if y10 < 0 then zR 0 (some (.inl (some (.int 0)), h8)) else zR 1 (some (.inl (some (.int 1)), h8)))))))))))))))) := rfl
set_option maxRecDepth 100000 in
theorem g_X12_readRest_131 (S : sT) (call : cT) (n : Nat) (a0 : Nat) (x1 : Int32) (x2 : Int32) (h : pH) : bd S call dflT E_X12_readRest (n + 1) 131 [some (.ref a0), some (.int x1), some (.int x2)] [] h = (gV h (.ref a0) 15 1 (fun w1 => rC h (.ref a0) 15 (cI (call 124 [.ref a0] h) (fun y3 h2 => sI h2 w1 0 (x1 + 2) y3 (fun h4 => gV h4 (.ref a0) 15 1 (fun w5 => aI h4 w5 0 (x1 + 2) (fun y6 => (if y6 < 0 then zR 0 (some (.inl (some (.int 0)), h4)) else rC h4 (.ref a0) 15 (cI (call 123 [.ref a0, .retAddr 126] h4) (fun y8 h7 => (if y8 = 0 then zR 0 (some (.inl (some (.int 0)), h7)) else gV h7 (.ref a0) 15 1 (fun w9 => rC h7 (.ref a0) 15 (cI (call 124 [.ref a0] h7) (fun y11 h10 => sI h10 w9 0 (x1 + 3) y11 (fun h12 => gV h12 (.ref a0) 15 1 (fun w13 => aI h12 w13 0 (x1 + 3) (fun y14 => (if y14 < 0 then zR 0 (some (.inl (some (.int 0)), h12)) else zR 1 (some (.inl (some (.int 1)), h12)))))))))))))))))))) := rfl
set_option maxRecDepth 100000 in
theorem g_X12_readRest_195 (S : sT) (call : cT) (n : Nat) (a0 : Nat) (x1 : Int32) (x2 : Int32) (h : pH) : bd S call dflT E_X12_readRest (n + 1) 195 [some (.ref a0), some (.int x1), some (.int x2)] [] h = (gV h (.ref a0) 15 1 (fun w1 => (if x2 = 14 then bd S call dflT E_X12_readRest n 214 [some (.ref a0), some (.int x1), some (.int x2)] [.int 1, .ref a0, .int (x1 + 2), w1] h else bd S call dflT E_X12_readRest n 214 [some (.ref a0), some (.int x1), some (.int x2)] [.int 0, .ref a0, .int (x1 + 2), w1] h))) := rfl
set_option maxRecDepth 100000 in
theorem g_X12_readRest_214 (S : sT) (call : cT) (n : Nat) (a0 : Nat) (x1 : Int32) (x2 : Int32) (u0 : Value) (y1 : Int32) (u2 : Value) (y3 : Int32) (h : pH) : bd S call dflT E_X12_readRest (n + 1) 214 [some (.ref a0), some (.int x1), some (.int x2)] [.int y3, u2, .int y1, u0] h = (rC h u2 15 (cI (call 125 [u2, .int y3] h) (fun y2 h1 => sI h1 u0 0 y1 y2 (fun h3 => gV h3 (.ref a0) 15 1 (fun w4 => aI h3 w4 0 (x1 + 2) (fun y5 => (if y5 < 0 then zR 0 (some (.inl (some (.int 0)), h3)) else (if x2 = 14 then rC h3 (.ref a0) 15 (cI (call 122 [.ref a0, .int x1, .int 100] h3) (fun y9 h8 => (if y9 = 0 then zR 0 (some (.inl (some (.int 0)), h8)) else zR 1 (some (.inl (some (.int 1)), h8))))) else rC h3 (.ref a0) 15 (cI (call 122 [.ref a0, .int x1, .int 999999] h3) (fun y7 h6 => (if y7 = 0 then zR 0 (some (.inl (some (.int 0)), h6)) else zR 1 (some (.inl (some (.int 1)), h6))))))))))))) := rfl
set_option maxRecDepth 100000 in
theorem g_X12_readRest_256 (S : sT) (call : cT) (n : Nat) (a0 : Nat) (x1 : Int32) (x2 : Int32) (h : pH) : bd S call dflT E_X12_readRest (n + 1) 256 [some (.ref a0), some (.int x1), some (.int x2)] [] h = (rC h (.ref a0) 15 (cI (call 122 [.ref a0, .int x1, .int 100] h) (fun y2 h1 => zR y2 (some (.inl (some (.int y2)), h1))))) := rfl
set_option maxRecDepth 100000 in
theorem g_X12_readRest_264 (S : sT) (call : cT) (n : Nat) (a0 : Nat) (x1 : Int32) (x2 : Int32) (h : pH) : bd S call dflT E_X12_readRest (n + 1) 264 [some (.ref a0), some (.int x1), some (.int x2)] [] h = (rC h (.ref a0) 15 (cI (call 122 [.ref a0, .int x1, .int 999999] h) (fun y2 h1 => zR y2 (some (.inl (some (.int y2)), h1))))) := rfl
set_option maxRecDepth 100000 in
theorem g_X12_readRest_272 (S : sT) (call : cT) (n : Nat) (a0 : Nat) (x1 : Int32) (x2 : Int32) (h : pH) : bd S call dflT E_X12_readRest (n + 1) 272 [some (.ref a0), some (.int x1), some (.int x2)] [] h = (rC h (.ref a0) 15 (cU (call 115 [.ref a0] h) (fun h1 => gV h1 (.ref a0) 15 1 (fun w2 => rC h1 (.ref a0) 15 (cI (call 119 [.ref a0] h1) (fun y4 h3 => sI h3 w2 0 (x1 + 2) y4 (fun h5 => gV h5 (.ref a0) 15 1 (fun w6 => aI h5 w6 0 (x1 + 2) (fun y7 => (if y7 < 0 then zR 0 (some (.inl (some (.int 0)), h5)) else zR 1 (some (.inl (some (.int 1)), h5)))))))))))) := rfl
set_option maxRecDepth 100000 in
theorem g_X12_readRest_305 (S : sT) (call : cT) (n : Nat) (a0 : Nat) (x1 : Int32) (x2 : Int32) (h : pH) : bd S call dflT E_X12_readRest (n + 1) 305 [some (.ref a0), some (.int x1), some (.int x2)] [] h = (rC h (.ref a0) 15 (cI (call 135 [.ref a0, .int x1, .int 0] h) (fun y2 h1 => zR y2 (some (.inl (some (.int y2)), h1))))) := rfl
set_option maxRecDepth 100000 in
theorem g_X12_readRest_312 (S : sT) (call : cT) (n : Nat) (a0 : Nat) (x1 : Int32) (x2 : Int32) (h : pH) : bd S call dflT E_X12_readRest (n + 1) 312 [some (.ref a0), some (.int x1), some (.int x2)] [] h = (rC h (.ref a0) 15 (cI (call 122 [.ref a0, .int x1, .int 100] h) (fun y2 h1 => (if y2 = 0 then zR 0 (some (.inl (some (.int 0)), h1)) else rC h1 (.ref a0) 15 (cI (call 135 [.ref a0, .int x1, .int 1] h1) (fun y4 h3 => (if y4 = 0 then zR 0 (some (.inl (some (.int 0)), h3)) else zR 1 (some (.inl (some (.int 1)), h3))))))))) := rfl
set_option maxRecDepth 100000 in
theorem g_X12_readRest_337 (S : sT) (call : cT) (n : Nat) (a0 : Nat) (x1 : Int32) (x2 : Int32) (h : pH) : bd S call dflT E_X12_readRest (n + 1) 337 [some (.ref a0), some (.int x1), some (.int x2)] [] h = (rC h (.ref a0) 15 (cI (call 122 [.ref a0, .int x1, .int 999999] h) (fun y2 h1 => (if y2 = 0 then zR 0 (some (.inl (some (.int 0)), h1)) else rC h1 (.ref a0) 15 (cI (call 135 [.ref a0, .int x1, .int 0] h1) (fun y4 h3 => (if y4 = 0 then zR 0 (some (.inl (some (.int 0)), h3)) else zR 1 (some (.inl (some (.int 1)), h3))))))))) := rfl
theorem dX12_readLine_0 : decode cX12_readLine 0 = .ok (.aload_n 0, 1) := by decide +kernel
theorem dX12_readLine_1 : decode cX12_readLine 1 = .ok (.invokevirtual 133, 3) := by decide +kernel
theorem dX12_readLine_4 : decode cX12_readLine 4 = .ok (.iload_n 1, 1) := by decide +kernel
theorem dX12_readLine_5 : decode cX12_readLine 5 = .ok (.bipush 16, 2) := by decide +kernel
theorem dX12_readLine_7 : decode cX12_readLine 7 = .ok (.if_icmp .ne 5, 3) := by decide +kernel
theorem dX12_readLine_10 : decode cX12_readLine 10 = .ok (.iconst 0, 1) := by decide +kernel
theorem dX12_readLine_11 : decode cX12_readLine 11 = .ok (.ireturn, 1) := by decide +kernel
theorem dX12_readLine_12 : decode cX12_readLine 12 = .ok (.bipush 36, 2) := by decide +kernel
theorem dX12_readLine_14 : decode cX12_readLine 14 = .ok (.iload_n 1, 1) := by decide +kernel
theorem dX12_readLine_15 : decode cX12_readLine 15 = .ok (.invokestatic 275, 3) := by decide +kernel
theorem dX12_readLine_18 : decode cX12_readLine 18 = .ok (.istore_n 3, 1) := by decide +kernel
theorem dX12_readLine_19 : decode cX12_readLine 19 = .ok (.aload_n 0, 1) := by decide +kernel
theorem dX12_readLine_20 : decode cX12_readLine 20 = .ok (.iload_n 2, 1) := by decide +kernel
theorem dX12_readLine_21 : decode cX12_readLine 21 = .ok (.invokevirtual 278, 3) := by decide +kernel
theorem dX12_readLine_24 : decode cX12_readLine 24 = .ok (.istore 4, 2) := by decide +kernel
theorem dX12_readLine_26 : decode cX12_readLine 26 = .ok (.aload_n 0, 1) := by decide +kernel
theorem dX12_readLine_27 : decode cX12_readLine 27 = .ok (.getfield 27, 3) := by decide +kernel
theorem dX12_readLine_30 : decode cX12_readLine 30 = .ok (.iload_n 3, 1) := by decide +kernel
theorem dX12_readLine_31 : decode cX12_readLine 31 = .ok (.iload 4, 2) := by decide +kernel
theorem dX12_readLine_33 : decode cX12_readLine 33 = .ok (.iastore, 1) := by decide +kernel
theorem dX12_readLine_34 : decode cX12_readLine 34 = .ok (.aload_n 0, 1) := by decide +kernel
theorem dX12_readLine_35 : decode cX12_readLine 35 = .ok (.getfield 27, 3) := by decide +kernel
theorem dX12_readLine_38 : decode cX12_readLine 38 = .ok (.iload_n 3, 1) := by decide +kernel
theorem dX12_readLine_39 : decode cX12_readLine 39 = .ok (.iconst 1, 1) := by decide +kernel
theorem dX12_readLine_40 : decode cX12_readLine 40 = .ok (.iadd, 1) := by decide +kernel
theorem dX12_readLine_41 : decode cX12_readLine 41 = .ok (.iconst 0, 1) := by decide +kernel
theorem dX12_readLine_42 : decode cX12_readLine 42 = .ok (.iastore, 1) := by decide +kernel
theorem dX12_readLine_43 : decode cX12_readLine 43 = .ok (.aload_n 0, 1) := by decide +kernel
theorem dX12_readLine_44 : decode cX12_readLine 44 = .ok (.getfield 27, 3) := by decide +kernel
theorem dX12_readLine_47 : decode cX12_readLine 47 = .ok (.iload_n 3, 1) := by decide +kernel
theorem dX12_readLine_48 : decode cX12_readLine 48 = .ok (.iconst 4, 1) := by decide +kernel
theorem dX12_readLine_49 : decode cX12_readLine 49 = .ok (.iadd, 1) := by decide +kernel
theorem dX12_readLine_50 : decode cX12_readLine 50 = .ok (.aload_n 0, 1) := by decide +kernel
theorem dX12_readLine_51 : decode cX12_readLine 51 = .ok (.getfield 143, 3) := by decide +kernel
theorem dX12_readLine_54 : decode cX12_readLine 54 = .ok (.iastore, 1) := by decide +kernel
theorem dX12_readLine_55 : decode cX12_readLine 55 = .ok (.aload_n 0, 1) := by decide +kernel
theorem dX12_readLine_56 : decode cX12_readLine 56 = .ok (.getfield 27, 3) := by decide +kernel
theorem dX12_readLine_59 : decode cX12_readLine 59 = .ok (.iload_n 3, 1) := by decide +kernel
theorem dX12_readLine_60 : decode cX12_readLine 60 = .ok (.iconst 5, 1) := by decide +kernel
theorem dX12_readLine_61 : decode cX12_readLine 61 = .ok (.iadd, 1) := by decide +kernel
theorem dX12_readLine_62 : decode cX12_readLine 62 = .ok (.aload_n 0, 1) := by decide +kernel
theorem dX12_readLine_63 : decode cX12_readLine 63 = .ok (.getfield 143, 3) := by decide +kernel
theorem dX12_readLine_66 : decode cX12_readLine 66 = .ok (.iastore, 1) := by decide +kernel
theorem dX12_readLine_67 : decode cX12_readLine 67 = .ok (.iload 4, 2) := by decide +kernel
theorem dX12_readLine_69 : decode cX12_readLine 69 = .ok (.ifCond .lt 17, 3) := by decide +kernel
theorem dX12_readLine_72 : decode cX12_readLine 72 = .ok (.aload_n 0, 1) := by decide +kernel
theorem dX12_readLine_73 : decode cX12_readLine 73 = .ok (.iload_n 3, 1) := by decide +kernel
theorem dX12_readLine_74 : decode cX12_readLine 74 = .ok (.iload 4, 2) := by decide +kernel
theorem dX12_readLine_76 : decode cX12_readLine 76 = .ok (.invokevirtual 281, 3) := by decide +kernel
theorem dX12_readLine_79 : decode cX12_readLine 79 = .ok (.ifCond .eq 7, 3) := by decide +kernel
theorem dX12_readLine_82 : decode cX12_readLine 82 = .ok (.iconst 1, 1) := by decide +kernel
theorem dX12_readLine_83 : decode cX12_readLine 83 = .ok (.goto 4, 3) := by decide +kernel
theorem dX12_readLine_86 : decode cX12_readLine 86 = .ok (.iconst 0, 1) := by decide +kernel
theorem dX12_readLine_87 : decode cX12_readLine 87 = .ok (.ireturn, 1) := by decide +kernel
noncomputable def E_X12_readLine : mE := (mX12_readLine, [(39, [(0, (.aload_n 0, 1, false, false, 0, 0, 0, 0, 0, 0, [])), (1, (.invokevirtual 133, 4, false, false, 115, 0, 0, 15, 0, 0, [])), (4, (.iload_n 1, 5, false, false, 1, 0, 0, 0, 0, 0, [])), (5, (.bipush 16, 7, false, false, 0, 0, 0, 0, 16, 0, [])), (7, (.if_icmp .ne 5, 10, false, false, 12, 0, 0, 0, 0, 0, [])), (10, (.iconst 0, 11, false, false, 0, 0, 0, 0, 0, 0, [])), (11, (.ireturn, 12, false, false, 0, 0, 1, 0, 0, 0, [])), (12, (.bipush 36, 14, false, false, 0, 0, 0, 0, 36, 0, [])), (14, (.iload_n 1, 15, false, false, 1, 0, 0, 0, 0, 0, [])), (15, (.invokestatic 275, 18, false, false, 117, 2, 1, 0, 0, 0, [])), (18, (.istore_n 3, 19, false, false, 3, 0, 0, 0, 0, 0, [])), (19, (.aload_n 0, 20, false, false, 0, 0, 0, 0, 0, 0, [])), (20, (.iload_n 2, 21, false, false, 2, 0, 0, 0, 0, 0, [])), (21, (.invokevirtual 278, 24, false, false, 120, 1, 1, 15, 0, 0, [])), (24, (.istore 4, 26, false, false, 4, 0, 0, 0, 0, 0, [])), (26, (.aload_n 0, 27, false, false, 0, 0, 0, 0, 0, 0, [])), (27, (.getfield 27, 30, false, false, 15, 1, 1, 0, 0, 0, [])), (30, (.iload_n 3, 31, false, false, 3, 0, 0, 0, 0, 0, [])), (31, (.iload 4, 33, false, false, 4, 0, 0, 0, 0, 0, [])), (33, (.iastore, 34, false, false, 0, 0, 0, 0, 0, 0, [])), (34, (.aload_n 0, 35, false, false, 0, 0, 0, 0, 0, 0, [])), (35, (.getfield 27, 38, false, false, 15, 1, 1, 0, 0, 0, [])), (38, (.iload_n 3, 39, false, false, 3, 0, 0, 0, 0, 0, [])), (39, (.iconst 1, 40, false, false, 0, 0, 0, 0, 1, 0, []))]),
  (74, [(40, (.iadd, 41, false, false, 0, 0, 0, 0, 0, 0, [])), (41, (.iconst 0, 42, false, false, 0, 0, 0, 0, 0, 0, [])), (42, (.iastore, 43, false, false, 0, 0, 0, 0, 0, 0, [])), (43, (.aload_n 0, 44, false, false, 0, 0, 0, 0, 0, 0, [])), (44, (.getfield 27, 47, false, false, 15, 1, 1, 0, 0, 0, [])), (47, (.iload_n 3, 48, false, false, 3, 0, 0, 0, 0, 0, [])), (48, (.iconst 4, 49, false, false, 0, 0, 0, 0, 4, 0, [])), (49, (.iadd, 50, false, false, 0, 0, 0, 0, 0, 0, [])), (50, (.aload_n 0, 51, false, false, 0, 0, 0, 0, 0, 0, [])), (51, (.getfield 143, 54, false, false, 15, 12, 0, 0, 0, 0, [])), (54, (.iastore, 55, false, false, 0, 0, 0, 0, 0, 0, [])), (55, (.aload_n 0, 56, false, false, 0, 0, 0, 0, 0, 0, [])), (56, (.getfield 27, 59, false, false, 15, 1, 1, 0, 0, 0, [])), (59, (.iload_n 3, 60, false, false, 3, 0, 0, 0, 0, 0, [])), (60, (.iconst 5, 61, false, false, 0, 0, 0, 0, 5, 0, [])), (61, (.iadd, 62, false, false, 0, 0, 0, 0, 0, 0, [])), (62, (.aload_n 0, 63, false, false, 0, 0, 0, 0, 0, 0, [])), (63, (.getfield 143, 66, false, false, 15, 12, 0, 0, 0, 0, [])), (66, (.iastore, 67, false, false, 0, 0, 0, 0, 0, 0, [])), (67, (.iload 4, 69, false, false, 4, 0, 0, 0, 0, 0, [])), (69, (.ifCond .lt 17, 72, false, false, 86, 0, 0, 0, 0, 0, [])), (72, (.aload_n 0, 73, false, false, 0, 0, 0, 0, 0, 0, [])), (73, (.iload_n 3, 74, false, false, 3, 0, 0, 0, 0, 0, [])), (74, (.iload 4, 76, false, false, 4, 0, 0, 0, 0, 0, []))]),
  (87, [(76, (.invokevirtual 281, 79, false, false, 136, 2, 1, 15, 0, 0, [])), (79, (.ifCond .eq 7, 82, false, false, 86, 0, 0, 0, 0, 0, [])), (82, (.iconst 1, 83, false, false, 0, 0, 0, 0, 1, 0, [])), (83, (.goto 4, 86, false, false, 87, 0, 0, 0, 0, 0, [])), (86, (.iconst 0, 87, false, false, 0, 0, 0, 0, 0, 0, [])), (87, (.ireturn, 88, false, false, 0, 0, 1, 0, 0, 0, []))])], 0, [])
set_option maxRecDepth 100000 in
theorem v_X12_readLine : VE MYT dflT E_X12_readLine := ⟨⟨⟨⟨⟨dX12_readLine_0, rfl⟩, rfl⟩, ⟨⟨dX12_readLine_1, rfl⟩, Or.inr ⟨by decide, ⟨_, my_115, sX12_133⟩, fun q => absurd q (by decide)⟩⟩, ⟨⟨dX12_readLine_4, rfl⟩, rfl⟩, ⟨⟨dX12_readLine_5, rfl⟩, rfl⟩, ⟨⟨dX12_readLine_7, rfl⟩, rfl⟩, ⟨⟨dX12_readLine_10, rfl⟩, rfl⟩, ⟨⟨dX12_readLine_11, rfl⟩, Or.inr (Or.inl ⟨rfl, rfl⟩)⟩, ⟨⟨dX12_readLine_12, rfl⟩, rfl⟩, ⟨⟨dX12_readLine_14, rfl⟩, rfl⟩, ⟨⟨dX12_readLine_15, rfl⟩, Or.inl ⟨rfl, _, my_117, sX12_275⟩⟩, ⟨⟨dX12_readLine_18, rfl⟩, rfl⟩, ⟨⟨dX12_readLine_19, rfl⟩, rfl⟩, ⟨⟨dX12_readLine_20, rfl⟩, rfl⟩, ⟨⟨dX12_readLine_21, rfl⟩, Or.inr ⟨by decide, ⟨_, my_120, sX12_278⟩, fun q => absurd q (by decide)⟩⟩, ⟨⟨dX12_readLine_24, rfl⟩, rfl⟩, ⟨⟨dX12_readLine_26, rfl⟩, rfl⟩, ⟨⟨dX12_readLine_27, rfl⟩, Or.inl ⟨by decide, _, _, fX12_27⟩⟩, ⟨⟨dX12_readLine_30, rfl⟩, rfl⟩, ⟨⟨dX12_readLine_31, rfl⟩, rfl⟩, ⟨⟨dX12_readLine_33, rfl⟩, trivial⟩, ⟨⟨dX12_readLine_34, rfl⟩, rfl⟩, ⟨⟨dX12_readLine_35, rfl⟩, Or.inl ⟨by decide, _, _, fX12_27⟩⟩, ⟨⟨dX12_readLine_38, rfl⟩, rfl⟩, ⟨⟨dX12_readLine_39, rfl⟩, rfl⟩, trivial⟩,
  ⟨⟨⟨dX12_readLine_40, rfl⟩, trivial⟩, ⟨⟨dX12_readLine_41, rfl⟩, rfl⟩, ⟨⟨dX12_readLine_42, rfl⟩, trivial⟩, ⟨⟨dX12_readLine_43, rfl⟩, rfl⟩, ⟨⟨dX12_readLine_44, rfl⟩, Or.inl ⟨by decide, _, _, fX12_27⟩⟩, ⟨⟨dX12_readLine_47, rfl⟩, rfl⟩, ⟨⟨dX12_readLine_48, rfl⟩, rfl⟩, ⟨⟨dX12_readLine_49, rfl⟩, trivial⟩, ⟨⟨dX12_readLine_50, rfl⟩, rfl⟩, ⟨⟨dX12_readLine_51, rfl⟩, Or.inl ⟨by decide, _, _, fX12_143⟩⟩, ⟨⟨dX12_readLine_54, rfl⟩, trivial⟩, ⟨⟨dX12_readLine_55, rfl⟩, rfl⟩, ⟨⟨dX12_readLine_56, rfl⟩, Or.inl ⟨by decide, _, _, fX12_27⟩⟩, ⟨⟨dX12_readLine_59, rfl⟩, rfl⟩, ⟨⟨dX12_readLine_60, rfl⟩, rfl⟩, ⟨⟨dX12_readLine_61, rfl⟩, trivial⟩, ⟨⟨dX12_readLine_62, rfl⟩, rfl⟩, ⟨⟨dX12_readLine_63, rfl⟩, Or.inl ⟨by decide, _, _, fX12_143⟩⟩, ⟨⟨dX12_readLine_66, rfl⟩, trivial⟩, ⟨⟨dX12_readLine_67, rfl⟩, rfl⟩, ⟨⟨dX12_readLine_69, rfl⟩, rfl⟩, ⟨⟨dX12_readLine_72, rfl⟩, rfl⟩, ⟨⟨dX12_readLine_73, rfl⟩, rfl⟩, ⟨⟨dX12_readLine_74, rfl⟩, rfl⟩, trivial⟩,
  ⟨⟨⟨dX12_readLine_76, rfl⟩, Or.inr ⟨by decide, ⟨_, my_136, sX12_281⟩, fun q => absurd q (by decide)⟩⟩, ⟨⟨dX12_readLine_79, rfl⟩, rfl⟩, ⟨⟨dX12_readLine_82, rfl⟩, rfl⟩, ⟨⟨dX12_readLine_83, rfl⟩, rfl⟩, ⟨⟨dX12_readLine_86, rfl⟩, rfl⟩, ⟨⟨dX12_readLine_87, rfl⟩, Or.inr (Or.inl ⟨rfl, rfl⟩)⟩, trivial⟩, trivial⟩, by decide, Or.inl ⟨rfl, by decide, rfl⟩⟩
set_option maxRecDepth 100000 in
theorem g_X12_readLine_0 (S : sT) (call : cT) (n : Nat) (a0 : Nat) (x1 : Int32) (x2 : Int32) (h : pH) : bd S call dflT E_X12_readLine (n + 1) 0 [some (.ref a0), some (.int x1), some (.int x2), none, none] [] h = (rC h (.ref a0) 15 (cU (call 115 [.ref a0] h) (fun h1 => (if x1 = 16 then zR 0 (some (.inl (some (.int 0)), h1)) else cI (call 117 [.int 36, .int x1] h1) (fun y3 h2 => rC h2 (.ref a0) 15 (cI (call 120 [.ref a0, .int x2] h2) (fun y5 h4 => gV h4 (.ref a0) 15 1 (fun w6 => sI h4 w6 0 y3 y5 (fun h7 => gV h7 (.ref a0) 15 1 (fun w8 => sI h7 w8 0 (y3 + 1) 0 (fun h9 => gV h9 (.ref a0) 15 1 (fun w10 => gI h9 (.ref a0) 15 12 (fun y11 => sI h9 w10 0 (y3 + 4) y11 (fun h12 => gV h12 (.ref a0) 15 1 (fun w13 => gI h12 (.ref a0) 15 12 (fun y14 => sI h12 w13 0 (y3 + 5) y14 (fun h15 => (if y5 < 0 then zR 0 (some (.inl (some (.int 0)), h15)) else rC h15 (.ref a0) 15 (cI (call 136 [.ref a0, .int y3, .int y5] h15) (fun y17 h16 => (if y17 = 0 then zR 0 (some (.inl (some (.int 0)), h16)) else zR 1 (some (.inl (some (.int 1)), h16))))))))))))))))))))))) := rfl
theorem dX12_readAll_0 : decode cX12_readAll 0 = .ok (.aload_n 0, 1) := by decide +kernel
theorem dX12_readAll_1 : decode cX12_readAll 1 = .ok (.iconst 0, 1) := by decide +kernel
theorem dX12_readAll_2 : decode cX12_readAll 2 = .ok (.putfield 108, 3) := by decide +kernel
theorem dX12_readAll_5 : decode cX12_readAll 5 = .ok (.aload_n 0, 1) := by decide +kernel
theorem dX12_readAll_6 : decode cX12_readAll 6 = .ok (.iconst 0, 1) := by decide +kernel
theorem dX12_readAll_7 : decode cX12_readAll 7 = .ok (.putfield 143, 3) := by decide +kernel
theorem dX12_readAll_10 : decode cX12_readAll 10 = .ok (.aload_n 0, 1) := by decide +kernel
theorem dX12_readAll_11 : decode cX12_readAll 11 = .ok (.invokevirtual 121, 3) := by decide +kernel
theorem dX12_readAll_14 : decode cX12_readAll 14 = .ok (.aload_n 0, 1) := by decide +kernel
theorem dX12_readAll_15 : decode cX12_readAll 15 = .ok (.getfield 108, 3) := by decide +kernel
theorem dX12_readAll_18 : decode cX12_readAll 18 = .ok (.aload_n 0, 1) := by decide +kernel
theorem dX12_readAll_19 : decode cX12_readAll 19 = .ok (.getfield 111, 3) := by decide +kernel
theorem dX12_readAll_22 : decode cX12_readAll 22 = .ok (.if_icmp .ne 5, 3) := by decide +kernel
theorem dX12_readAll_25 : decode cX12_readAll 25 = .ok (.iconst 0, 1) := by decide +kernel
theorem dX12_readAll_26 : decode cX12_readAll 26 = .ok (.ireturn, 1) := by decide +kernel
theorem dX12_readAll_27 : decode cX12_readAll 27 = .ok (.iconst 0, 1) := by decide +kernel
theorem dX12_readAll_28 : decode cX12_readAll 28 = .ok (.istore_n 2, 1) := by decide +kernel
theorem dX12_readAll_29 : decode cX12_readAll 29 = .ok (.aload_n 0, 1) := by decide +kernel
theorem dX12_readAll_30 : decode cX12_readAll 30 = .ok (.iload_n 2, 1) := by decide +kernel
theorem dX12_readAll_31 : decode cX12_readAll 31 = .ok (.iload_n 1, 1) := by decide +kernel
theorem dX12_readAll_32 : decode cX12_readAll 32 = .ok (.invokevirtual 284, 3) := by decide +kernel
theorem dX12_readAll_35 : decode cX12_readAll 35 = .ok (.ifCond .ne 5, 3) := by decide +kernel
theorem dX12_readAll_38 : decode cX12_readAll 38 = .ok (.iconst (-1), 1) := by decide +kernel
theorem dX12_readAll_39 : decode cX12_readAll 39 = .ok (.ireturn, 1) := by decide +kernel
theorem dX12_readAll_40 : decode cX12_readAll 40 = .ok (.aload_n 0, 1) := by decide +kernel
theorem dX12_readAll_41 : decode cX12_readAll 41 = .ok (.invokevirtual 121, 3) := by decide +kernel
theorem dX12_readAll_44 : decode cX12_readAll 44 = .ok (.aload_n 0, 1) := by decide +kernel
theorem dX12_readAll_45 : decode cX12_readAll 45 = .ok (.getfield 108, 3) := by decide +kernel
theorem dX12_readAll_48 : decode cX12_readAll 48 = .ok (.aload_n 0, 1) := by decide +kernel
theorem dX12_readAll_49 : decode cX12_readAll 49 = .ok (.getfield 111, 3) := by decide +kernel
theorem dX12_readAll_52 : decode cX12_readAll 52 = .ok (.if_icmp .ne 7, 3) := by decide +kernel
theorem dX12_readAll_55 : decode cX12_readAll 55 = .ok (.iload_n 2, 1) := by decide +kernel
theorem dX12_readAll_56 : decode cX12_readAll 56 = .ok (.iconst 1, 1) := by decide +kernel
theorem dX12_readAll_57 : decode cX12_readAll 57 = .ok (.iadd, 1) := by decide +kernel
theorem dX12_readAll_58 : decode cX12_readAll 58 = .ok (.ireturn, 1) := by decide +kernel
theorem dX12_readAll_59 : decode cX12_readAll 59 = .ok (.aload_n 0, 1) := by decide +kernel
theorem dX12_readAll_60 : decode cX12_readAll 60 = .ok (.bipush 59, 2) := by decide +kernel
theorem dX12_readAll_62 : decode cX12_readAll 62 = .ok (.bipush 59, 2) := by decide +kernel
theorem dX12_readAll_64 : decode cX12_readAll 64 = .ok (.invokevirtual 114, 3) := by decide +kernel
theorem dX12_readAll_67 : decode cX12_readAll 67 = .ok (.ifCond .ne 5, 3) := by decide +kernel
theorem dX12_readAll_70 : decode cX12_readAll 70 = .ok (.iconst (-1), 1) := by decide +kernel
theorem dX12_readAll_71 : decode cX12_readAll 71 = .ok (.ireturn, 1) := by decide +kernel
theorem dX12_readAll_72 : decode cX12_readAll 72 = .ok (.aload_n 0, 1) := by decide +kernel
theorem dX12_readAll_73 : decode cX12_readAll 73 = .ok (.dup, 1) := by decide +kernel
theorem dX12_readAll_74 : decode cX12_readAll 74 = .ok (.getfield 108, 3) := by decide +kernel
theorem dX12_readAll_77 : decode cX12_readAll 77 = .ok (.iconst 1, 1) := by decide +kernel
theorem dX12_readAll_78 : decode cX12_readAll 78 = .ok (.iadd, 1) := by decide +kernel
theorem dX12_readAll_79 : decode cX12_readAll 79 = .ok (.putfield 108, 3) := by decide +kernel
theorem dX12_readAll_82 : decode cX12_readAll 82 = .ok (.iinc 2 1, 3) := by decide +kernel
theorem dX12_readAll_85 : decode cX12_readAll 85 = .ok (.goto (-56), 3) := by decide +kernel
noncomputable def E_X12_readAll : mE := (mX12_readAll, [(39, [(0, (.aload_n 0, 1, false, false, 0, 0, 0, 0, 0, 0, [])), (1, (.iconst 0, 2, false, false, 0, 0, 0, 0, 0, 0, [])), (2, (.putfield 108, 5, false, false, 15, 6, 0, 0, 0, 0, [])), (5, (.aload_n 0, 6, false, false, 0, 0, 0, 0, 0, 0, [])), (6, (.iconst 0, 7, false, false, 0, 0, 0, 0, 0, 0, [])), (7, (.putfield 143, 10, false, false, 15, 12, 0, 0, 0, 0, [])), (10, (.aload_n 0, 11, false, false, 0, 0, 0, 0, 0, 0, [])), (11, (.invokevirtual 121, 14, false, false, 114, 0, 0, 15, 0, 0, [])), (14, (.aload_n 0, 15, false, false, 0, 0, 0, 0, 0, 0, [])), (15, (.getfield 108, 18, false, false, 15, 6, 0, 0, 0, 0, [])), (18, (.aload_n 0, 19, false, false, 0, 0, 0, 0, 0, 0, [])), (19, (.getfield 111, 22, false, false, 15, 7, 0, 0, 0, 0, [])), (22, (.if_icmp .ne 5, 25, false, false, 27, 0, 0, 0, 0, 0, [])), (25, (.iconst 0, 26, false, false, 0, 0, 0, 0, 0, 0, [])), (26, (.ireturn, 27, false, false, 0, 0, 0, 0, 0, 0, [])), (27, (.iconst 0, 28, false, false, 0, 0, 0, 0, 0, 0, [])), (28, (.istore_n 2, 29, true, false, 2, 0, 0, 0, 0, 0, [])), (29, (.aload_n 0, 30, false, false, 0, 0, 0, 0, 0, 0, [])), (30, (.iload_n 2, 31, false, false, 2, 0, 0, 0, 0, 0, [])), (31, (.iload_n 1, 32, false, false, 1, 0, 0, 0, 0, 0, [])), (32, (.invokevirtual 284, 35, false, false, 137, 2, 1, 15, 0, 0, [])), (35, (.ifCond .ne 5, 38, false, false, 40, 0, 0, 0, 0, 0, [])), (38, (.iconst (-1), 39, false, false, 0, 0, 0, 0, -1, 0, [])), (39, (.ireturn, 40, false, false, 0, 0, 0, 0, 0, 0, []))]),
  (79, [(40, (.aload_n 0, 41, false, false, 0, 0, 0, 0, 0, 0, [])), (41, (.invokevirtual 121, 44, false, false, 114, 0, 0, 15, 0, 0, [])), (44, (.aload_n 0, 45, false, false, 0, 0, 0, 0, 0, 0, [])), (45, (.getfield 108, 48, false, false, 15, 6, 0, 0, 0, 0, [])), (48, (.aload_n 0, 49, false, false, 0, 0, 0, 0, 0, 0, [])), (49, (.getfield 111, 52, false, false, 15, 7, 0, 0, 0, 0, [])), (52, (.if_icmp .ne 7, 55, false, false, 59, 0, 0, 0, 0, 0, [])), (55, (.iload_n 2, 56, false, false, 2, 0, 0, 0, 0, 0, [])), (56, (.iconst 1, 57, false, false, 0, 0, 0, 0, 1, 0, [])), (57, (.iadd, 58, false, false, 0, 0, 0, 0, 0, 0, [])), (58, (.ireturn, 59, false, false, 0, 0, 0, 0, 0, 0, [])), (59, (.aload_n 0, 60, false, false, 0, 0, 0, 0, 0, 0, [])), (60, (.bipush 59, 62, false, false, 0, 0, 0, 0, 59, 0, [])), (62, (.bipush 59, 64, false, false, 0, 0, 0, 0, 59, 0, [])), (64, (.invokevirtual 114, 67, false, false, 113, 2, 1, 15, 0, 0, [])), (67, (.ifCond .ne 5, 70, false, false, 72, 0, 0, 0, 0, 0, [])), (70, (.iconst (-1), 71, false, false, 0, 0, 0, 0, -1, 0, [])), (71, (.ireturn, 72, false, false, 0, 0, 0, 0, 0, 0, [])), (72, (.aload_n 0, 73, false, false, 0, 0, 0, 0, 0, 0, [])), (73, (.dup, 74, false, false, 0, 0, 0, 0, 0, 0, [])), (74, (.getfield 108, 77, false, false, 15, 6, 0, 0, 0, 0, [])), (77, (.iconst 1, 78, false, false, 0, 0, 0, 0, 1, 0, [])), (78, (.iadd, 79, false, false, 0, 0, 0, 0, 0, 0, [])), (79, (.putfield 108, 82, false, false, 15, 6, 0, 0, 0, 0, []))]),
  (85, [(82, (.iinc 2 1, 85, false, false, 2, 0, 0, 0, 1, 0, [])), (85, (.goto (-56), 88, false, true, 29, 0, 0, 0, 0, 0, []))])], 0, [])
set_option maxRecDepth 100000 in
theorem v_X12_readAll : VE MYT dflT E_X12_readAll := ⟨⟨⟨⟨⟨dX12_readAll_0, rfl⟩, rfl⟩, ⟨⟨dX12_readAll_1, rfl⟩, rfl⟩, ⟨⟨dX12_readAll_2, rfl⟩, Or.inl ⟨rfl, fX12_108⟩⟩, ⟨⟨dX12_readAll_5, rfl⟩, rfl⟩, ⟨⟨dX12_readAll_6, rfl⟩, rfl⟩, ⟨⟨dX12_readAll_7, rfl⟩, Or.inl ⟨rfl, fX12_143⟩⟩, ⟨⟨dX12_readAll_10, rfl⟩, rfl⟩, ⟨⟨dX12_readAll_11, rfl⟩, Or.inr ⟨by decide, ⟨_, my_114, sX12_121⟩, fun q => absurd q (by decide)⟩⟩, ⟨⟨dX12_readAll_14, rfl⟩, rfl⟩, ⟨⟨dX12_readAll_15, rfl⟩, Or.inl ⟨by decide, _, _, fX12_108⟩⟩, ⟨⟨dX12_readAll_18, rfl⟩, rfl⟩, ⟨⟨dX12_readAll_19, rfl⟩, Or.inl ⟨by decide, _, _, fX12_111⟩⟩, ⟨⟨dX12_readAll_22, rfl⟩, rfl⟩, ⟨⟨dX12_readAll_25, rfl⟩, rfl⟩, ⟨⟨dX12_readAll_26, rfl⟩, Or.inl ⟨rfl, rfl⟩⟩, ⟨⟨dX12_readAll_27, rfl⟩, rfl⟩, ⟨⟨dX12_readAll_28, rfl⟩, rfl⟩, ⟨⟨dX12_readAll_29, rfl⟩, rfl⟩, ⟨⟨dX12_readAll_30, rfl⟩, rfl⟩, ⟨⟨dX12_readAll_31, rfl⟩, rfl⟩, ⟨⟨dX12_readAll_32, rfl⟩, Or.inr ⟨by decide, ⟨_, my_137, sX12_284⟩, fun q => absurd q (by decide)⟩⟩, ⟨⟨dX12_readAll_35, rfl⟩, rfl⟩, ⟨⟨dX12_readAll_38, rfl⟩, rfl⟩, ⟨⟨dX12_readAll_39, rfl⟩, Or.inl ⟨rfl, rfl⟩⟩, trivial⟩,
  ⟨⟨⟨dX12_readAll_40, rfl⟩, rfl⟩, ⟨⟨dX12_readAll_41, rfl⟩, Or.inr ⟨by decide, ⟨_, my_114, sX12_121⟩, fun q => absurd q (by decide)⟩⟩, ⟨⟨dX12_readAll_44, rfl⟩, rfl⟩, ⟨⟨dX12_readAll_45, rfl⟩, Or.inl ⟨by decide, _, _, fX12_108⟩⟩, ⟨⟨dX12_readAll_48, rfl⟩, rfl⟩, ⟨⟨dX12_readAll_49, rfl⟩, Or.inl ⟨by decide, _, _, fX12_111⟩⟩, ⟨⟨dX12_readAll_52, rfl⟩, rfl⟩, ⟨⟨dX12_readAll_55, rfl⟩, rfl⟩, ⟨⟨dX12_readAll_56, rfl⟩, rfl⟩, ⟨⟨dX12_readAll_57, rfl⟩, trivial⟩, ⟨⟨dX12_readAll_58, rfl⟩, Or.inl ⟨rfl, rfl⟩⟩, ⟨⟨dX12_readAll_59, rfl⟩, rfl⟩, ⟨⟨dX12_readAll_60, rfl⟩, rfl⟩, ⟨⟨dX12_readAll_62, rfl⟩, rfl⟩, ⟨⟨dX12_readAll_64, rfl⟩, Or.inr ⟨by decide, ⟨_, my_113, sX12_114⟩, fun q => absurd q (by decide)⟩⟩, ⟨⟨dX12_readAll_67, rfl⟩, rfl⟩, ⟨⟨dX12_readAll_70, rfl⟩, rfl⟩, ⟨⟨dX12_readAll_71, rfl⟩, Or.inl ⟨rfl, rfl⟩⟩, ⟨⟨dX12_readAll_72, rfl⟩, rfl⟩, ⟨⟨dX12_readAll_73, rfl⟩, trivial⟩, ⟨⟨dX12_readAll_74, rfl⟩, Or.inl ⟨by decide, _, _, fX12_108⟩⟩, ⟨⟨dX12_readAll_77, rfl⟩, rfl⟩, ⟨⟨dX12_readAll_78, rfl⟩, trivial⟩, ⟨⟨dX12_readAll_79, rfl⟩, Or.inl ⟨rfl, fX12_108⟩⟩, trivial⟩,
  ⟨⟨⟨dX12_readAll_82, rfl⟩, ⟨rfl, rfl⟩⟩, ⟨⟨dX12_readAll_85, rfl⟩, rfl⟩, trivial⟩, trivial⟩, by decide, Or.inl ⟨rfl, by decide, rfl⟩⟩
set_option maxRecDepth 100000 in
theorem g_X12_readAll_0 (S : sT) (call : cT) (n : Nat) (a0 : Nat) (x1 : Int32) (h : pH) : bd S call dflT E_X12_readAll (n + 1) 0 [some (.ref a0), some (.int x1), none] [] h = (pF h (.ref a0) 15 6 (.int 0) (fun h1 => pF h1 (.ref a0) 15 12 (.int 0) (fun h2 => rC h2 (.ref a0) 15 (cU (call 114 [.ref a0] h2) (fun h3 => gI h3 (.ref a0) 15 6 (fun y4 => gI h3 (.ref a0) 15 7 (fun y5 => (if y4 = y5 then some (.inl (some (.int 0)), h3) else bd S call dflT E_X12_readAll n 29 [some (.ref a0), some (.int x1), some (.int 0)] [] h3)))))))) := rfl
set_option maxRecDepth 100000 in
theorem g_X12_readAll_29 (S : sT) (call : cT) (n : Nat) (a0 : Nat) (x1 : Int32) (x2 : Int32) (h : pH) : bd S call dflT E_X12_readAll (n + 1) 29 [some (.ref a0), some (.int x1), some (.int x2)] [] h = (rC h (.ref a0) 15 (cI (call 137 [.ref a0, .int x2, .int x1] h) (fun y2 h1 => (if y2 = 0 then some (.inl (some (.int (-1))), h1) else rC h1 (.ref a0) 15 (cU (call 114 [.ref a0] h1) (fun h3 => gI h3 (.ref a0) 15 6 (fun y4 => gI h3 (.ref a0) 15 7 (fun y5 => (if y4 = y5 then some (.inl (some (.int (x2 + 1))), h3) else rC h3 (.ref a0) 15 (cI (call 113 [.ref a0, .int 59, .int 59] h3) (fun y7 h6 => (if y7 = 0 then some (.inl (some (.int (-1))), h6) else gI h6 (.ref a0) 15 6 (fun y8 => pF h6 (.ref a0) 15 6 (.int (y8 + 1)) (fun h9 => bd S call dflT E_X12_readAll n 29 [some (.ref a0), some (.int x1), some (.int (x2 + 1))] [] h9)))))))))))))) := rfl
theorem dX12_reads_0 : decode cX12_reads 0 = .ok (.aload_n 0, 1) := by decide +kernel
theorem dX12_reads_1 : decode cX12_reads 1 = .ok (.iload_n 1, 1) := by decide +kernel
theorem dX12_reads_2 : decode cX12_reads 2 = .ok (.invokevirtual 287, 3) := by decide +kernel
theorem dX12_reads_5 : decode cX12_reads 5 = .ok (.istore_n 2, 1) := by decide +kernel
theorem dX12_reads_6 : decode cX12_reads 6 = .ok (.aload_n 0, 1) := by decide +kernel
theorem dX12_reads_7 : decode cX12_reads 7 = .ok (.iload_n 2, 1) := by decide +kernel
theorem dX12_reads_8 : decode cX12_reads 8 = .ok (.ifCond .ge 10, 3) := by decide +kernel
theorem dX12_reads_11 : decode cX12_reads 11 = .ok (.aload_n 0, 1) := by decide +kernel
theorem dX12_reads_12 : decode cX12_reads 12 = .ok (.getfield 118, 3) := by decide +kernel
theorem dX12_reads_15 : decode cX12_reads 15 = .ok (.goto 4, 3) := by decide +kernel
theorem dX12_reads_18 : decode cX12_reads 18 = .ok (.iconst (-1), 1) := by decide +kernel
theorem dX12_reads_19 : decode cX12_reads 19 = .ok (.putfield 39, 3) := by decide +kernel
theorem dX12_reads_22 : decode cX12_reads 22 = .ok (.aload_n 0, 1) := by decide +kernel
theorem dX12_reads_23 : decode cX12_reads 23 = .ok (.getfield 27, 3) := by decide +kernel
theorem dX12_reads_26 : decode cX12_reads 26 = .ok (.bipush 36, 2) := by decide +kernel
theorem dX12_reads_28 : decode cX12_reads 28 = .ok (.invokestatic 140, 3) := by decide +kernel
theorem dX12_reads_31 : decode cX12_reads 31 = .ok (.iconst 1, 1) := by decide +kernel
theorem dX12_reads_32 : decode cX12_reads 32 = .ok (.iadd, 1) := by decide +kernel
theorem dX12_reads_33 : decode cX12_reads 33 = .ok (.iload_n 2, 1) := by decide +kernel
theorem dX12_reads_34 : decode cX12_reads 34 = .ok (.iastore, 1) := by decide +kernel
theorem dX12_reads_35 : decode cX12_reads 35 = .ok (.iload_n 2, 1) := by decide +kernel
theorem dX12_reads_36 : decode cX12_reads 36 = .ok (.ireturn, 1) := by decide +kernel
noncomputable def E_X12_reads : mE := (mX12_reads, [(36, [(0, (.aload_n 0, 1, false, false, 0, 0, 0, 0, 0, 0, [])), (1, (.iload_n 1, 2, false, false, 1, 0, 0, 0, 0, 0, [])), (2, (.invokevirtual 287, 5, false, false, 138, 1, 1, 15, 0, 0, [])), (5, (.istore_n 2, 6, false, false, 2, 0, 0, 0, 0, 0, [])), (6, (.aload_n 0, 7, false, false, 0, 0, 0, 0, 0, 0, [])), (7, (.iload_n 2, 8, false, false, 2, 0, 0, 0, 0, 0, [])), (8, (.ifCond .ge 10, 11, false, false, 18, 0, 0, 0, 0, 0, [])), (11, (.aload_n 0, 12, false, false, 0, 0, 0, 0, 0, 0, [])), (12, (.getfield 118, 15, false, false, 15, 8, 0, 0, 0, 0, [])), (15, (.goto 4, 18, false, false, 19, 0, 0, 0, 0, 0, [])), (18, (.iconst (-1), 19, false, false, 0, 0, 0, 0, -1, 0, [])), (19, (.putfield 39, 22, false, false, 15, 10, 0, 0, 0, 0, [])), (22, (.aload_n 0, 23, false, false, 0, 0, 0, 0, 0, 0, [])), (23, (.getfield 27, 26, false, false, 15, 1, 1, 0, 0, 0, [])), (26, (.bipush 36, 28, false, false, 0, 0, 0, 0, 36, 0, [])), (28, (.invokestatic 140, 31, false, false, 116, 1, 1, 0, 0, 0, [])), (31, (.iconst 1, 32, false, false, 0, 0, 0, 0, 1, 0, [])), (32, (.iadd, 33, false, false, 0, 0, 0, 0, 0, 0, [])), (33, (.iload_n 2, 34, false, false, 2, 0, 0, 0, 0, 0, [])), (34, (.iastore, 35, false, false, 0, 0, 0, 0, 0, 0, [])), (35, (.iload_n 2, 36, false, false, 2, 0, 0, 0, 0, 0, [])), (36, (.ireturn, 37, false, false, 0, 0, 0, 0, 0, 0, []))])], 0, [])
set_option maxRecDepth 100000 in
theorem v_X12_reads : VE MYT dflT E_X12_reads := ⟨⟨⟨⟨⟨dX12_reads_0, rfl⟩, rfl⟩, ⟨⟨dX12_reads_1, rfl⟩, rfl⟩, ⟨⟨dX12_reads_2, rfl⟩, Or.inr ⟨by decide, ⟨_, my_138, sX12_287⟩, fun q => absurd q (by decide)⟩⟩, ⟨⟨dX12_reads_5, rfl⟩, rfl⟩, ⟨⟨dX12_reads_6, rfl⟩, rfl⟩, ⟨⟨dX12_reads_7, rfl⟩, rfl⟩, ⟨⟨dX12_reads_8, rfl⟩, rfl⟩, ⟨⟨dX12_reads_11, rfl⟩, rfl⟩, ⟨⟨dX12_reads_12, rfl⟩, Or.inl ⟨by decide, _, _, fX12_118⟩⟩, ⟨⟨dX12_reads_15, rfl⟩, rfl⟩, ⟨⟨dX12_reads_18, rfl⟩, rfl⟩, ⟨⟨dX12_reads_19, rfl⟩, Or.inl ⟨rfl, fX12_39⟩⟩, ⟨⟨dX12_reads_22, rfl⟩, rfl⟩, ⟨⟨dX12_reads_23, rfl⟩, Or.inl ⟨by decide, _, _, fX12_27⟩⟩, ⟨⟨dX12_reads_26, rfl⟩, rfl⟩, ⟨⟨dX12_reads_28, rfl⟩, Or.inl ⟨rfl, _, my_116, sX12_140⟩⟩, ⟨⟨dX12_reads_31, rfl⟩, rfl⟩, ⟨⟨dX12_reads_32, rfl⟩, trivial⟩, ⟨⟨dX12_reads_33, rfl⟩, rfl⟩, ⟨⟨dX12_reads_34, rfl⟩, trivial⟩, ⟨⟨dX12_reads_35, rfl⟩, rfl⟩, ⟨⟨dX12_reads_36, rfl⟩, Or.inl ⟨rfl, rfl⟩⟩, trivial⟩, trivial⟩, by decide, Or.inl ⟨rfl, by decide, rfl⟩⟩
set_option maxRecDepth 100000 in
theorem g_X12_reads_0 (S : sT) (call : cT) (n : Nat) (a0 : Nat) (x1 : Int32) (h : pH) : bd S call dflT E_X12_reads (n + 1) 0 [some (.ref a0), some (.int x1), none] [] h = (rC h (.ref a0) 15 (cI (call 138 [.ref a0, .int x1] h) (fun y2 h1 => (if 0 ≤ y2 then pF h1 (.ref a0) 15 10 (.int (-1)) (fun h3 => gV h3 (.ref a0) 15 1 (fun w4 => cI (call 116 [.int 36] h3) (fun y6 h5 => sI h5 w4 0 (y6 + 1) y2 (fun h7 => some (.inl (some (.int y2)), h7))))) else gI h1 (.ref a0) 15 8 (fun y8 => pF h1 (.ref a0) 15 10 (.int y8) (fun h9 => gV h9 (.ref a0) 15 1 (fun w10 => cI (call 116 [.int 36] h9) (fun y12 h11 => sI h11 w10 0 (y12 + 1) y2 (fun h13 => some (.inl (some (.int y2)), h13)))))))))) := rfl
theorem dX12_orders_0 : decode cX12_orders 0 = .ok (.aload_n 0, 1) := by decide +kernel
theorem dX12_orders_1 : decode cX12_orders 1 = .ok (.iconst 0, 1) := by decide +kernel
theorem dX12_orders_2 : decode cX12_orders 2 = .ok (.putfield 296, 3) := by decide +kernel
theorem dX12_orders_5 : decode cX12_orders 5 = .ok (.iconst 0, 1) := by decide +kernel
theorem dX12_orders_6 : decode cX12_orders 6 = .ok (.istore_n 1, 1) := by decide +kernel
theorem dX12_orders_7 : decode cX12_orders 7 = .ok (.iload_n 1, 1) := by decide +kernel
theorem dX12_orders_8 : decode cX12_orders 8 = .ok (.aload_n 0, 1) := by decide +kernel
theorem dX12_orders_9 : decode cX12_orders 9 = .ok (.getfield 27, 3) := by decide +kernel
theorem dX12_orders_12 : decode cX12_orders 12 = .ok (.sipush 2650, 3) := by decide +kernel
theorem dX12_orders_15 : decode cX12_orders 15 = .ok (.iaload, 1) := by decide +kernel
theorem dX12_orders_16 : decode cX12_orders 16 = .ok (.if_icmp .ge 102, 3) := by decide +kernel
theorem dX12_orders_19 : decode cX12_orders 19 = .ok (.aload_n 0, 1) := by decide +kernel
theorem dX12_orders_20 : decode cX12_orders 20 = .ok (.getfield 27, 3) := by decide +kernel
theorem dX12_orders_23 : decode cX12_orders 23 = .ok (.iload_n 1, 1) := by decide +kernel
theorem dX12_orders_24 : decode cX12_orders 24 = .ok (.invokestatic 140, 3) := by decide +kernel
theorem dX12_orders_27 : decode cX12_orders 27 = .ok (.iaload, 1) := by decide +kernel
theorem dX12_orders_28 : decode cX12_orders 28 = .ok (.aload_n 0, 1) := by decide +kernel
theorem dX12_orders_29 : decode cX12_orders 29 = .ok (.invokevirtual 89, 3) := by decide +kernel
theorem dX12_orders_32 : decode cX12_orders 32 = .ok (.if_icmp .le 6, 3) := by decide +kernel
theorem dX12_orders_35 : decode cX12_orders 35 = .ok (.goto 77, 3) := by decide +kernel
theorem dX12_orders_38 : decode cX12_orders 38 = .ok (.aload_n 0, 1) := by decide +kernel
theorem dX12_orders_39 : decode cX12_orders 39 = .ok (.getfield 296, 3) := by decide +kernel
theorem dX12_orders_42 : decode cX12_orders 42 = .ok (.istore_n 2, 1) := by decide +kernel
theorem dX12_orders_43 : decode cX12_orders 43 = .ok (.iload_n 2, 1) := by decide +kernel
theorem dX12_orders_44 : decode cX12_orders 44 = .ok (.ifCond .le 51, 3) := by decide +kernel
theorem dX12_orders_47 : decode cX12_orders 47 = .ok (.aload_n 0, 1) := by decide +kernel
theorem dX12_orders_48 : decode cX12_orders 48 = .ok (.getfield 27, 3) := by decide +kernel
theorem dX12_orders_51 : decode cX12_orders 51 = .ok (.aload_n 0, 1) := by decide +kernel
theorem dX12_orders_52 : decode cX12_orders 52 = .ok (.getfield 52, 3) := by decide +kernel
theorem dX12_orders_55 : decode cX12_orders 55 = .ok (.iload_n 2, 1) := by decide +kernel
theorem dX12_orders_56 : decode cX12_orders 56 = .ok (.iconst 1, 1) := by decide +kernel
theorem dX12_orders_57 : decode cX12_orders 57 = .ok (.isub, 1) := by decide +kernel
theorem dX12_orders_58 : decode cX12_orders 58 = .ok (.iaload, 1) := by decide +kernel
theorem dX12_orders_59 : decode cX12_orders 59 = .ok (.invokestatic 140, 3) := by decide +kernel
theorem dX12_orders_62 : decode cX12_orders 62 = .ok (.iaload, 1) := by decide +kernel
theorem dX12_orders_63 : decode cX12_orders 63 = .ok (.aload_n 0, 1) := by decide +kernel
theorem dX12_orders_64 : decode cX12_orders 64 = .ok (.getfield 27, 3) := by decide +kernel
theorem dX12_orders_67 : decode cX12_orders 67 = .ok (.iload_n 1, 1) := by decide +kernel
theorem dX12_orders_68 : decode cX12_orders 68 = .ok (.invokestatic 140, 3) := by decide +kernel
theorem dX12_orders_71 : decode cX12_orders 71 = .ok (.iaload, 1) := by decide +kernel
theorem dX12_orders_72 : decode cX12_orders 72 = .ok (.if_icmp .le 23, 3) := by decide +kernel
theorem dX12_orders_75 : decode cX12_orders 75 = .ok (.aload_n 0, 1) := by decide +kernel
theorem dX12_orders_76 : decode cX12_orders 76 = .ok (.getfield 52, 3) := by decide +kernel
theorem dX12_orders_79 : decode cX12_orders 79 = .ok (.iload_n 2, 1) := by decide +kernel
theorem dX12_orders_80 : decode cX12_orders 80 = .ok (.aload_n 0, 1) := by decide +kernel
theorem dX12_orders_81 : decode cX12_orders 81 = .ok (.getfield 52, 3) := by decide +kernel
theorem dX12_orders_84 : decode cX12_orders 84 = .ok (.iload_n 2, 1) := by decide +kernel
theorem dX12_orders_85 : decode cX12_orders 85 = .ok (.iconst 1, 1) := by decide +kernel
theorem dX12_orders_86 : decode cX12_orders 86 = .ok (.isub, 1) := by decide +kernel
theorem dX12_orders_87 : decode cX12_orders 87 = .ok (.iaload, 1) := by decide +kernel
theorem dX12_orders_88 : decode cX12_orders 88 = .ok (.iastore, 1) := by decide +kernel
theorem dX12_orders_89 : decode cX12_orders 89 = .ok (.iinc 2 (-1), 3) := by decide +kernel
theorem dX12_orders_92 : decode cX12_orders 92 = .ok (.goto (-49), 3) := by decide +kernel
theorem dX12_orders_95 : decode cX12_orders 95 = .ok (.aload_n 0, 1) := by decide +kernel
theorem dX12_orders_96 : decode cX12_orders 96 = .ok (.getfield 52, 3) := by decide +kernel
theorem dX12_orders_99 : decode cX12_orders 99 = .ok (.iload_n 2, 1) := by decide +kernel
theorem dX12_orders_100 : decode cX12_orders 100 = .ok (.iload_n 1, 1) := by decide +kernel
theorem dX12_orders_101 : decode cX12_orders 101 = .ok (.iastore, 1) := by decide +kernel
theorem dX12_orders_102 : decode cX12_orders 102 = .ok (.aload_n 0, 1) := by decide +kernel
theorem dX12_orders_103 : decode cX12_orders 103 = .ok (.dup, 1) := by decide +kernel
theorem dX12_orders_104 : decode cX12_orders 104 = .ok (.getfield 296, 3) := by decide +kernel
theorem dX12_orders_107 : decode cX12_orders 107 = .ok (.iconst 1, 1) := by decide +kernel
theorem dX12_orders_108 : decode cX12_orders 108 = .ok (.iadd, 1) := by decide +kernel
theorem dX12_orders_109 : decode cX12_orders 109 = .ok (.putfield 296, 3) := by decide +kernel
theorem dX12_orders_112 : decode cX12_orders 112 = .ok (.iinc 1 1, 3) := by decide +kernel
theorem dX12_orders_115 : decode cX12_orders 115 = .ok (.goto (-108), 3) := by decide +kernel
theorem dX12_orders_118 : decode cX12_orders 118 = .ok (.return_, 1) := by decide +kernel
noncomputable def E_X12_orders : mE := (mX12_orders, [(43, [(0, (.aload_n 0, 1, false, false, 0, 0, 0, 0, 0, 0, [])), (1, (.iconst 0, 2, false, false, 0, 0, 0, 0, 0, 0, [])), (2, (.putfield 296, 5, false, false, 15, 16, 0, 0, 0, 0, [])), (5, (.iconst 0, 6, false, false, 0, 0, 0, 0, 0, 0, [])), (6, (.istore_n 1, 7, true, false, 1, 0, 0, 0, 0, 0, [])), (7, (.iload_n 1, 8, false, false, 1, 0, 0, 0, 0, 0, [])), (8, (.aload_n 0, 9, false, false, 0, 0, 0, 0, 0, 0, [])), (9, (.getfield 27, 12, false, false, 15, 1, 1, 0, 0, 0, [])), (12, (.sipush 2650, 15, false, false, 0, 0, 0, 0, 2650, 0, [])), (15, (.iaload, 16, false, false, 0, 0, 0, 0, 0, 0, [])), (16, (.if_icmp .ge 102, 19, false, false, 118, 0, 0, 0, 0, 0, [])), (19, (.aload_n 0, 20, false, false, 0, 0, 0, 0, 0, 0, [])), (20, (.getfield 27, 23, false, false, 15, 1, 1, 0, 0, 0, [])), (23, (.iload_n 1, 24, false, false, 1, 0, 0, 0, 0, 0, [])), (24, (.invokestatic 140, 27, false, false, 116, 1, 1, 0, 0, 0, [])), (27, (.iaload, 28, false, false, 0, 0, 0, 0, 0, 0, [])), (28, (.aload_n 0, 29, false, false, 0, 0, 0, 0, 0, 0, [])), (29, (.invokevirtual 89, 32, false, false, 48, 0, 1, 15, 0, 0, [])), (32, (.if_icmp .le 6, 35, false, false, 38, 0, 0, 0, 0, 0, [])), (35, (.goto 77, 38, false, false, 112, 0, 0, 0, 0, 0, [])), (38, (.aload_n 0, 39, false, false, 0, 0, 0, 0, 0, 0, [])), (39, (.getfield 296, 42, false, false, 15, 16, 0, 0, 0, 0, [])), (42, (.istore_n 2, 43, true, false, 2, 0, 0, 0, 0, 0, [])), (43, (.iload_n 2, 44, false, false, 2, 0, 0, 0, 0, 0, []))]),
  (85, [(44, (.ifCond .le 51, 47, false, false, 95, 0, 0, 0, 0, 0, [])), (47, (.aload_n 0, 48, false, false, 0, 0, 0, 0, 0, 0, [])), (48, (.getfield 27, 51, false, false, 15, 1, 1, 0, 0, 0, [])), (51, (.aload_n 0, 52, false, false, 0, 0, 0, 0, 0, 0, [])), (52, (.getfield 52, 55, false, false, 15, 15, 1, 0, 0, 0, [])), (55, (.iload_n 2, 56, false, false, 2, 0, 0, 0, 0, 0, [])), (56, (.iconst 1, 57, false, false, 0, 0, 0, 0, 1, 0, [])), (57, (.isub, 58, false, false, 0, 0, 0, 0, 0, 0, [])), (58, (.iaload, 59, false, false, 0, 0, 0, 0, 0, 0, [])), (59, (.invokestatic 140, 62, false, false, 116, 1, 1, 0, 0, 0, [])), (62, (.iaload, 63, false, false, 0, 0, 0, 0, 0, 0, [])), (63, (.aload_n 0, 64, false, false, 0, 0, 0, 0, 0, 0, [])), (64, (.getfield 27, 67, false, false, 15, 1, 1, 0, 0, 0, [])), (67, (.iload_n 1, 68, false, false, 1, 0, 0, 0, 0, 0, [])), (68, (.invokestatic 140, 71, false, false, 116, 1, 1, 0, 0, 0, [])), (71, (.iaload, 72, false, false, 0, 0, 0, 0, 0, 0, [])), (72, (.if_icmp .le 23, 75, false, false, 95, 0, 0, 0, 0, 0, [])), (75, (.aload_n 0, 76, false, false, 0, 0, 0, 0, 0, 0, [])), (76, (.getfield 52, 79, false, false, 15, 15, 1, 0, 0, 0, [])), (79, (.iload_n 2, 80, false, false, 2, 0, 0, 0, 0, 0, [])), (80, (.aload_n 0, 81, false, false, 0, 0, 0, 0, 0, 0, [])), (81, (.getfield 52, 84, false, false, 15, 15, 1, 0, 0, 0, [])), (84, (.iload_n 2, 85, false, false, 2, 0, 0, 0, 0, 0, [])), (85, (.iconst 1, 86, false, false, 0, 0, 0, 0, 1, 0, []))]),
  (118, [(86, (.isub, 87, false, false, 0, 0, 0, 0, 0, 0, [])), (87, (.iaload, 88, false, false, 0, 0, 0, 0, 0, 0, [])), (88, (.iastore, 89, false, false, 0, 0, 0, 0, 0, 0, [])), (89, (.iinc 2 (-1), 92, false, false, 2, 0, 0, 0, -1, 0, [])), (92, (.goto (-49), 95, false, true, 43, 0, 0, 0, 0, 0, [])), (95, (.aload_n 0, 96, false, false, 0, 0, 0, 0, 0, 0, [])), (96, (.getfield 52, 99, false, false, 15, 15, 1, 0, 0, 0, [])), (99, (.iload_n 2, 100, false, false, 2, 0, 0, 0, 0, 0, [])), (100, (.iload_n 1, 101, false, false, 1, 0, 0, 0, 0, 0, [])), (101, (.iastore, 102, false, false, 0, 0, 0, 0, 0, 0, [])), (102, (.aload_n 0, 103, false, false, 0, 0, 0, 0, 0, 0, [])), (103, (.dup, 104, false, false, 0, 0, 0, 0, 0, 0, [])), (104, (.getfield 296, 107, false, false, 15, 16, 0, 0, 0, 0, [])), (107, (.iconst 1, 108, false, false, 0, 0, 0, 0, 1, 0, [])), (108, (.iadd, 109, false, false, 0, 0, 0, 0, 0, 0, [])), (109, (.putfield 296, 112, false, false, 15, 16, 0, 0, 0, 0, [])), (112, (.iinc 1 1, 115, false, false, 1, 0, 0, 0, 1, 0, [])), (115, (.goto (-108), 118, false, true, 7, 0, 0, 0, 0, 0, [])), (118, (.return_, 119, false, false, 0, 0, 0, 0, 0, 0, []))])], 0, [])
set_option maxRecDepth 100000 in
theorem v_X12_orders : VE MYT dflT E_X12_orders := ⟨⟨⟨⟨⟨dX12_orders_0, rfl⟩, rfl⟩, ⟨⟨dX12_orders_1, rfl⟩, rfl⟩, ⟨⟨dX12_orders_2, rfl⟩, Or.inl ⟨rfl, fX12_296⟩⟩, ⟨⟨dX12_orders_5, rfl⟩, rfl⟩, ⟨⟨dX12_orders_6, rfl⟩, rfl⟩, ⟨⟨dX12_orders_7, rfl⟩, rfl⟩, ⟨⟨dX12_orders_8, rfl⟩, rfl⟩, ⟨⟨dX12_orders_9, rfl⟩, Or.inl ⟨by decide, _, _, fX12_27⟩⟩, ⟨⟨dX12_orders_12, rfl⟩, rfl⟩, ⟨⟨dX12_orders_15, rfl⟩, trivial⟩, ⟨⟨dX12_orders_16, rfl⟩, rfl⟩, ⟨⟨dX12_orders_19, rfl⟩, rfl⟩, ⟨⟨dX12_orders_20, rfl⟩, Or.inl ⟨by decide, _, _, fX12_27⟩⟩, ⟨⟨dX12_orders_23, rfl⟩, rfl⟩, ⟨⟨dX12_orders_24, rfl⟩, Or.inl ⟨rfl, _, my_116, sX12_140⟩⟩, ⟨⟨dX12_orders_27, rfl⟩, trivial⟩, ⟨⟨dX12_orders_28, rfl⟩, rfl⟩, ⟨⟨dX12_orders_29, rfl⟩, Or.inr ⟨by decide, ⟨_, my_48, sX12_89⟩, fun q => absurd q (by decide)⟩⟩, ⟨⟨dX12_orders_32, rfl⟩, rfl⟩, ⟨⟨dX12_orders_35, rfl⟩, rfl⟩, ⟨⟨dX12_orders_38, rfl⟩, rfl⟩, ⟨⟨dX12_orders_39, rfl⟩, Or.inl ⟨by decide, _, _, fX12_296⟩⟩, ⟨⟨dX12_orders_42, rfl⟩, rfl⟩, ⟨⟨dX12_orders_43, rfl⟩, rfl⟩, trivial⟩,
  ⟨⟨⟨dX12_orders_44, rfl⟩, rfl⟩, ⟨⟨dX12_orders_47, rfl⟩, rfl⟩, ⟨⟨dX12_orders_48, rfl⟩, Or.inl ⟨by decide, _, _, fX12_27⟩⟩, ⟨⟨dX12_orders_51, rfl⟩, rfl⟩, ⟨⟨dX12_orders_52, rfl⟩, Or.inl ⟨by decide, _, _, fX12_52⟩⟩, ⟨⟨dX12_orders_55, rfl⟩, rfl⟩, ⟨⟨dX12_orders_56, rfl⟩, rfl⟩, ⟨⟨dX12_orders_57, rfl⟩, trivial⟩, ⟨⟨dX12_orders_58, rfl⟩, trivial⟩, ⟨⟨dX12_orders_59, rfl⟩, Or.inl ⟨rfl, _, my_116, sX12_140⟩⟩, ⟨⟨dX12_orders_62, rfl⟩, trivial⟩, ⟨⟨dX12_orders_63, rfl⟩, rfl⟩, ⟨⟨dX12_orders_64, rfl⟩, Or.inl ⟨by decide, _, _, fX12_27⟩⟩, ⟨⟨dX12_orders_67, rfl⟩, rfl⟩, ⟨⟨dX12_orders_68, rfl⟩, Or.inl ⟨rfl, _, my_116, sX12_140⟩⟩, ⟨⟨dX12_orders_71, rfl⟩, trivial⟩, ⟨⟨dX12_orders_72, rfl⟩, rfl⟩, ⟨⟨dX12_orders_75, rfl⟩, rfl⟩, ⟨⟨dX12_orders_76, rfl⟩, Or.inl ⟨by decide, _, _, fX12_52⟩⟩, ⟨⟨dX12_orders_79, rfl⟩, rfl⟩, ⟨⟨dX12_orders_80, rfl⟩, rfl⟩, ⟨⟨dX12_orders_81, rfl⟩, Or.inl ⟨by decide, _, _, fX12_52⟩⟩, ⟨⟨dX12_orders_84, rfl⟩, rfl⟩, ⟨⟨dX12_orders_85, rfl⟩, rfl⟩, trivial⟩,
  ⟨⟨⟨dX12_orders_86, rfl⟩, trivial⟩, ⟨⟨dX12_orders_87, rfl⟩, trivial⟩, ⟨⟨dX12_orders_88, rfl⟩, trivial⟩, ⟨⟨dX12_orders_89, rfl⟩, ⟨rfl, rfl⟩⟩, ⟨⟨dX12_orders_92, rfl⟩, rfl⟩, ⟨⟨dX12_orders_95, rfl⟩, rfl⟩, ⟨⟨dX12_orders_96, rfl⟩, Or.inl ⟨by decide, _, _, fX12_52⟩⟩, ⟨⟨dX12_orders_99, rfl⟩, rfl⟩, ⟨⟨dX12_orders_100, rfl⟩, rfl⟩, ⟨⟨dX12_orders_101, rfl⟩, trivial⟩, ⟨⟨dX12_orders_102, rfl⟩, rfl⟩, ⟨⟨dX12_orders_103, rfl⟩, trivial⟩, ⟨⟨dX12_orders_104, rfl⟩, Or.inl ⟨by decide, _, _, fX12_296⟩⟩, ⟨⟨dX12_orders_107, rfl⟩, rfl⟩, ⟨⟨dX12_orders_108, rfl⟩, trivial⟩, ⟨⟨dX12_orders_109, rfl⟩, Or.inl ⟨rfl, fX12_296⟩⟩, ⟨⟨dX12_orders_112, rfl⟩, ⟨rfl, rfl⟩⟩, ⟨⟨dX12_orders_115, rfl⟩, rfl⟩, ⟨⟨dX12_orders_118, rfl⟩, rfl⟩, trivial⟩, trivial⟩, by decide, Or.inl ⟨rfl, by decide, rfl⟩⟩
set_option maxRecDepth 100000 in
theorem g_X12_orders_0 (S : sT) (call : cT) (n : Nat) (a0 : Nat) (h : pH) : bd S call dflT E_X12_orders (n + 1) 0 [some (.ref a0), none, none] [] h = (pF h (.ref a0) 15 16 (.int 0) (fun h1 => bd S call dflT E_X12_orders n 7 [some (.ref a0), some (.int 0), none] [] h1)) := rfl
set_option maxRecDepth 100000 in
theorem g_X12_orders_7 (S : sT) (call : cT) (n : Nat) (a0 : Nat) (x1 : Int32) (o2 : Option Value) (h : pH) : bd S call dflT E_X12_orders (n + 1) 7 [some (.ref a0), some (.int x1), o2] [] h = (gV h (.ref a0) 15 1 (fun w1 => aI h w1 0 2650 (fun y2 => (if y2 ≤ x1 then some (.inl none, h) else gV h (.ref a0) 15 1 (fun w3 => cI (call 116 [.int x1] h) (fun y5 h4 => aI h4 w3 0 y5 (fun y6 => rC h4 (.ref a0) 15 (cI (call 48 [.ref a0] h4) (fun y8 h7 => (if y6 ≤ y8 then gI h7 (.ref a0) 15 16 (fun y9 => bd S call dflT E_X12_orders n 43 [some (.ref a0), some (.int x1), some (.int y9)] [] h7) else bd S call dflT E_X12_orders n 7 [some (.ref a0), some (.int (x1 + 1)), o2] [] h7)))))))))) := rfl
set_option maxRecDepth 100000 in
theorem g_X12_orders_43 (S : sT) (call : cT) (n : Nat) (a0 : Nat) (x1 : Int32) (x2 : Int32) (h : pH) : bd S call dflT E_X12_orders (n + 1) 43 [some (.ref a0), some (.int x1), some (.int x2)] [] h = ((if x2 ≤ 0 then gV h (.ref a0) 15 15 (fun w1 => sI h w1 0 x2 x1 (fun h2 => gI h2 (.ref a0) 15 16 (fun y3 => pF h2 (.ref a0) 15 16 (.int (y3 + 1)) (fun h4 => bd S call dflT E_X12_orders n 7 [some (.ref a0), some (.int (x1 + 1)), some (.int x2)] [] h4)))) else gV h (.ref a0) 15 1 (fun w5 => gV h (.ref a0) 15 15 (fun w6 => aI h w6 0 (x2 - 1) (fun y7 => cI (call 116 [.int y7] h) (fun y9 h8 => aI h8 w5 0 y9 (fun y10 => gV h8 (.ref a0) 15 1 (fun w11 => cI (call 116 [.int x1] h8) (fun y13 h12 => aI h12 w11 0 y13 (fun y14 => (if y10 ≤ y14 then gV h12 (.ref a0) 15 15 (fun w15 => sI h12 w15 0 x2 x1 (fun h16 => gI h16 (.ref a0) 15 16 (fun y17 => pF h16 (.ref a0) 15 16 (.int (y17 + 1)) (fun h18 => bd S call dflT E_X12_orders n 7 [some (.ref a0), some (.int (x1 + 1)), some (.int x2)] [] h18)))) else gV h12 (.ref a0) 15 15 (fun w19 => gV h12 (.ref a0) 15 15 (fun w20 => aI h12 w20 0 (x2 - 1) (fun y21 => sI h12 w19 0 x2 y21 (fun h22 => bd S call dflT E_X12_orders n 43 [some (.ref a0), some (.int x1), some (.int (x2 + (-1)))] [] h22))))))))))))))) := rfl
theorem dX12_linesOf_0 : decode cX12_linesOf 0 = .ok (.aload_n 0, 1) := by decide +kernel
theorem dX12_linesOf_1 : decode cX12_linesOf 1 = .ok (.getfield 27, 3) := by decide +kernel
theorem dX12_linesOf_4 : decode cX12_linesOf 4 = .ok (.iload_n 1, 1) := by decide +kernel
theorem dX12_linesOf_5 : decode cX12_linesOf 5 = .ok (.invokestatic 140, 3) := by decide +kernel
theorem dX12_linesOf_8 : decode cX12_linesOf 8 = .ok (.iconst 1, 1) := by decide +kernel
theorem dX12_linesOf_9 : decode cX12_linesOf 9 = .ok (.iadd, 1) := by decide +kernel
theorem dX12_linesOf_10 : decode cX12_linesOf 10 = .ok (.iaload, 1) := by decide +kernel
theorem dX12_linesOf_11 : decode cX12_linesOf 11 = .ok (.ireturn, 1) := by decide +kernel
noncomputable def E_X12_linesOf : mE := (mX12_linesOf, [(11, [(0, (.aload_n 0, 1, false, false, 0, 0, 0, 0, 0, 0, [])), (1, (.getfield 27, 4, false, false, 15, 1, 1, 0, 0, 0, [])), (4, (.iload_n 1, 5, false, false, 1, 0, 0, 0, 0, 0, [])), (5, (.invokestatic 140, 8, false, false, 116, 1, 1, 0, 0, 0, [])), (8, (.iconst 1, 9, false, false, 0, 0, 0, 0, 1, 0, [])), (9, (.iadd, 10, false, false, 0, 0, 0, 0, 0, 0, [])), (10, (.iaload, 11, false, false, 0, 0, 0, 0, 0, 0, [])), (11, (.ireturn, 12, false, false, 0, 0, 0, 0, 0, 0, []))])], 0, [])
set_option maxRecDepth 100000 in
theorem v_X12_linesOf : VE MYT dflT E_X12_linesOf := ⟨⟨⟨⟨⟨dX12_linesOf_0, rfl⟩, rfl⟩, ⟨⟨dX12_linesOf_1, rfl⟩, Or.inl ⟨by decide, _, _, fX12_27⟩⟩, ⟨⟨dX12_linesOf_4, rfl⟩, rfl⟩, ⟨⟨dX12_linesOf_5, rfl⟩, Or.inl ⟨rfl, _, my_116, sX12_140⟩⟩, ⟨⟨dX12_linesOf_8, rfl⟩, rfl⟩, ⟨⟨dX12_linesOf_9, rfl⟩, trivial⟩, ⟨⟨dX12_linesOf_10, rfl⟩, trivial⟩, ⟨⟨dX12_linesOf_11, rfl⟩, Or.inl ⟨rfl, rfl⟩⟩, trivial⟩, trivial⟩, by decide, Or.inl ⟨rfl, by decide, rfl⟩⟩
set_option maxRecDepth 100000 in
theorem g_X12_linesOf_0 (S : sT) (call : cT) (n : Nat) (a0 : Nat) (x1 : Int32) (h : pH) : bd S call dflT E_X12_linesOf (n + 1) 0 [some (.ref a0), some (.int x1)] [] h = (gV h (.ref a0) 15 1 (fun w1 => cI (call 116 [.int x1] h) (fun y3 h2 => aI h2 w1 0 (y3 + 1) (fun y4 => some (.inl (some (.int y4)), h2))))) := rfl
theorem dX12_isStruck_0 : decode cX12_isStruck 0 = .ok (.iconst 0, 1) := by decide +kernel
theorem dX12_isStruck_1 : decode cX12_isStruck 1 = .ok (.istore_n 3, 1) := by decide +kernel
theorem dX12_isStruck_2 : decode cX12_isStruck 2 = .ok (.iload_n 1, 1) := by decide +kernel
theorem dX12_isStruck_3 : decode cX12_isStruck 3 = .ok (.iconst 1, 1) := by decide +kernel
theorem dX12_isStruck_4 : decode cX12_isStruck 4 = .ok (.iadd, 1) := by decide +kernel
theorem dX12_isStruck_5 : decode cX12_isStruck 5 = .ok (.istore 4, 2) := by decide +kernel
theorem dX12_isStruck_7 : decode cX12_isStruck 7 = .ok (.iload 4, 2) := by decide +kernel
theorem dX12_isStruck_9 : decode cX12_isStruck 9 = .ok (.aload_n 0, 1) := by decide +kernel
theorem dX12_isStruck_10 : decode cX12_isStruck 10 = .ok (.getfield 296, 3) := by decide +kernel
theorem dX12_isStruck_13 : decode cX12_isStruck 13 = .ok (.if_icmp .ge 89, 3) := by decide +kernel
theorem dX12_isStruck_16 : decode cX12_isStruck 16 = .ok (.iconst 0, 1) := by decide +kernel
theorem dX12_isStruck_17 : decode cX12_isStruck 17 = .ok (.istore 5, 2) := by decide +kernel
theorem dX12_isStruck_19 : decode cX12_isStruck 19 = .ok (.iload 5, 2) := by decide +kernel
theorem dX12_isStruck_21 : decode cX12_isStruck 21 = .ok (.aload_n 0, 1) := by decide +kernel
theorem dX12_isStruck_22 : decode cX12_isStruck 22 = .ok (.aload_n 0, 1) := by decide +kernel
theorem dX12_isStruck_23 : decode cX12_isStruck 23 = .ok (.getfield 52, 3) := by decide +kernel
theorem dX12_isStruck_26 : decode cX12_isStruck 26 = .ok (.iload 4, 2) := by decide +kernel
theorem dX12_isStruck_28 : decode cX12_isStruck 28 = .ok (.iaload, 1) := by decide +kernel
theorem dX12_isStruck_29 : decode cX12_isStruck 29 = .ok (.invokevirtual 299, 3) := by decide +kernel
theorem dX12_isStruck_32 : decode cX12_isStruck 32 = .ok (.if_icmp .ge 64, 3) := by decide +kernel
theorem dX12_isStruck_35 : decode cX12_isStruck 35 = .ok (.iload_n 3, 1) := by decide +kernel
theorem dX12_isStruck_36 : decode cX12_isStruck 36 = .ok (.ifCond .ne 48, 3) := by decide +kernel
theorem dX12_isStruck_39 : decode cX12_isStruck 39 = .ok (.aload_n 0, 1) := by decide +kernel
theorem dX12_isStruck_40 : decode cX12_isStruck 40 = .ok (.getfield 27, 3) := by decide +kernel
theorem dX12_isStruck_43 : decode cX12_isStruck 43 = .ok (.aload_n 0, 1) := by decide +kernel
theorem dX12_isStruck_44 : decode cX12_isStruck 44 = .ok (.getfield 52, 3) := by decide +kernel
theorem dX12_isStruck_47 : decode cX12_isStruck 47 = .ok (.iload 4, 2) := by decide +kernel
theorem dX12_isStruck_49 : decode cX12_isStruck 49 = .ok (.iaload, 1) := by decide +kernel
theorem dX12_isStruck_50 : decode cX12_isStruck 50 = .ok (.iload 5, 2) := by decide +kernel
theorem dX12_isStruck_52 : decode cX12_isStruck 52 = .ok (.invokestatic 275, 3) := by decide +kernel
theorem dX12_isStruck_55 : decode cX12_isStruck 55 = .ok (.iaload, 1) := by decide +kernel
theorem dX12_isStruck_56 : decode cX12_isStruck 56 = .ok (.bipush 16, 2) := by decide +kernel
theorem dX12_isStruck_58 : decode cX12_isStruck 58 = .ok (.if_icmp .ne 30, 3) := by decide +kernel
theorem dX12_isStruck_61 : decode cX12_isStruck 61 = .ok (.aload_n 0, 1) := by decide +kernel
theorem dX12_isStruck_62 : decode cX12_isStruck 62 = .ok (.getfield 27, 3) := by decide +kernel
theorem dX12_isStruck_65 : decode cX12_isStruck 65 = .ok (.aload_n 0, 1) := by decide +kernel
theorem dX12_isStruck_66 : decode cX12_isStruck 66 = .ok (.getfield 52, 3) := by decide +kernel
theorem dX12_isStruck_69 : decode cX12_isStruck 69 = .ok (.iload 4, 2) := by decide +kernel
theorem dX12_isStruck_71 : decode cX12_isStruck 71 = .ok (.iaload, 1) := by decide +kernel
theorem dX12_isStruck_72 : decode cX12_isStruck 72 = .ok (.iload 5, 2) := by decide +kernel
theorem dX12_isStruck_74 : decode cX12_isStruck 74 = .ok (.invokestatic 275, 3) := by decide +kernel
theorem dX12_isStruck_77 : decode cX12_isStruck 77 = .ok (.iconst 2, 1) := by decide +kernel
theorem dX12_isStruck_78 : decode cX12_isStruck 78 = .ok (.iadd, 1) := by decide +kernel
theorem dX12_isStruck_79 : decode cX12_isStruck 79 = .ok (.iaload, 1) := by decide +kernel
theorem dX12_isStruck_80 : decode cX12_isStruck 80 = .ok (.iload_n 2, 1) := by decide +kernel
theorem dX12_isStruck_81 : decode cX12_isStruck 81 = .ok (.if_icmp .ne 7, 3) := by decide +kernel
theorem dX12_isStruck_84 : decode cX12_isStruck 84 = .ok (.iconst 1, 1) := by decide +kernel
theorem dX12_isStruck_85 : decode cX12_isStruck 85 = .ok (.goto 4, 3) := by decide +kernel
theorem dX12_isStruck_88 : decode cX12_isStruck 88 = .ok (.iconst 0, 1) := by decide +kernel
theorem dX12_isStruck_89 : decode cX12_isStruck 89 = .ok (.istore_n 3, 1) := by decide +kernel
theorem dX12_isStruck_90 : decode cX12_isStruck 90 = .ok (.iinc 5 1, 3) := by decide +kernel
theorem dX12_isStruck_93 : decode cX12_isStruck 93 = .ok (.goto (-74), 3) := by decide +kernel
theorem dX12_isStruck_96 : decode cX12_isStruck 96 = .ok (.iinc 4 1, 3) := by decide +kernel
theorem dX12_isStruck_99 : decode cX12_isStruck 99 = .ok (.goto (-92), 3) := by decide +kernel
theorem dX12_isStruck_102 : decode cX12_isStruck 102 = .ok (.iload_n 3, 1) := by decide +kernel
theorem dX12_isStruck_103 : decode cX12_isStruck 103 = .ok (.ireturn, 1) := by decide +kernel
noncomputable def E_X12_isStruck : mE := (mX12_isStruck, [(40, [(0, (.iconst 0, 1, false, false, 0, 0, 0, 0, 0, 0, [])), (1, (.istore_n 3, 2, false, false, 3, 0, 0, 0, 0, 0, [])), (2, (.iload_n 1, 3, false, false, 1, 0, 0, 0, 0, 0, [])), (3, (.iconst 1, 4, false, false, 0, 0, 0, 0, 1, 0, [])), (4, (.iadd, 5, false, false, 0, 0, 0, 0, 0, 0, [])), (5, (.istore 4, 7, true, false, 4, 0, 0, 0, 0, 0, [])), (7, (.iload 4, 9, false, false, 4, 0, 0, 0, 0, 0, [])), (9, (.aload_n 0, 10, false, false, 0, 0, 0, 0, 0, 0, [])), (10, (.getfield 296, 13, false, false, 15, 16, 0, 0, 0, 0, [])), (13, (.if_icmp .ge 89, 16, false, false, 102, 0, 0, 0, 0, 0, [])), (16, (.iconst 0, 17, false, false, 0, 0, 0, 0, 0, 0, [])), (17, (.istore 5, 19, true, false, 5, 0, 0, 0, 0, 0, [])), (19, (.iload 5, 21, false, false, 5, 0, 0, 0, 0, 0, [])), (21, (.aload_n 0, 22, false, false, 0, 0, 0, 0, 0, 0, [])), (22, (.aload_n 0, 23, false, false, 0, 0, 0, 0, 0, 0, [])), (23, (.getfield 52, 26, false, false, 15, 15, 1, 0, 0, 0, [])), (26, (.iload 4, 28, false, false, 4, 0, 0, 0, 0, 0, [])), (28, (.iaload, 29, false, false, 0, 0, 0, 0, 0, 0, [])), (29, (.invokevirtual 299, 32, false, false, 141, 1, 1, 15, 0, 0, [])), (32, (.if_icmp .ge 64, 35, false, false, 96, 0, 0, 0, 0, 0, [])), (35, (.iload_n 3, 36, false, false, 3, 0, 0, 0, 0, 0, [])), (36, (.ifCond .ne 48, 39, false, false, 84, 0, 0, 0, 0, 0, [])), (39, (.aload_n 0, 40, false, false, 0, 0, 0, 0, 0, 0, [])), (40, (.getfield 27, 43, false, false, 15, 1, 1, 0, 0, 0, []))]),
  (85, [(43, (.aload_n 0, 44, false, false, 0, 0, 0, 0, 0, 0, [])), (44, (.getfield 52, 47, false, false, 15, 15, 1, 0, 0, 0, [])), (47, (.iload 4, 49, false, false, 4, 0, 0, 0, 0, 0, [])), (49, (.iaload, 50, false, false, 0, 0, 0, 0, 0, 0, [])), (50, (.iload 5, 52, false, false, 5, 0, 0, 0, 0, 0, [])), (52, (.invokestatic 275, 55, false, false, 117, 2, 1, 0, 0, 0, [])), (55, (.iaload, 56, false, false, 0, 0, 0, 0, 0, 0, [])), (56, (.bipush 16, 58, false, false, 0, 0, 0, 0, 16, 0, [])), (58, (.if_icmp .ne 30, 61, false, false, 88, 0, 0, 0, 0, 0, [])), (61, (.aload_n 0, 62, false, false, 0, 0, 0, 0, 0, 0, [])), (62, (.getfield 27, 65, false, false, 15, 1, 1, 0, 0, 0, [])), (65, (.aload_n 0, 66, false, false, 0, 0, 0, 0, 0, 0, [])), (66, (.getfield 52, 69, false, false, 15, 15, 1, 0, 0, 0, [])), (69, (.iload 4, 71, false, false, 4, 0, 0, 0, 0, 0, [])), (71, (.iaload, 72, false, false, 0, 0, 0, 0, 0, 0, [])), (72, (.iload 5, 74, false, false, 5, 0, 0, 0, 0, 0, [])), (74, (.invokestatic 275, 77, false, false, 117, 2, 1, 0, 0, 0, [])), (77, (.iconst 2, 78, false, false, 0, 0, 0, 0, 2, 0, [])), (78, (.iadd, 79, false, false, 0, 0, 0, 0, 0, 0, [])), (79, (.iaload, 80, false, false, 0, 0, 0, 0, 0, 0, [])), (80, (.iload_n 2, 81, false, false, 2, 0, 0, 0, 0, 0, [])), (81, (.if_icmp .ne 7, 84, false, false, 88, 0, 0, 0, 0, 0, [])), (84, (.iconst 1, 85, false, false, 0, 0, 0, 0, 1, 0, [])), (85, (.goto 4, 88, false, false, 89, 0, 0, 0, 0, 0, []))]),
  (103, [(88, (.iconst 0, 89, false, false, 0, 0, 0, 0, 0, 0, [])), (89, (.istore_n 3, 90, false, false, 3, 0, 0, 0, 0, 0, [])), (90, (.iinc 5 1, 93, false, false, 5, 0, 0, 0, 1, 0, [])), (93, (.goto (-74), 96, false, true, 19, 0, 0, 0, 0, 0, [])), (96, (.iinc 4 1, 99, false, false, 4, 0, 0, 0, 1, 0, [])), (99, (.goto (-92), 102, false, true, 7, 0, 0, 0, 0, 0, [])), (102, (.iload_n 3, 103, false, false, 3, 0, 0, 0, 0, 0, [])), (103, (.ireturn, 104, false, false, 0, 0, 1, 0, 0, 0, []))])], 0, [])
set_option maxRecDepth 100000 in
theorem v_X12_isStruck : VE MYT dflT E_X12_isStruck := ⟨⟨⟨⟨⟨dX12_isStruck_0, rfl⟩, rfl⟩, ⟨⟨dX12_isStruck_1, rfl⟩, rfl⟩, ⟨⟨dX12_isStruck_2, rfl⟩, rfl⟩, ⟨⟨dX12_isStruck_3, rfl⟩, rfl⟩, ⟨⟨dX12_isStruck_4, rfl⟩, trivial⟩, ⟨⟨dX12_isStruck_5, rfl⟩, rfl⟩, ⟨⟨dX12_isStruck_7, rfl⟩, rfl⟩, ⟨⟨dX12_isStruck_9, rfl⟩, rfl⟩, ⟨⟨dX12_isStruck_10, rfl⟩, Or.inl ⟨by decide, _, _, fX12_296⟩⟩, ⟨⟨dX12_isStruck_13, rfl⟩, rfl⟩, ⟨⟨dX12_isStruck_16, rfl⟩, rfl⟩, ⟨⟨dX12_isStruck_17, rfl⟩, rfl⟩, ⟨⟨dX12_isStruck_19, rfl⟩, rfl⟩, ⟨⟨dX12_isStruck_21, rfl⟩, rfl⟩, ⟨⟨dX12_isStruck_22, rfl⟩, rfl⟩, ⟨⟨dX12_isStruck_23, rfl⟩, Or.inl ⟨by decide, _, _, fX12_52⟩⟩, ⟨⟨dX12_isStruck_26, rfl⟩, rfl⟩, ⟨⟨dX12_isStruck_28, rfl⟩, trivial⟩, ⟨⟨dX12_isStruck_29, rfl⟩, Or.inr ⟨by decide, ⟨_, my_141, sX12_299⟩, fun q => absurd q (by decide)⟩⟩, ⟨⟨dX12_isStruck_32, rfl⟩, rfl⟩, ⟨⟨dX12_isStruck_35, rfl⟩, rfl⟩, ⟨⟨dX12_isStruck_36, rfl⟩, rfl⟩, ⟨⟨dX12_isStruck_39, rfl⟩, rfl⟩, ⟨⟨dX12_isStruck_40, rfl⟩, Or.inl ⟨by decide, _, _, fX12_27⟩⟩, trivial⟩,
  ⟨⟨⟨dX12_isStruck_43, rfl⟩, rfl⟩, ⟨⟨dX12_isStruck_44, rfl⟩, Or.inl ⟨by decide, _, _, fX12_52⟩⟩, ⟨⟨dX12_isStruck_47, rfl⟩, rfl⟩, ⟨⟨dX12_isStruck_49, rfl⟩, trivial⟩, ⟨⟨dX12_isStruck_50, rfl⟩, rfl⟩, ⟨⟨dX12_isStruck_52, rfl⟩, Or.inl ⟨rfl, _, my_117, sX12_275⟩⟩, ⟨⟨dX12_isStruck_55, rfl⟩, trivial⟩, ⟨⟨dX12_isStruck_56, rfl⟩, rfl⟩, ⟨⟨dX12_isStruck_58, rfl⟩, rfl⟩, ⟨⟨dX12_isStruck_61, rfl⟩, rfl⟩, ⟨⟨dX12_isStruck_62, rfl⟩, Or.inl ⟨by decide, _, _, fX12_27⟩⟩, ⟨⟨dX12_isStruck_65, rfl⟩, rfl⟩, ⟨⟨dX12_isStruck_66, rfl⟩, Or.inl ⟨by decide, _, _, fX12_52⟩⟩, ⟨⟨dX12_isStruck_69, rfl⟩, rfl⟩, ⟨⟨dX12_isStruck_71, rfl⟩, trivial⟩, ⟨⟨dX12_isStruck_72, rfl⟩, rfl⟩, ⟨⟨dX12_isStruck_74, rfl⟩, Or.inl ⟨rfl, _, my_117, sX12_275⟩⟩, ⟨⟨dX12_isStruck_77, rfl⟩, rfl⟩, ⟨⟨dX12_isStruck_78, rfl⟩, trivial⟩, ⟨⟨dX12_isStruck_79, rfl⟩, trivial⟩, ⟨⟨dX12_isStruck_80, rfl⟩, rfl⟩, ⟨⟨dX12_isStruck_81, rfl⟩, rfl⟩, ⟨⟨dX12_isStruck_84, rfl⟩, rfl⟩, ⟨⟨dX12_isStruck_85, rfl⟩, rfl⟩, trivial⟩,
  ⟨⟨⟨dX12_isStruck_88, rfl⟩, rfl⟩, ⟨⟨dX12_isStruck_89, rfl⟩, rfl⟩, ⟨⟨dX12_isStruck_90, rfl⟩, ⟨rfl, rfl⟩⟩, ⟨⟨dX12_isStruck_93, rfl⟩, rfl⟩, ⟨⟨dX12_isStruck_96, rfl⟩, ⟨rfl, rfl⟩⟩, ⟨⟨dX12_isStruck_99, rfl⟩, rfl⟩, ⟨⟨dX12_isStruck_102, rfl⟩, rfl⟩, ⟨⟨dX12_isStruck_103, rfl⟩, Or.inr (Or.inl ⟨rfl, rfl⟩)⟩, trivial⟩, trivial⟩, by decide, Or.inl ⟨rfl, by decide, rfl⟩⟩
set_option maxRecDepth 100000 in
theorem g_X12_isStruck_0 (S : sT) (call : cT) (n : Nat) (a0 : Nat) (x1 : Int32) (x2 : Int32) (h : pH) : bd S call dflT E_X12_isStruck (n + 1) 0 [some (.ref a0), some (.int x1), some (.int x2), none, none, none] [] h = (bd S call dflT E_X12_isStruck n 7 [some (.ref a0), some (.int x1), some (.int x2), some (.int 0), some (.int (x1 + 1)), none] [] h) := rfl
set_option maxRecDepth 100000 in
theorem g_X12_isStruck_7 (S : sT) (call : cT) (n : Nat) (a0 : Nat) (x1 : Int32) (x2 : Int32) (x3 : Int32) (x4 : Int32) (o5 : Option Value) (h : pH) : bd S call dflT E_X12_isStruck (n + 1) 7 [some (.ref a0), some (.int x1), some (.int x2), some (.int x3), some (.int x4), o5] [] h = (gI h (.ref a0) 15 16 (fun y1 => (if y1 ≤ x4 then zR x3 (some (.inl (some (.int x3)), h)) else bd S call dflT E_X12_isStruck n 19 [some (.ref a0), some (.int x1), some (.int x2), some (.int x3), some (.int x4), some (.int 0)] [] h))) := rfl
set_option maxRecDepth 100000 in
theorem g_X12_isStruck_19 (S : sT) (call : cT) (n : Nat) (a0 : Nat) (x1 : Int32) (x2 : Int32) (x3 : Int32) (x4 : Int32) (x5 : Int32) (h : pH) : bd S call dflT E_X12_isStruck (n + 1) 19 [some (.ref a0), some (.int x1), some (.int x2), some (.int x3), some (.int x4), some (.int x5)] [] h = (gV h (.ref a0) 15 15 (fun w1 => aI h w1 0 x4 (fun y2 => rC h (.ref a0) 15 (cI (call 141 [.ref a0, .int y2] h) (fun y4 h3 => (if y4 ≤ x5 then bd S call dflT E_X12_isStruck n 7 [some (.ref a0), some (.int x1), some (.int x2), some (.int x3), some (.int (x4 + 1)), some (.int x5)] [] h3 else (if x3 = 0 then gV h3 (.ref a0) 15 1 (fun w5 => gV h3 (.ref a0) 15 15 (fun w6 => aI h3 w6 0 x4 (fun y7 => cI (call 117 [.int y7, .int x5] h3) (fun y9 h8 => aI h8 w5 0 y9 (fun y10 => (if y10 = 16 then gV h8 (.ref a0) 15 1 (fun w11 => gV h8 (.ref a0) 15 15 (fun w12 => aI h8 w12 0 x4 (fun y13 => cI (call 117 [.int y13, .int x5] h8) (fun y15 h14 => aI h14 w11 0 (y15 + 2) (fun y16 => (if y16 = x2 then bd S call dflT E_X12_isStruck n 19 [some (.ref a0), some (.int x1), some (.int x2), some (.int 1), some (.int x4), some (.int (x5 + 1))] [] h14 else bd S call dflT E_X12_isStruck n 19 [some (.ref a0), some (.int x1), some (.int x2), some (.int 0), some (.int x4), some (.int (x5 + 1))] [] h14)))))) else bd S call dflT E_X12_isStruck n 19 [some (.ref a0), some (.int x1), some (.int x2), some (.int 0), some (.int x4), some (.int (x5 + 1))] [] h8)))))) else bd S call dflT E_X12_isStruck n 19 [some (.ref a0), some (.int x1), some (.int x2), some (.int 1), some (.int x4), some (.int (x5 + 1))] [] h3))))))) := rfl
theorem dX12_isLine_0 : decode cX12_isLine 0 = .ok (.aload_n 0, 1) := by decide +kernel
theorem dX12_isLine_1 : decode cX12_isLine 1 = .ok (.getfield 27, 3) := by decide +kernel
theorem dX12_isLine_4 : decode cX12_isLine 4 = .ok (.aload_n 0, 1) := by decide +kernel
theorem dX12_isLine_5 : decode cX12_isLine 5 = .ok (.getfield 52, 3) := by decide +kernel
theorem dX12_isLine_8 : decode cX12_isLine 8 = .ok (.iload_n 1, 1) := by decide +kernel
theorem dX12_isLine_9 : decode cX12_isLine 9 = .ok (.iaload, 1) := by decide +kernel
theorem dX12_isLine_10 : decode cX12_isLine 10 = .ok (.iload_n 2, 1) := by decide +kernel
theorem dX12_isLine_11 : decode cX12_isLine 11 = .ok (.invokestatic 275, 3) := by decide +kernel
theorem dX12_isLine_14 : decode cX12_isLine 14 = .ok (.iaload, 1) := by decide +kernel
theorem dX12_isLine_15 : decode cX12_isLine 15 = .ok (.iload_n 3, 1) := by decide +kernel
theorem dX12_isLine_16 : decode cX12_isLine 16 = .ok (.if_icmp .ne 16, 3) := by decide +kernel
theorem dX12_isLine_19 : decode cX12_isLine 19 = .ok (.aload_n 0, 1) := by decide +kernel
theorem dX12_isLine_20 : decode cX12_isLine 20 = .ok (.iload_n 1, 1) := by decide +kernel
theorem dX12_isLine_21 : decode cX12_isLine 21 = .ok (.iload_n 3, 1) := by decide +kernel
theorem dX12_isLine_22 : decode cX12_isLine 22 = .ok (.invokevirtual 302, 3) := by decide +kernel
theorem dX12_isLine_25 : decode cX12_isLine 25 = .ok (.ifCond .ne 7, 3) := by decide +kernel
theorem dX12_isLine_28 : decode cX12_isLine 28 = .ok (.iconst 1, 1) := by decide +kernel
theorem dX12_isLine_29 : decode cX12_isLine 29 = .ok (.goto 4, 3) := by decide +kernel
theorem dX12_isLine_32 : decode cX12_isLine 32 = .ok (.iconst 0, 1) := by decide +kernel
theorem dX12_isLine_33 : decode cX12_isLine 33 = .ok (.ireturn, 1) := by decide +kernel
noncomputable def E_X12_isLine : mE := (mX12_isLine, [(33, [(0, (.aload_n 0, 1, false, false, 0, 0, 0, 0, 0, 0, [])), (1, (.getfield 27, 4, false, false, 15, 1, 1, 0, 0, 0, [])), (4, (.aload_n 0, 5, false, false, 0, 0, 0, 0, 0, 0, [])), (5, (.getfield 52, 8, false, false, 15, 15, 1, 0, 0, 0, [])), (8, (.iload_n 1, 9, false, false, 1, 0, 0, 0, 0, 0, [])), (9, (.iaload, 10, false, false, 0, 0, 0, 0, 0, 0, [])), (10, (.iload_n 2, 11, false, false, 2, 0, 0, 0, 0, 0, [])), (11, (.invokestatic 275, 14, false, false, 117, 2, 1, 0, 0, 0, [])), (14, (.iaload, 15, false, false, 0, 0, 0, 0, 0, 0, [])), (15, (.iload_n 3, 16, false, false, 3, 0, 0, 0, 0, 0, [])), (16, (.if_icmp .ne 16, 19, false, false, 32, 0, 0, 0, 0, 0, [])), (19, (.aload_n 0, 20, false, false, 0, 0, 0, 0, 0, 0, [])), (20, (.iload_n 1, 21, false, false, 1, 0, 0, 0, 0, 0, [])), (21, (.iload_n 3, 22, false, false, 3, 0, 0, 0, 0, 0, [])), (22, (.invokevirtual 302, 25, false, false, 142, 2, 1, 15, 0, 0, [])), (25, (.ifCond .ne 7, 28, false, false, 32, 0, 0, 0, 0, 0, [])), (28, (.iconst 1, 29, false, false, 0, 0, 0, 0, 1, 0, [])), (29, (.goto 4, 32, false, false, 33, 0, 0, 0, 0, 0, [])), (32, (.iconst 0, 33, false, false, 0, 0, 0, 0, 0, 0, [])), (33, (.ireturn, 34, false, false, 0, 0, 1, 0, 0, 0, []))])], 0, [])
set_option maxRecDepth 100000 in
theorem v_X12_isLine : VE MYT dflT E_X12_isLine := ⟨⟨⟨⟨⟨dX12_isLine_0, rfl⟩, rfl⟩, ⟨⟨dX12_isLine_1, rfl⟩, Or.inl ⟨by decide, _, _, fX12_27⟩⟩, ⟨⟨dX12_isLine_4, rfl⟩, rfl⟩, ⟨⟨dX12_isLine_5, rfl⟩, Or.inl ⟨by decide, _, _, fX12_52⟩⟩, ⟨⟨dX12_isLine_8, rfl⟩, rfl⟩, ⟨⟨dX12_isLine_9, rfl⟩, trivial⟩, ⟨⟨dX12_isLine_10, rfl⟩, rfl⟩, ⟨⟨dX12_isLine_11, rfl⟩, Or.inl ⟨rfl, _, my_117, sX12_275⟩⟩, ⟨⟨dX12_isLine_14, rfl⟩, trivial⟩, ⟨⟨dX12_isLine_15, rfl⟩, rfl⟩, ⟨⟨dX12_isLine_16, rfl⟩, rfl⟩, ⟨⟨dX12_isLine_19, rfl⟩, rfl⟩, ⟨⟨dX12_isLine_20, rfl⟩, rfl⟩, ⟨⟨dX12_isLine_21, rfl⟩, rfl⟩, ⟨⟨dX12_isLine_22, rfl⟩, Or.inr ⟨by decide, ⟨_, my_142, sX12_302⟩, fun q => absurd q (by decide)⟩⟩, ⟨⟨dX12_isLine_25, rfl⟩, rfl⟩, ⟨⟨dX12_isLine_28, rfl⟩, rfl⟩, ⟨⟨dX12_isLine_29, rfl⟩, rfl⟩, ⟨⟨dX12_isLine_32, rfl⟩, rfl⟩, ⟨⟨dX12_isLine_33, rfl⟩, Or.inr (Or.inl ⟨rfl, rfl⟩)⟩, trivial⟩, trivial⟩, by decide, Or.inl ⟨rfl, by decide, rfl⟩⟩
set_option maxRecDepth 100000 in
theorem g_X12_isLine_0 (S : sT) (call : cT) (n : Nat) (a0 : Nat) (x1 : Int32) (x2 : Int32) (x3 : Int32) (h : pH) : bd S call dflT E_X12_isLine (n + 1) 0 [some (.ref a0), some (.int x1), some (.int x2), some (.int x3)] [] h = (gV h (.ref a0) 15 1 (fun w1 => gV h (.ref a0) 15 15 (fun w2 => aI h w2 0 x1 (fun y3 => cI (call 117 [.int y3, .int x2] h) (fun y5 h4 => aI h4 w1 0 y5 (fun y6 => (if y6 = x3 then rC h4 (.ref a0) 15 (cI (call 142 [.ref a0, .int x1, .int x3] h4) (fun y8 h7 => (if y8 = 0 then zR 1 (some (.inl (some (.int 1)), h7)) else zR 0 (some (.inl (some (.int 0)), h7))))) else zR 0 (some (.inl (some (.int 0)), h4))))))))) := rfl
theorem dX12_lastLine_0 : decode cX12_lastLine 0 = .ok (.aload_n 0, 1) := by decide +kernel
theorem dX12_lastLine_1 : decode cX12_lastLine 1 = .ok (.invokevirtual 305, 3) := by decide +kernel
theorem dX12_lastLine_4 : decode cX12_lastLine 4 = .ok (.iconst (-1), 1) := by decide +kernel
theorem dX12_lastLine_5 : decode cX12_lastLine 5 = .ok (.istore_n 3, 1) := by decide +kernel
theorem dX12_lastLine_6 : decode cX12_lastLine 6 = .ok (.iconst 0, 1) := by decide +kernel
theorem dX12_lastLine_7 : decode cX12_lastLine 7 = .ok (.istore 4, 2) := by decide +kernel
theorem dX12_lastLine_9 : decode cX12_lastLine 9 = .ok (.iload 4, 2) := by decide +kernel
theorem dX12_lastLine_11 : decode cX12_lastLine 11 = .ok (.aload_n 0, 1) := by decide +kernel
theorem dX12_lastLine_12 : decode cX12_lastLine 12 = .ok (.getfield 296, 3) := by decide +kernel
theorem dX12_lastLine_15 : decode cX12_lastLine 15 = .ok (.if_icmp .ge 89, 3) := by decide +kernel
theorem dX12_lastLine_18 : decode cX12_lastLine 18 = .ok (.iconst 0, 1) := by decide +kernel
theorem dX12_lastLine_19 : decode cX12_lastLine 19 = .ok (.istore 5, 2) := by decide +kernel
theorem dX12_lastLine_21 : decode cX12_lastLine 21 = .ok (.iload 5, 2) := by decide +kernel
theorem dX12_lastLine_23 : decode cX12_lastLine 23 = .ok (.aload_n 0, 1) := by decide +kernel
theorem dX12_lastLine_24 : decode cX12_lastLine 24 = .ok (.aload_n 0, 1) := by decide +kernel
theorem dX12_lastLine_25 : decode cX12_lastLine 25 = .ok (.getfield 52, 3) := by decide +kernel
theorem dX12_lastLine_28 : decode cX12_lastLine 28 = .ok (.iload 4, 2) := by decide +kernel
theorem dX12_lastLine_30 : decode cX12_lastLine 30 = .ok (.iaload, 1) := by decide +kernel
theorem dX12_lastLine_31 : decode cX12_lastLine 31 = .ok (.invokevirtual 299, 3) := by decide +kernel
theorem dX12_lastLine_34 : decode cX12_lastLine 34 = .ok (.if_icmp .ge 64, 3) := by decide +kernel
theorem dX12_lastLine_37 : decode cX12_lastLine 37 = .ok (.aload_n 0, 1) := by decide +kernel
theorem dX12_lastLine_38 : decode cX12_lastLine 38 = .ok (.iload 4, 2) := by decide +kernel
theorem dX12_lastLine_40 : decode cX12_lastLine 40 = .ok (.iload 5, 2) := by decide +kernel
theorem dX12_lastLine_42 : decode cX12_lastLine 42 = .ok (.iload_n 1, 1) := by decide +kernel
theorem dX12_lastLine_43 : decode cX12_lastLine 43 = .ok (.invokevirtual 308, 3) := by decide +kernel
theorem dX12_lastLine_46 : decode cX12_lastLine 46 = .ok (.ifCond .eq 46, 3) := by decide +kernel
theorem dX12_lastLine_49 : decode cX12_lastLine 49 = .ok (.iload_n 1, 1) := by decide +kernel
theorem dX12_lastLine_50 : decode cX12_lastLine 50 = .ok (.bipush 14, 2) := by decide +kernel
theorem dX12_lastLine_52 : decode cX12_lastLine 52 = .ok (.if_icmp .ne 26, 3) := by decide +kernel
theorem dX12_lastLine_55 : decode cX12_lastLine 55 = .ok (.aload_n 0, 1) := by decide +kernel
theorem dX12_lastLine_56 : decode cX12_lastLine 56 = .ok (.getfield 27, 3) := by decide +kernel
theorem dX12_lastLine_59 : decode cX12_lastLine 59 = .ok (.aload_n 0, 1) := by decide +kernel
theorem dX12_lastLine_60 : decode cX12_lastLine 60 = .ok (.getfield 52, 3) := by decide +kernel
theorem dX12_lastLine_63 : decode cX12_lastLine 63 = .ok (.iload 4, 2) := by decide +kernel
theorem dX12_lastLine_65 : decode cX12_lastLine 65 = .ok (.iaload, 1) := by decide +kernel
theorem dX12_lastLine_66 : decode cX12_lastLine 66 = .ok (.iload 5, 2) := by decide +kernel
theorem dX12_lastLine_68 : decode cX12_lastLine 68 = .ok (.invokestatic 275, 3) := by decide +kernel
theorem dX12_lastLine_71 : decode cX12_lastLine 71 = .ok (.iconst 2, 1) := by decide +kernel
theorem dX12_lastLine_72 : decode cX12_lastLine 72 = .ok (.iadd, 1) := by decide +kernel
theorem dX12_lastLine_73 : decode cX12_lastLine 73 = .ok (.iaload, 1) := by decide +kernel
theorem dX12_lastLine_74 : decode cX12_lastLine 74 = .ok (.iload_n 2, 1) := by decide +kernel
theorem dX12_lastLine_75 : decode cX12_lastLine 75 = .ok (.if_icmp .ne 17, 3) := by decide +kernel
theorem dX12_lastLine_78 : decode cX12_lastLine 78 = .ok (.bipush 16, 2) := by decide +kernel
theorem dX12_lastLine_80 : decode cX12_lastLine 80 = .ok (.aload_n 0, 1) := by decide +kernel
theorem dX12_lastLine_81 : decode cX12_lastLine 81 = .ok (.getfield 52, 3) := by decide +kernel
theorem dX12_lastLine_84 : decode cX12_lastLine 84 = .ok (.iload 4, 2) := by decide +kernel
theorem dX12_lastLine_86 : decode cX12_lastLine 86 = .ok (.iaload, 1) := by decide +kernel
theorem dX12_lastLine_87 : decode cX12_lastLine 87 = .ok (.imul, 1) := by decide +kernel
theorem dX12_lastLine_88 : decode cX12_lastLine 88 = .ok (.iload 5, 2) := by decide +kernel
theorem dX12_lastLine_90 : decode cX12_lastLine 90 = .ok (.iadd, 1) := by decide +kernel
theorem dX12_lastLine_91 : decode cX12_lastLine 91 = .ok (.istore_n 3, 1) := by decide +kernel
theorem dX12_lastLine_92 : decode cX12_lastLine 92 = .ok (.iinc 5 1, 3) := by decide +kernel
theorem dX12_lastLine_95 : decode cX12_lastLine 95 = .ok (.goto (-74), 3) := by decide +kernel
theorem dX12_lastLine_98 : decode cX12_lastLine 98 = .ok (.iinc 4 1, 3) := by decide +kernel
theorem dX12_lastLine_101 : decode cX12_lastLine 101 = .ok (.goto (-92), 3) := by decide +kernel
theorem dX12_lastLine_104 : decode cX12_lastLine 104 = .ok (.iload_n 3, 1) := by decide +kernel
theorem dX12_lastLine_105 : decode cX12_lastLine 105 = .ok (.ireturn, 1) := by decide +kernel
noncomputable def E_X12_lastLine : mE := (mX12_lastLine, [(42, [(0, (.aload_n 0, 1, false, false, 0, 0, 0, 0, 0, 0, [])), (1, (.invokevirtual 305, 4, false, false, 140, 0, 0, 15, 0, 0, [])), (4, (.iconst (-1), 5, false, false, 0, 0, 0, 0, -1, 0, [])), (5, (.istore_n 3, 6, false, false, 3, 0, 0, 0, 0, 0, [])), (6, (.iconst 0, 7, false, false, 0, 0, 0, 0, 0, 0, [])), (7, (.istore 4, 9, true, false, 4, 0, 0, 0, 0, 0, [])), (9, (.iload 4, 11, false, false, 4, 0, 0, 0, 0, 0, [])), (11, (.aload_n 0, 12, false, false, 0, 0, 0, 0, 0, 0, [])), (12, (.getfield 296, 15, false, false, 15, 16, 0, 0, 0, 0, [])), (15, (.if_icmp .ge 89, 18, false, false, 104, 0, 0, 0, 0, 0, [])), (18, (.iconst 0, 19, false, false, 0, 0, 0, 0, 0, 0, [])), (19, (.istore 5, 21, true, false, 5, 0, 0, 0, 0, 0, [])), (21, (.iload 5, 23, false, false, 5, 0, 0, 0, 0, 0, [])), (23, (.aload_n 0, 24, false, false, 0, 0, 0, 0, 0, 0, [])), (24, (.aload_n 0, 25, false, false, 0, 0, 0, 0, 0, 0, [])), (25, (.getfield 52, 28, false, false, 15, 15, 1, 0, 0, 0, [])), (28, (.iload 4, 30, false, false, 4, 0, 0, 0, 0, 0, [])), (30, (.iaload, 31, false, false, 0, 0, 0, 0, 0, 0, [])), (31, (.invokevirtual 299, 34, false, false, 141, 1, 1, 15, 0, 0, [])), (34, (.if_icmp .ge 64, 37, false, false, 98, 0, 0, 0, 0, 0, [])), (37, (.aload_n 0, 38, false, false, 0, 0, 0, 0, 0, 0, [])), (38, (.iload 4, 40, false, false, 4, 0, 0, 0, 0, 0, [])), (40, (.iload 5, 42, false, false, 5, 0, 0, 0, 0, 0, [])), (42, (.iload_n 1, 43, false, false, 1, 0, 0, 0, 0, 0, []))]),
  (87, [(43, (.invokevirtual 308, 46, false, false, 143, 3, 1, 15, 0, 0, [])), (46, (.ifCond .eq 46, 49, false, false, 92, 0, 0, 0, 0, 0, [])), (49, (.iload_n 1, 50, false, false, 1, 0, 0, 0, 0, 0, [])), (50, (.bipush 14, 52, false, false, 0, 0, 0, 0, 14, 0, [])), (52, (.if_icmp .ne 26, 55, false, false, 78, 0, 0, 0, 0, 0, [])), (55, (.aload_n 0, 56, false, false, 0, 0, 0, 0, 0, 0, [])), (56, (.getfield 27, 59, false, false, 15, 1, 1, 0, 0, 0, [])), (59, (.aload_n 0, 60, false, false, 0, 0, 0, 0, 0, 0, [])), (60, (.getfield 52, 63, false, false, 15, 15, 1, 0, 0, 0, [])), (63, (.iload 4, 65, false, false, 4, 0, 0, 0, 0, 0, [])), (65, (.iaload, 66, false, false, 0, 0, 0, 0, 0, 0, [])), (66, (.iload 5, 68, false, false, 5, 0, 0, 0, 0, 0, [])), (68, (.invokestatic 275, 71, false, false, 117, 2, 1, 0, 0, 0, [])), (71, (.iconst 2, 72, false, false, 0, 0, 0, 0, 2, 0, [])), (72, (.iadd, 73, false, false, 0, 0, 0, 0, 0, 0, [])), (73, (.iaload, 74, false, false, 0, 0, 0, 0, 0, 0, [])), (74, (.iload_n 2, 75, false, false, 2, 0, 0, 0, 0, 0, [])), (75, (.if_icmp .ne 17, 78, false, false, 92, 0, 0, 0, 0, 0, [])), (78, (.bipush 16, 80, false, false, 0, 0, 0, 0, 16, 0, [])), (80, (.aload_n 0, 81, false, false, 0, 0, 0, 0, 0, 0, [])), (81, (.getfield 52, 84, false, false, 15, 15, 1, 0, 0, 0, [])), (84, (.iload 4, 86, false, false, 4, 0, 0, 0, 0, 0, [])), (86, (.iaload, 87, false, false, 0, 0, 0, 0, 0, 0, [])), (87, (.imul, 88, false, false, 0, 0, 0, 0, 0, 0, []))]),
  (105, [(88, (.iload 5, 90, false, false, 5, 0, 0, 0, 0, 0, [])), (90, (.iadd, 91, false, false, 0, 0, 0, 0, 0, 0, [])), (91, (.istore_n 3, 92, false, false, 3, 0, 0, 0, 0, 0, [])), (92, (.iinc 5 1, 95, false, false, 5, 0, 0, 0, 1, 0, [])), (95, (.goto (-74), 98, false, true, 21, 0, 0, 0, 0, 0, [])), (98, (.iinc 4 1, 101, false, false, 4, 0, 0, 0, 1, 0, [])), (101, (.goto (-92), 104, false, true, 9, 0, 0, 0, 0, 0, [])), (104, (.iload_n 3, 105, false, false, 3, 0, 0, 0, 0, 0, [])), (105, (.ireturn, 106, false, false, 0, 0, 0, 0, 0, 0, []))])], 0, [])
set_option maxRecDepth 100000 in
theorem v_X12_lastLine : VE MYT dflT E_X12_lastLine := ⟨⟨⟨⟨⟨dX12_lastLine_0, rfl⟩, rfl⟩, ⟨⟨dX12_lastLine_1, rfl⟩, Or.inr ⟨by decide, ⟨_, my_140, sX12_305⟩, fun q => absurd q (by decide)⟩⟩, ⟨⟨dX12_lastLine_4, rfl⟩, rfl⟩, ⟨⟨dX12_lastLine_5, rfl⟩, rfl⟩, ⟨⟨dX12_lastLine_6, rfl⟩, rfl⟩, ⟨⟨dX12_lastLine_7, rfl⟩, rfl⟩, ⟨⟨dX12_lastLine_9, rfl⟩, rfl⟩, ⟨⟨dX12_lastLine_11, rfl⟩, rfl⟩, ⟨⟨dX12_lastLine_12, rfl⟩, Or.inl ⟨by decide, _, _, fX12_296⟩⟩, ⟨⟨dX12_lastLine_15, rfl⟩, rfl⟩, ⟨⟨dX12_lastLine_18, rfl⟩, rfl⟩, ⟨⟨dX12_lastLine_19, rfl⟩, rfl⟩, ⟨⟨dX12_lastLine_21, rfl⟩, rfl⟩, ⟨⟨dX12_lastLine_23, rfl⟩, rfl⟩, ⟨⟨dX12_lastLine_24, rfl⟩, rfl⟩, ⟨⟨dX12_lastLine_25, rfl⟩, Or.inl ⟨by decide, _, _, fX12_52⟩⟩, ⟨⟨dX12_lastLine_28, rfl⟩, rfl⟩, ⟨⟨dX12_lastLine_30, rfl⟩, trivial⟩, ⟨⟨dX12_lastLine_31, rfl⟩, Or.inr ⟨by decide, ⟨_, my_141, sX12_299⟩, fun q => absurd q (by decide)⟩⟩, ⟨⟨dX12_lastLine_34, rfl⟩, rfl⟩, ⟨⟨dX12_lastLine_37, rfl⟩, rfl⟩, ⟨⟨dX12_lastLine_38, rfl⟩, rfl⟩, ⟨⟨dX12_lastLine_40, rfl⟩, rfl⟩, ⟨⟨dX12_lastLine_42, rfl⟩, rfl⟩, trivial⟩,
  ⟨⟨⟨dX12_lastLine_43, rfl⟩, Or.inr ⟨by decide, ⟨_, my_143, sX12_308⟩, fun q => absurd q (by decide)⟩⟩, ⟨⟨dX12_lastLine_46, rfl⟩, rfl⟩, ⟨⟨dX12_lastLine_49, rfl⟩, rfl⟩, ⟨⟨dX12_lastLine_50, rfl⟩, rfl⟩, ⟨⟨dX12_lastLine_52, rfl⟩, rfl⟩, ⟨⟨dX12_lastLine_55, rfl⟩, rfl⟩, ⟨⟨dX12_lastLine_56, rfl⟩, Or.inl ⟨by decide, _, _, fX12_27⟩⟩, ⟨⟨dX12_lastLine_59, rfl⟩, rfl⟩, ⟨⟨dX12_lastLine_60, rfl⟩, Or.inl ⟨by decide, _, _, fX12_52⟩⟩, ⟨⟨dX12_lastLine_63, rfl⟩, rfl⟩, ⟨⟨dX12_lastLine_65, rfl⟩, trivial⟩, ⟨⟨dX12_lastLine_66, rfl⟩, rfl⟩, ⟨⟨dX12_lastLine_68, rfl⟩, Or.inl ⟨rfl, _, my_117, sX12_275⟩⟩, ⟨⟨dX12_lastLine_71, rfl⟩, rfl⟩, ⟨⟨dX12_lastLine_72, rfl⟩, trivial⟩, ⟨⟨dX12_lastLine_73, rfl⟩, trivial⟩, ⟨⟨dX12_lastLine_74, rfl⟩, rfl⟩, ⟨⟨dX12_lastLine_75, rfl⟩, rfl⟩, ⟨⟨dX12_lastLine_78, rfl⟩, rfl⟩, ⟨⟨dX12_lastLine_80, rfl⟩, rfl⟩, ⟨⟨dX12_lastLine_81, rfl⟩, Or.inl ⟨by decide, _, _, fX12_52⟩⟩, ⟨⟨dX12_lastLine_84, rfl⟩, rfl⟩, ⟨⟨dX12_lastLine_86, rfl⟩, trivial⟩, ⟨⟨dX12_lastLine_87, rfl⟩, trivial⟩, trivial⟩,
  ⟨⟨⟨dX12_lastLine_88, rfl⟩, rfl⟩, ⟨⟨dX12_lastLine_90, rfl⟩, trivial⟩, ⟨⟨dX12_lastLine_91, rfl⟩, rfl⟩, ⟨⟨dX12_lastLine_92, rfl⟩, ⟨rfl, rfl⟩⟩, ⟨⟨dX12_lastLine_95, rfl⟩, rfl⟩, ⟨⟨dX12_lastLine_98, rfl⟩, ⟨rfl, rfl⟩⟩, ⟨⟨dX12_lastLine_101, rfl⟩, rfl⟩, ⟨⟨dX12_lastLine_104, rfl⟩, rfl⟩, ⟨⟨dX12_lastLine_105, rfl⟩, Or.inl ⟨rfl, rfl⟩⟩, trivial⟩, trivial⟩, by decide, Or.inl ⟨rfl, by decide, rfl⟩⟩
set_option maxRecDepth 100000 in
theorem g_X12_lastLine_0 (S : sT) (call : cT) (n : Nat) (a0 : Nat) (x1 : Int32) (x2 : Int32) (h : pH) : bd S call dflT E_X12_lastLine (n + 1) 0 [some (.ref a0), some (.int x1), some (.int x2), none, none, none] [] h = (rC h (.ref a0) 15 (cU (call 140 [.ref a0] h) (fun h1 => bd S call dflT E_X12_lastLine n 9 [some (.ref a0), some (.int x1), some (.int x2), some (.int (-1)), some (.int 0), none] [] h1))) := rfl
set_option maxRecDepth 100000 in
theorem g_X12_lastLine_9 (S : sT) (call : cT) (n : Nat) (a0 : Nat) (x1 : Int32) (x2 : Int32) (x3 : Int32) (x4 : Int32) (o5 : Option Value) (h : pH) : bd S call dflT E_X12_lastLine (n + 1) 9 [some (.ref a0), some (.int x1), some (.int x2), some (.int x3), some (.int x4), o5] [] h = (gI h (.ref a0) 15 16 (fun y1 => (if y1 ≤ x4 then some (.inl (some (.int x3)), h) else bd S call dflT E_X12_lastLine n 21 [some (.ref a0), some (.int x1), some (.int x2), some (.int x3), some (.int x4), some (.int 0)] [] h))) := rfl
set_option maxRecDepth 100000 in
theorem g_X12_lastLine_21 (S : sT) (call : cT) (n : Nat) (a0 : Nat) (x1 : Int32) (x2 : Int32) (x3 : Int32) (x4 : Int32) (x5 : Int32) (h : pH) : bd S call dflT E_X12_lastLine (n + 1) 21 [some (.ref a0), some (.int x1), some (.int x2), some (.int x3), some (.int x4), some (.int x5)] [] h = (gV h (.ref a0) 15 15 (fun w1 => aI h w1 0 x4 (fun y2 => rC h (.ref a0) 15 (cI (call 141 [.ref a0, .int y2] h) (fun y4 h3 => (if y4 ≤ x5 then bd S call dflT E_X12_lastLine n 9 [some (.ref a0), some (.int x1), some (.int x2), some (.int x3), some (.int (x4 + 1)), some (.int x5)] [] h3 else rC h3 (.ref a0) 15 (cI (call 143 [.ref a0, .int x4, .int x5, .int x1] h3) (fun y6 h5 => (if y6 = 0 then bd S call dflT E_X12_lastLine n 21 [some (.ref a0), some (.int x1), some (.int x2), some (.int x3), some (.int x4), some (.int (x5 + 1))] [] h5 else (if x1 = 14 then gV h5 (.ref a0) 15 1 (fun w9 => gV h5 (.ref a0) 15 15 (fun w10 => aI h5 w10 0 x4 (fun y11 => cI (call 117 [.int y11, .int x5] h5) (fun y13 h12 => aI h12 w9 0 (y13 + 2) (fun y14 => (if y14 = x2 then gV h12 (.ref a0) 15 15 (fun w15 => aI h12 w15 0 x4 (fun y16 => bd S call dflT E_X12_lastLine n 21 [some (.ref a0), some (.int x1), some (.int x2), some (.int ((16 * y16) + x5)), some (.int x4), some (.int (x5 + 1))] [] h12)) else bd S call dflT E_X12_lastLine n 21 [some (.ref a0), some (.int x1), some (.int x2), some (.int x3), some (.int x4), some (.int (x5 + 1))] [] h12)))))) else gV h5 (.ref a0) 15 15 (fun w7 => aI h5 w7 0 x4 (fun y8 => bd S call dflT E_X12_lastLine n 21 [some (.ref a0), some (.int x1), some (.int x2), some (.int ((16 * y8) + x5)), some (.int x4), some (.int (x5 + 1))] [] h5)))))))))))) := rfl
theorem dX12_numberOf_0 : decode cX12_numberOf 0 = .ok (.iload_n 1, 1) := by decide +kernel
theorem dX12_numberOf_1 : decode cX12_numberOf 1 = .ok (.ifCond .ge 7, 3) := by decide +kernel
theorem dX12_numberOf_4 : decode cX12_numberOf 4 = .ok (.iconst 0, 1) := by decide +kernel
theorem dX12_numberOf_5 : decode cX12_numberOf 5 = .ok (.goto 21, 3) := by decide +kernel
theorem dX12_numberOf_8 : decode cX12_numberOf 8 = .ok (.aload_n 0, 1) := by decide +kernel
theorem dX12_numberOf_9 : decode cX12_numberOf 9 = .ok (.getfield 27, 3) := by decide +kernel
theorem dX12_numberOf_12 : decode cX12_numberOf 12 = .ok (.iload_n 1, 1) := by decide +kernel
theorem dX12_numberOf_13 : decode cX12_numberOf 13 = .ok (.bipush 16, 2) := by decide +kernel
theorem dX12_numberOf_15 : decode cX12_numberOf 15 = .ok (.idiv, 1) := by decide +kernel
theorem dX12_numberOf_16 : decode cX12_numberOf 16 = .ok (.iload_n 1, 1) := by decide +kernel
theorem dX12_numberOf_17 : decode cX12_numberOf 17 = .ok (.bipush 16, 2) := by decide +kernel
theorem dX12_numberOf_19 : decode cX12_numberOf 19 = .ok (.irem, 1) := by decide +kernel
theorem dX12_numberOf_20 : decode cX12_numberOf 20 = .ok (.invokestatic 275, 3) := by decide +kernel
theorem dX12_numberOf_23 : decode cX12_numberOf 23 = .ok (.iconst 1, 1) := by decide +kernel
theorem dX12_numberOf_24 : decode cX12_numberOf 24 = .ok (.iadd, 1) := by decide +kernel
theorem dX12_numberOf_25 : decode cX12_numberOf 25 = .ok (.iaload, 1) := by decide +kernel
theorem dX12_numberOf_26 : decode cX12_numberOf 26 = .ok (.ireturn, 1) := by decide +kernel
noncomputable def E_X12_numberOf : mE := (mX12_numberOf, [(26, [(0, (.iload_n 1, 1, false, false, 1, 0, 0, 0, 0, 0, [])), (1, (.ifCond .ge 7, 4, false, false, 8, 0, 0, 0, 0, 0, [])), (4, (.iconst 0, 5, false, false, 0, 0, 0, 0, 0, 0, [])), (5, (.goto 21, 8, false, false, 26, 0, 0, 0, 0, 0, [])), (8, (.aload_n 0, 9, false, false, 0, 0, 0, 0, 0, 0, [])), (9, (.getfield 27, 12, false, false, 15, 1, 1, 0, 0, 0, [])), (12, (.iload_n 1, 13, false, false, 1, 0, 0, 0, 0, 0, [])), (13, (.bipush 16, 15, false, false, 0, 0, 0, 0, 16, 0, [])), (15, (.idiv, 16, false, false, 0, 0, 0, 0, 0, 0, [])), (16, (.iload_n 1, 17, false, false, 1, 0, 0, 0, 0, 0, [])), (17, (.bipush 16, 19, false, false, 0, 0, 0, 0, 16, 0, [])), (19, (.irem, 20, false, false, 0, 0, 0, 0, 0, 0, [])), (20, (.invokestatic 275, 23, false, false, 117, 2, 1, 0, 0, 0, [])), (23, (.iconst 1, 24, false, false, 0, 0, 0, 0, 1, 0, [])), (24, (.iadd, 25, false, false, 0, 0, 0, 0, 0, 0, [])), (25, (.iaload, 26, false, false, 0, 0, 0, 0, 0, 0, [])), (26, (.ireturn, 27, false, false, 0, 0, 0, 0, 0, 0, []))])], 0, [])
set_option maxRecDepth 100000 in
theorem v_X12_numberOf : VE MYT dflT E_X12_numberOf := ⟨⟨⟨⟨⟨dX12_numberOf_0, rfl⟩, rfl⟩, ⟨⟨dX12_numberOf_1, rfl⟩, rfl⟩, ⟨⟨dX12_numberOf_4, rfl⟩, rfl⟩, ⟨⟨dX12_numberOf_5, rfl⟩, rfl⟩, ⟨⟨dX12_numberOf_8, rfl⟩, rfl⟩, ⟨⟨dX12_numberOf_9, rfl⟩, Or.inl ⟨by decide, _, _, fX12_27⟩⟩, ⟨⟨dX12_numberOf_12, rfl⟩, rfl⟩, ⟨⟨dX12_numberOf_13, rfl⟩, rfl⟩, ⟨⟨dX12_numberOf_15, rfl⟩, trivial⟩, ⟨⟨dX12_numberOf_16, rfl⟩, rfl⟩, ⟨⟨dX12_numberOf_17, rfl⟩, rfl⟩, ⟨⟨dX12_numberOf_19, rfl⟩, trivial⟩, ⟨⟨dX12_numberOf_20, rfl⟩, Or.inl ⟨rfl, _, my_117, sX12_275⟩⟩, ⟨⟨dX12_numberOf_23, rfl⟩, rfl⟩, ⟨⟨dX12_numberOf_24, rfl⟩, trivial⟩, ⟨⟨dX12_numberOf_25, rfl⟩, trivial⟩, ⟨⟨dX12_numberOf_26, rfl⟩, Or.inl ⟨rfl, rfl⟩⟩, trivial⟩, trivial⟩, by decide, Or.inl ⟨rfl, by decide, rfl⟩⟩
set_option maxRecDepth 100000 in
theorem g_X12_numberOf_0 (S : sT) (call : cT) (n : Nat) (a0 : Nat) (x1 : Int32) (h : pH) : bd S call dflT E_X12_numberOf (n + 1) 0 [some (.ref a0), some (.int x1)] [] h = ((if 0 ≤ x1 then gV h (.ref a0) 15 1 (fun w1 => dv 16 (dv 16 (cI (call 117 [.int (x1 / 16), .int (x1 - x1 / 16 * 16)] h) (fun y3 h2 => aI h2 w1 0 (y3 + 1) (fun y4 => some (.inl (some (.int y4)), h2)))))) else some (.inl (some (.int 0)), h))) := rfl
theorem dX12_isIn_0 : decode cX12_isIn 0 = .ok (.iload_n 0, 1) := by decide +kernel
theorem dX12_isIn_1 : decode cX12_isIn 1 = .ok (.bipush 8, 2) := by decide +kernel
theorem dX12_isIn_3 : decode cX12_isIn 3 = .ok (.irem, 1) := by decide +kernel
theorem dX12_isIn_4 : decode cX12_isIn 4 = .ok (.istore_n 3, 1) := by decide +kernel
theorem dX12_isIn_5 : decode cX12_isIn 5 = .ok (.iload_n 0, 1) := by decide +kernel
theorem dX12_isIn_6 : decode cX12_isIn 6 = .ok (.bipush 8, 2) := by decide +kernel
theorem dX12_isIn_8 : decode cX12_isIn 8 = .ok (.idiv, 1) := by decide +kernel
theorem dX12_isIn_9 : decode cX12_isIn 9 = .ok (.istore 4, 2) := by decide +kernel
theorem dX12_isIn_11 : decode cX12_isIn 11 = .ok (.iload_n 3, 1) := by decide +kernel
theorem dX12_isIn_12 : decode cX12_isIn 12 = .ok (.iload_n 1, 1) := by decide +kernel
theorem dX12_isIn_13 : decode cX12_isIn 13 = .ok (.bipush 8, 2) := by decide +kernel
theorem dX12_isIn_15 : decode cX12_isIn 15 = .ok (.irem, 1) := by decide +kernel
theorem dX12_isIn_16 : decode cX12_isIn 16 = .ok (.iload_n 2, 1) := by decide +kernel
theorem dX12_isIn_17 : decode cX12_isIn 17 = .ok (.bipush 8, 2) := by decide +kernel
theorem dX12_isIn_19 : decode cX12_isIn 19 = .ok (.irem, 1) := by decide +kernel
theorem dX12_isIn_20 : decode cX12_isIn 20 = .ok (.invokestatic 358, 3) := by decide +kernel
theorem dX12_isIn_23 : decode cX12_isIn 23 = .ok (.iload_n 1, 1) := by decide +kernel
theorem dX12_isIn_24 : decode cX12_isIn 24 = .ok (.bipush 8, 2) := by decide +kernel
theorem dX12_isIn_26 : decode cX12_isIn 26 = .ok (.irem, 1) := by decide +kernel
theorem dX12_isIn_27 : decode cX12_isIn 27 = .ok (.iload_n 2, 1) := by decide +kernel
theorem dX12_isIn_28 : decode cX12_isIn 28 = .ok (.bipush 8, 2) := by decide +kernel
theorem dX12_isIn_30 : decode cX12_isIn 30 = .ok (.irem, 1) := by decide +kernel
theorem dX12_isIn_31 : decode cX12_isIn 31 = .ok (.invokestatic 100, 3) := by decide +kernel
theorem dX12_isIn_34 : decode cX12_isIn 34 = .ok (.invokestatic 63, 3) := by decide +kernel
theorem dX12_isIn_37 : decode cX12_isIn 37 = .ok (.ifCond .eq 37, 3) := by decide +kernel
theorem dX12_isIn_40 : decode cX12_isIn 40 = .ok (.iload 4, 2) := by decide +kernel
theorem dX12_isIn_42 : decode cX12_isIn 42 = .ok (.iload_n 1, 1) := by decide +kernel
theorem dX12_isIn_43 : decode cX12_isIn 43 = .ok (.bipush 8, 2) := by decide +kernel
theorem dX12_isIn_45 : decode cX12_isIn 45 = .ok (.idiv, 1) := by decide +kernel
theorem dX12_isIn_46 : decode cX12_isIn 46 = .ok (.iload_n 2, 1) := by decide +kernel
theorem dX12_isIn_47 : decode cX12_isIn 47 = .ok (.bipush 8, 2) := by decide +kernel
theorem dX12_isIn_49 : decode cX12_isIn 49 = .ok (.idiv, 1) := by decide +kernel
theorem dX12_isIn_50 : decode cX12_isIn 50 = .ok (.invokestatic 358, 3) := by decide +kernel
theorem dX12_isIn_53 : decode cX12_isIn 53 = .ok (.iload_n 1, 1) := by decide +kernel
theorem dX12_isIn_54 : decode cX12_isIn 54 = .ok (.bipush 8, 2) := by decide +kernel
theorem dX12_isIn_56 : decode cX12_isIn 56 = .ok (.idiv, 1) := by decide +kernel
theorem dX12_isIn_57 : decode cX12_isIn 57 = .ok (.iload_n 2, 1) := by decide +kernel
theorem dX12_isIn_58 : decode cX12_isIn 58 = .ok (.bipush 8, 2) := by decide +kernel
theorem dX12_isIn_60 : decode cX12_isIn 60 = .ok (.idiv, 1) := by decide +kernel
theorem dX12_isIn_61 : decode cX12_isIn 61 = .ok (.invokestatic 100, 3) := by decide +kernel
theorem dX12_isIn_64 : decode cX12_isIn 64 = .ok (.invokestatic 63, 3) := by decide +kernel
theorem dX12_isIn_67 : decode cX12_isIn 67 = .ok (.ifCond .eq 7, 3) := by decide +kernel
theorem dX12_isIn_70 : decode cX12_isIn 70 = .ok (.iconst 1, 1) := by decide +kernel
theorem dX12_isIn_71 : decode cX12_isIn 71 = .ok (.goto 4, 3) := by decide +kernel
theorem dX12_isIn_74 : decode cX12_isIn 74 = .ok (.iconst 0, 1) := by decide +kernel
theorem dX12_isIn_75 : decode cX12_isIn 75 = .ok (.ireturn, 1) := by decide +kernel
noncomputable def E_X12_isIn : mE := (mX12_isIn, [(34, [(0, (.iload_n 0, 1, false, false, 0, 0, 0, 0, 0, 0, [])), (1, (.bipush 8, 3, false, false, 0, 0, 0, 0, 8, 0, [])), (3, (.irem, 4, false, false, 0, 0, 0, 0, 0, 0, [])), (4, (.istore_n 3, 5, false, false, 3, 0, 0, 0, 0, 0, [])), (5, (.iload_n 0, 6, false, false, 0, 0, 0, 0, 0, 0, [])), (6, (.bipush 8, 8, false, false, 0, 0, 0, 0, 8, 0, [])), (8, (.idiv, 9, false, false, 0, 0, 0, 0, 0, 0, [])), (9, (.istore 4, 11, false, false, 4, 0, 0, 0, 0, 0, [])), (11, (.iload_n 3, 12, false, false, 3, 0, 0, 0, 0, 0, [])), (12, (.iload_n 1, 13, false, false, 1, 0, 0, 0, 0, 0, [])), (13, (.bipush 8, 15, false, false, 0, 0, 0, 0, 8, 0, [])), (15, (.irem, 16, false, false, 0, 0, 0, 0, 0, 0, [])), (16, (.iload_n 2, 17, false, false, 2, 0, 0, 0, 0, 0, [])), (17, (.bipush 8, 19, false, false, 0, 0, 0, 0, 8, 0, [])), (19, (.irem, 20, false, false, 0, 0, 0, 0, 0, 0, [])), (20, (.invokestatic 358, 23, false, false, 0, 2, 1, 6, 0, 0, [])), (23, (.iload_n 1, 24, false, false, 1, 0, 0, 0, 0, 0, [])), (24, (.bipush 8, 26, false, false, 0, 0, 0, 0, 8, 0, [])), (26, (.irem, 27, false, false, 0, 0, 0, 0, 0, 0, [])), (27, (.iload_n 2, 28, false, false, 2, 0, 0, 0, 0, 0, [])), (28, (.bipush 8, 30, false, false, 0, 0, 0, 0, 8, 0, [])), (30, (.irem, 31, false, false, 0, 0, 0, 0, 0, 0, [])), (31, (.invokestatic 100, 34, false, false, 0, 2, 1, 5, 0, 0, [])), (34, (.invokestatic 63, 37, false, false, 28, 3, 1, 0, 0, 0, []))]),
  (75, [(37, (.ifCond .eq 37, 40, false, false, 74, 0, 0, 0, 0, 0, [])), (40, (.iload 4, 42, false, false, 4, 0, 0, 0, 0, 0, [])), (42, (.iload_n 1, 43, false, false, 1, 0, 0, 0, 0, 0, [])), (43, (.bipush 8, 45, false, false, 0, 0, 0, 0, 8, 0, [])), (45, (.idiv, 46, false, false, 0, 0, 0, 0, 0, 0, [])), (46, (.iload_n 2, 47, false, false, 2, 0, 0, 0, 0, 0, [])), (47, (.bipush 8, 49, false, false, 0, 0, 0, 0, 8, 0, [])), (49, (.idiv, 50, false, false, 0, 0, 0, 0, 0, 0, [])), (50, (.invokestatic 358, 53, false, false, 0, 2, 1, 6, 0, 0, [])), (53, (.iload_n 1, 54, false, false, 1, 0, 0, 0, 0, 0, [])), (54, (.bipush 8, 56, false, false, 0, 0, 0, 0, 8, 0, [])), (56, (.idiv, 57, false, false, 0, 0, 0, 0, 0, 0, [])), (57, (.iload_n 2, 58, false, false, 2, 0, 0, 0, 0, 0, [])), (58, (.bipush 8, 60, false, false, 0, 0, 0, 0, 8, 0, [])), (60, (.idiv, 61, false, false, 0, 0, 0, 0, 0, 0, [])), (61, (.invokestatic 100, 64, false, false, 0, 2, 1, 5, 0, 0, [])), (64, (.invokestatic 63, 67, false, false, 28, 3, 1, 0, 0, 0, [])), (67, (.ifCond .eq 7, 70, false, false, 74, 0, 0, 0, 0, 0, [])), (70, (.iconst 1, 71, false, false, 0, 0, 0, 0, 1, 0, [])), (71, (.goto 4, 74, false, false, 75, 0, 0, 0, 0, 0, [])), (74, (.iconst 0, 75, false, false, 0, 0, 0, 0, 0, 0, [])), (75, (.ireturn, 76, false, false, 0, 0, 1, 0, 0, 0, []))])], 0, [])
set_option maxRecDepth 100000 in
theorem v_X12_isIn : VE MYT dflT E_X12_isIn := ⟨⟨⟨⟨⟨dX12_isIn_0, rfl⟩, rfl⟩, ⟨⟨dX12_isIn_1, rfl⟩, rfl⟩, ⟨⟨dX12_isIn_3, rfl⟩, trivial⟩, ⟨⟨dX12_isIn_4, rfl⟩, rfl⟩, ⟨⟨dX12_isIn_5, rfl⟩, rfl⟩, ⟨⟨dX12_isIn_6, rfl⟩, rfl⟩, ⟨⟨dX12_isIn_8, rfl⟩, trivial⟩, ⟨⟨dX12_isIn_9, rfl⟩, rfl⟩, ⟨⟨dX12_isIn_11, rfl⟩, rfl⟩, ⟨⟨dX12_isIn_12, rfl⟩, rfl⟩, ⟨⟨dX12_isIn_13, rfl⟩, rfl⟩, ⟨⟨dX12_isIn_15, rfl⟩, trivial⟩, ⟨⟨dX12_isIn_16, rfl⟩, rfl⟩, ⟨⟨dX12_isIn_17, rfl⟩, rfl⟩, ⟨⟨dX12_isIn_19, rfl⟩, trivial⟩, ⟨⟨dX12_isIn_20, rfl⟩, Or.inr (Or.inr (Or.inr (Or.inr (Or.inr (Or.inl ⟨rfl, sX12_358⟩)))))⟩, ⟨⟨dX12_isIn_23, rfl⟩, rfl⟩, ⟨⟨dX12_isIn_24, rfl⟩, rfl⟩, ⟨⟨dX12_isIn_26, rfl⟩, trivial⟩, ⟨⟨dX12_isIn_27, rfl⟩, rfl⟩, ⟨⟨dX12_isIn_28, rfl⟩, rfl⟩, ⟨⟨dX12_isIn_30, rfl⟩, trivial⟩, ⟨⟨dX12_isIn_31, rfl⟩, Or.inr (Or.inr (Or.inr (Or.inr (Or.inl ⟨rfl, sX12_100⟩))))⟩, ⟨⟨dX12_isIn_34, rfl⟩, Or.inl ⟨rfl, _, my_28, sX12_63⟩⟩, trivial⟩,
  ⟨⟨⟨dX12_isIn_37, rfl⟩, rfl⟩, ⟨⟨dX12_isIn_40, rfl⟩, rfl⟩, ⟨⟨dX12_isIn_42, rfl⟩, rfl⟩, ⟨⟨dX12_isIn_43, rfl⟩, rfl⟩, ⟨⟨dX12_isIn_45, rfl⟩, trivial⟩, ⟨⟨dX12_isIn_46, rfl⟩, rfl⟩, ⟨⟨dX12_isIn_47, rfl⟩, rfl⟩, ⟨⟨dX12_isIn_49, rfl⟩, trivial⟩, ⟨⟨dX12_isIn_50, rfl⟩, Or.inr (Or.inr (Or.inr (Or.inr (Or.inr (Or.inl ⟨rfl, sX12_358⟩)))))⟩, ⟨⟨dX12_isIn_53, rfl⟩, rfl⟩, ⟨⟨dX12_isIn_54, rfl⟩, rfl⟩, ⟨⟨dX12_isIn_56, rfl⟩, trivial⟩, ⟨⟨dX12_isIn_57, rfl⟩, rfl⟩, ⟨⟨dX12_isIn_58, rfl⟩, rfl⟩, ⟨⟨dX12_isIn_60, rfl⟩, trivial⟩, ⟨⟨dX12_isIn_61, rfl⟩, Or.inr (Or.inr (Or.inr (Or.inr (Or.inl ⟨rfl, sX12_100⟩))))⟩, ⟨⟨dX12_isIn_64, rfl⟩, Or.inl ⟨rfl, _, my_28, sX12_63⟩⟩, ⟨⟨dX12_isIn_67, rfl⟩, rfl⟩, ⟨⟨dX12_isIn_70, rfl⟩, rfl⟩, ⟨⟨dX12_isIn_71, rfl⟩, rfl⟩, ⟨⟨dX12_isIn_74, rfl⟩, rfl⟩, ⟨⟨dX12_isIn_75, rfl⟩, Or.inr (Or.inl ⟨rfl, rfl⟩)⟩, trivial⟩, trivial⟩, by decide, Or.inl ⟨rfl, by decide, rfl⟩⟩
set_option maxRecDepth 100000 in
theorem g_X12_isIn_0 (S : sT) (call : cT) (n : Nat) (x0 : Int32) (x1 : Int32) (x2 : Int32) (h : pH) : bd S call dflT E_X12_isIn (n + 1) 0 [some (.int x0), some (.int x1), some (.int x2), none, none] [] h = (dv 8 (dv 8 (dv 8 (dv 8 (dv 8 (dv 8 (cI (call 28 [.int (x0 - x0 / 8 * 8), .int (if (x2 - x2 / 8 * 8) < (x1 - x1 / 8 * 8) then (x2 - x2 / 8 * 8) else (x1 - x1 / 8 * 8)), .int (if (x1 - x1 / 8 * 8) < (x2 - x2 / 8 * 8) then (x2 - x2 / 8 * 8) else (x1 - x1 / 8 * 8))] h) (fun y2 h1 => (if y2 = 0 then zR 0 (some (.inl (some (.int 0)), h1)) else dv 8 (dv 8 (dv 8 (dv 8 (cI (call 28 [.int (x0 / 8), .int (if (x2 / 8) < (x1 / 8) then (x2 / 8) else (x1 / 8)), .int (if (x1 / 8) < (x2 / 8) then (x2 / 8) else (x1 / 8))] h1) (fun y4 h3 => (if y4 = 0 then zR 0 (some (.inl (some (.int 0)), h3)) else zR 1 (some (.inl (some (.int 1)), h3))))))))))))))))) := rfl
theorem dX12_areFree_0 : decode cX12_areFree 0 = .ok (.aload_n 0, 1) := by decide +kernel
theorem dX12_areFree_1 : decode cX12_areFree 1 = .ok (.getfield 27, 3) := by decide +kernel
theorem dX12_areFree_4 : decode cX12_areFree 4 = .ok (.sipush 1683, 3) := by decide +kernel
theorem dX12_areFree_7 : decode cX12_areFree 7 = .ok (.iaload, 1) := by decide +kernel
theorem dX12_areFree_8 : decode cX12_areFree 8 = .ok (.bipush 24, 2) := by decide +kernel
theorem dX12_areFree_10 : decode cX12_areFree 10 = .ok (.if_icmp .ge 7, 3) := by decide +kernel
theorem dX12_areFree_13 : decode cX12_areFree 13 = .ok (.iconst 1, 1) := by decide +kernel
theorem dX12_areFree_14 : decode cX12_areFree 14 = .ok (.goto 4, 3) := by decide +kernel
theorem dX12_areFree_17 : decode cX12_areFree 17 = .ok (.iconst 0, 1) := by decide +kernel
theorem dX12_areFree_18 : decode cX12_areFree 18 = .ok (.istore_n 3, 1) := by decide +kernel
theorem dX12_areFree_19 : decode cX12_areFree 19 = .ok (.iconst 0, 1) := by decide +kernel
theorem dX12_areFree_20 : decode cX12_areFree 20 = .ok (.istore 4, 2) := by decide +kernel
theorem dX12_areFree_22 : decode cX12_areFree 22 = .ok (.iload 4, 2) := by decide +kernel
theorem dX12_areFree_24 : decode cX12_areFree 24 = .ok (.bipush 48, 2) := by decide +kernel
theorem dX12_areFree_26 : decode cX12_areFree 26 = .ok (.if_icmp .ge 51, 3) := by decide +kernel
theorem dX12_areFree_29 : decode cX12_areFree 29 = .ok (.iload_n 3, 1) := by decide +kernel
theorem dX12_areFree_30 : decode cX12_areFree 30 = .ok (.ifCond .eq 39, 3) := by decide +kernel
theorem dX12_areFree_33 : decode cX12_areFree 33 = .ok (.iload 4, 2) := by decide +kernel
theorem dX12_areFree_35 : decode cX12_areFree 35 = .ok (.iload_n 1, 1) := by decide +kernel
theorem dX12_areFree_36 : decode cX12_areFree 36 = .ok (.iload_n 2, 1) := by decide +kernel
theorem dX12_areFree_37 : decode cX12_areFree 37 = .ok (.invokestatic 363, 3) := by decide +kernel
theorem dX12_areFree_40 : decode cX12_areFree 40 = .ok (.ifCond .eq 25, 3) := by decide +kernel
theorem dX12_areFree_43 : decode cX12_areFree 43 = .ok (.aload_n 0, 1) := by decide +kernel
theorem dX12_areFree_44 : decode cX12_areFree 44 = .ok (.iload 4, 2) := by decide +kernel
theorem dX12_areFree_46 : decode cX12_areFree 46 = .ok (.bipush 11, 2) := by decide +kernel
theorem dX12_areFree_48 : decode cX12_areFree 48 = .ok (.invokevirtual 79, 3) := by decide +kernel
theorem dX12_areFree_51 : decode cX12_areFree 51 = .ok (.ifCond .ne 18, 3) := by decide +kernel
theorem dX12_areFree_54 : decode cX12_areFree 54 = .ok (.aload_n 0, 1) := by decide +kernel
theorem dX12_areFree_55 : decode cX12_areFree 55 = .ok (.iload 4, 2) := by decide +kernel
theorem dX12_areFree_57 : decode cX12_areFree 57 = .ok (.bipush 10, 2) := by decide +kernel
theorem dX12_areFree_59 : decode cX12_areFree 59 = .ok (.invokevirtual 79, 3) := by decide +kernel
theorem dX12_areFree_62 : decode cX12_areFree 62 = .ok (.ifCond .ge 7, 3) := by decide +kernel
theorem dX12_areFree_65 : decode cX12_areFree 65 = .ok (.iconst 1, 1) := by decide +kernel
theorem dX12_areFree_66 : decode cX12_areFree 66 = .ok (.goto 4, 3) := by decide +kernel
theorem dX12_areFree_69 : decode cX12_areFree 69 = .ok (.iconst 0, 1) := by decide +kernel
theorem dX12_areFree_70 : decode cX12_areFree 70 = .ok (.istore_n 3, 1) := by decide +kernel
theorem dX12_areFree_71 : decode cX12_areFree 71 = .ok (.iinc 4 1, 3) := by decide +kernel
theorem dX12_areFree_74 : decode cX12_areFree 74 = .ok (.goto (-52), 3) := by decide +kernel
theorem dX12_areFree_77 : decode cX12_areFree 77 = .ok (.iload_n 3, 1) := by decide +kernel
theorem dX12_areFree_78 : decode cX12_areFree 78 = .ok (.ireturn, 1) := by decide +kernel
noncomputable def E_X12_areFree : mE := (mX12_areFree, [(44, [(0, (.aload_n 0, 1, false, false, 0, 0, 0, 0, 0, 0, [])), (1, (.getfield 27, 4, false, false, 15, 1, 1, 0, 0, 0, [])), (4, (.sipush 1683, 7, false, false, 0, 0, 0, 0, 1683, 0, [])), (7, (.iaload, 8, false, false, 0, 0, 0, 0, 0, 0, [])), (8, (.bipush 24, 10, false, false, 0, 0, 0, 0, 24, 0, [])), (10, (.if_icmp .ge 7, 13, false, false, 17, 0, 0, 0, 0, 0, [])), (13, (.iconst 1, 14, false, false, 0, 0, 0, 0, 1, 0, [])), (14, (.goto 4, 17, false, false, 18, 0, 0, 0, 0, 0, [])), (17, (.iconst 0, 18, false, false, 0, 0, 0, 0, 0, 0, [])), (18, (.istore_n 3, 19, false, false, 3, 0, 0, 0, 0, 0, [])), (19, (.iconst 0, 20, false, false, 0, 0, 0, 0, 0, 0, [])), (20, (.istore 4, 22, true, false, 4, 0, 0, 0, 0, 0, [])), (22, (.iload 4, 24, false, false, 4, 0, 0, 0, 0, 0, [])), (24, (.bipush 48, 26, false, false, 0, 0, 0, 0, 48, 0, [])), (26, (.if_icmp .ge 51, 29, false, false, 77, 0, 0, 0, 0, 0, [])), (29, (.iload_n 3, 30, false, false, 3, 0, 0, 0, 0, 0, [])), (30, (.ifCond .eq 39, 33, false, false, 69, 0, 0, 0, 0, 0, [])), (33, (.iload 4, 35, false, false, 4, 0, 0, 0, 0, 0, [])), (35, (.iload_n 1, 36, false, false, 1, 0, 0, 0, 0, 0, [])), (36, (.iload_n 2, 37, false, false, 2, 0, 0, 0, 0, 0, [])), (37, (.invokestatic 363, 40, false, false, 146, 3, 1, 0, 0, 0, [])), (40, (.ifCond .eq 25, 43, false, false, 65, 0, 0, 0, 0, 0, [])), (43, (.aload_n 0, 44, false, false, 0, 0, 0, 0, 0, 0, [])), (44, (.iload 4, 46, false, false, 4, 0, 0, 0, 0, 0, []))]),
  (78, [(46, (.bipush 11, 48, false, false, 0, 0, 0, 0, 11, 0, [])), (48, (.invokevirtual 79, 51, false, false, 31, 2, 1, 15, 0, 0, [])), (51, (.ifCond .ne 18, 54, false, false, 69, 0, 0, 0, 0, 0, [])), (54, (.aload_n 0, 55, false, false, 0, 0, 0, 0, 0, 0, [])), (55, (.iload 4, 57, false, false, 4, 0, 0, 0, 0, 0, [])), (57, (.bipush 10, 59, false, false, 0, 0, 0, 0, 10, 0, [])), (59, (.invokevirtual 79, 62, false, false, 31, 2, 1, 15, 0, 0, [])), (62, (.ifCond .ge 7, 65, false, false, 69, 0, 0, 0, 0, 0, [])), (65, (.iconst 1, 66, false, false, 0, 0, 0, 0, 1, 0, [])), (66, (.goto 4, 69, false, false, 70, 0, 0, 0, 0, 0, [])), (69, (.iconst 0, 70, false, false, 0, 0, 0, 0, 0, 0, [])), (70, (.istore_n 3, 71, false, false, 3, 0, 0, 0, 0, 0, [])), (71, (.iinc 4 1, 74, false, false, 4, 0, 0, 0, 1, 0, [])), (74, (.goto (-52), 77, false, true, 22, 0, 0, 0, 0, 0, [])), (77, (.iload_n 3, 78, false, false, 3, 0, 0, 0, 0, 0, [])), (78, (.ireturn, 79, false, false, 0, 0, 1, 0, 0, 0, []))])], 0, [])
set_option maxRecDepth 100000 in
theorem v_X12_areFree : VE MYT dflT E_X12_areFree := ⟨⟨⟨⟨⟨dX12_areFree_0, rfl⟩, rfl⟩, ⟨⟨dX12_areFree_1, rfl⟩, Or.inl ⟨by decide, _, _, fX12_27⟩⟩, ⟨⟨dX12_areFree_4, rfl⟩, rfl⟩, ⟨⟨dX12_areFree_7, rfl⟩, trivial⟩, ⟨⟨dX12_areFree_8, rfl⟩, rfl⟩, ⟨⟨dX12_areFree_10, rfl⟩, rfl⟩, ⟨⟨dX12_areFree_13, rfl⟩, rfl⟩, ⟨⟨dX12_areFree_14, rfl⟩, rfl⟩, ⟨⟨dX12_areFree_17, rfl⟩, rfl⟩, ⟨⟨dX12_areFree_18, rfl⟩, rfl⟩, ⟨⟨dX12_areFree_19, rfl⟩, rfl⟩, ⟨⟨dX12_areFree_20, rfl⟩, rfl⟩, ⟨⟨dX12_areFree_22, rfl⟩, rfl⟩, ⟨⟨dX12_areFree_24, rfl⟩, rfl⟩, ⟨⟨dX12_areFree_26, rfl⟩, rfl⟩, ⟨⟨dX12_areFree_29, rfl⟩, rfl⟩, ⟨⟨dX12_areFree_30, rfl⟩, rfl⟩, ⟨⟨dX12_areFree_33, rfl⟩, rfl⟩, ⟨⟨dX12_areFree_35, rfl⟩, rfl⟩, ⟨⟨dX12_areFree_36, rfl⟩, rfl⟩, ⟨⟨dX12_areFree_37, rfl⟩, Or.inl ⟨rfl, _, my_146, sX12_363⟩⟩, ⟨⟨dX12_areFree_40, rfl⟩, rfl⟩, ⟨⟨dX12_areFree_43, rfl⟩, rfl⟩, ⟨⟨dX12_areFree_44, rfl⟩, rfl⟩, trivial⟩,
  ⟨⟨⟨dX12_areFree_46, rfl⟩, rfl⟩, ⟨⟨dX12_areFree_48, rfl⟩, Or.inr ⟨by decide, ⟨_, my_31, sX12_79⟩, fun q => absurd q (by decide)⟩⟩, ⟨⟨dX12_areFree_51, rfl⟩, rfl⟩, ⟨⟨dX12_areFree_54, rfl⟩, rfl⟩, ⟨⟨dX12_areFree_55, rfl⟩, rfl⟩, ⟨⟨dX12_areFree_57, rfl⟩, rfl⟩, ⟨⟨dX12_areFree_59, rfl⟩, Or.inr ⟨by decide, ⟨_, my_31, sX12_79⟩, fun q => absurd q (by decide)⟩⟩, ⟨⟨dX12_areFree_62, rfl⟩, rfl⟩, ⟨⟨dX12_areFree_65, rfl⟩, rfl⟩, ⟨⟨dX12_areFree_66, rfl⟩, rfl⟩, ⟨⟨dX12_areFree_69, rfl⟩, rfl⟩, ⟨⟨dX12_areFree_70, rfl⟩, rfl⟩, ⟨⟨dX12_areFree_71, rfl⟩, ⟨rfl, rfl⟩⟩, ⟨⟨dX12_areFree_74, rfl⟩, rfl⟩, ⟨⟨dX12_areFree_77, rfl⟩, rfl⟩, ⟨⟨dX12_areFree_78, rfl⟩, Or.inr (Or.inl ⟨rfl, rfl⟩)⟩, trivial⟩, trivial⟩, by decide, Or.inl ⟨rfl, by decide, rfl⟩⟩
set_option maxRecDepth 100000 in
theorem g_X12_areFree_0 (S : sT) (call : cT) (n : Nat) (a0 : Nat) (x1 : Int32) (x2 : Int32) (h : pH) : bd S call dflT E_X12_areFree (n + 1) 0 [some (.ref a0), some (.int x1), some (.int x2), none, none] [] h = (gV h (.ref a0) 15 1 (fun w1 => aI h w1 0 1683 (fun y2 => (if 24 ≤ y2 then bd S call dflT E_X12_areFree n 22 [some (.ref a0), some (.int x1), some (.int x2), some (.int 0), some (.int 0)] [] h else bd S call dflT E_X12_areFree n 22 [some (.ref a0), some (.int x1), some (.int x2), some (.int 1), some (.int 0)] [] h)))) := rfl
set_option maxRecDepth 100000 in
theorem g_X12_areFree_22 (S : sT) (call : cT) (n : Nat) (a0 : Nat) (x1 : Int32) (x2 : Int32) (x3 : Int32) (x4 : Int32) (h : pH) : bd S call dflT E_X12_areFree (n + 1) 22 [some (.ref a0), some (.int x1), some (.int x2), some (.int x3), some (.int x4)] [] h = ((if 48 ≤ x4 then zR x3 (some (.inl (some (.int x3)), h)) else (if x3 = 0 then bd S call dflT E_X12_areFree n 22 [some (.ref a0), some (.int x1), some (.int x2), some (.int 0), some (.int (x4 + 1))] [] h else cI (call 146 [.int x4, .int x1, .int x2] h) (fun y2 h1 => (if y2 = 0 then bd S call dflT E_X12_areFree n 22 [some (.ref a0), some (.int x1), some (.int x2), some (.int 1), some (.int (x4 + 1))] [] h1 else rC h1 (.ref a0) 15 (cI (call 31 [.ref a0, .int x4, .int 11] h1) (fun y4 h3 => (if y4 = 0 then rC h3 (.ref a0) 15 (cI (call 31 [.ref a0, .int x4, .int 10] h3) (fun y6 h5 => (if 0 ≤ y6 then bd S call dflT E_X12_areFree n 22 [some (.ref a0), some (.int x1), some (.int x2), some (.int 0), some (.int (x4 + 1))] [] h5 else bd S call dflT E_X12_areFree n 22 [some (.ref a0), some (.int x1), some (.int x2), some (.int 1), some (.int (x4 + 1))] [] h5))) else bd S call dflT E_X12_areFree n 22 [some (.ref a0), some (.int x1), some (.int x2), some (.int 0), some (.int (x4 + 1))] [] h3)))))))) := rfl
theorem dX12_holdingAt_0 : decode cX12_holdingAt 0 = .ok (.sipush 1684, 3) := by decide +kernel
theorem dX12_holdingAt_3 : decode cX12_holdingAt 3 = .ok (.bipush 11, 2) := by decide +kernel
theorem dX12_holdingAt_5 : decode cX12_holdingAt 5 = .ok (.iload_n 0, 1) := by decide +kernel
theorem dX12_holdingAt_6 : decode cX12_holdingAt 6 = .ok (.imul, 1) := by decide +kernel
theorem dX12_holdingAt_7 : decode cX12_holdingAt 7 = .ok (.iadd, 1) := by decide +kernel
theorem dX12_holdingAt_8 : decode cX12_holdingAt 8 = .ok (.iload_n 1, 1) := by decide +kernel
theorem dX12_holdingAt_9 : decode cX12_holdingAt 9 = .ok (.iadd, 1) := by decide +kernel
theorem dX12_holdingAt_10 : decode cX12_holdingAt 10 = .ok (.ireturn, 1) := by decide +kernel
noncomputable def E_X12_holdingAt : mE := (mX12_holdingAt, [(10, [(0, (.sipush 1684, 3, false, false, 0, 0, 0, 0, 1684, 0, [])), (3, (.bipush 11, 5, false, false, 0, 0, 0, 0, 11, 0, [])), (5, (.iload_n 0, 6, false, false, 0, 0, 0, 0, 0, 0, [])), (6, (.imul, 7, false, false, 0, 0, 0, 0, 0, 0, [])), (7, (.iadd, 8, false, false, 0, 0, 0, 0, 0, 0, [])), (8, (.iload_n 1, 9, false, false, 1, 0, 0, 0, 0, 0, [])), (9, (.iadd, 10, false, false, 0, 0, 0, 0, 0, 0, [])), (10, (.ireturn, 11, false, false, 0, 0, 0, 0, 0, 0, []))])], 0, [])
set_option maxRecDepth 100000 in
theorem v_X12_holdingAt : VE MYT dflT E_X12_holdingAt := ⟨⟨⟨⟨⟨dX12_holdingAt_0, rfl⟩, rfl⟩, ⟨⟨dX12_holdingAt_3, rfl⟩, rfl⟩, ⟨⟨dX12_holdingAt_5, rfl⟩, rfl⟩, ⟨⟨dX12_holdingAt_6, rfl⟩, trivial⟩, ⟨⟨dX12_holdingAt_7, rfl⟩, trivial⟩, ⟨⟨dX12_holdingAt_8, rfl⟩, rfl⟩, ⟨⟨dX12_holdingAt_9, rfl⟩, trivial⟩, ⟨⟨dX12_holdingAt_10, rfl⟩, Or.inl ⟨rfl, rfl⟩⟩, trivial⟩, trivial⟩, by decide, Or.inl ⟨rfl, by decide, rfl⟩⟩
set_option maxRecDepth 100000 in
theorem g_X12_holdingAt_0 (S : sT) (call : cT) (n : Nat) (x0 : Int32) (x1 : Int32) (h : pH) : bd S call dflT E_X12_holdingAt (n + 1) 0 [some (.int x0), some (.int x1)] [] h = (some (.inl (some (.int ((1684 + (11 * x0)) + x1))), h)) := rfl
theorem dX12_begins_0 : decode cX12_begins 0 = .ok (.aload_n 0, 1) := by decide +kernel
theorem dX12_begins_1 : decode cX12_begins 1 = .ok (.getfield 27, 3) := by decide +kernel
theorem dX12_begins_4 : decode cX12_begins 4 = .ok (.sipush 1683, 3) := by decide +kernel
theorem dX12_begins_7 : decode cX12_begins 7 = .ok (.iaload, 1) := by decide +kernel
theorem dX12_begins_8 : decode cX12_begins 8 = .ok (.istore 4, 2) := by decide +kernel
theorem dX12_begins_10 : decode cX12_begins 10 = .ok (.aload_n 0, 1) := by decide +kernel
theorem dX12_begins_11 : decode cX12_begins 11 = .ok (.getfield 27, 3) := by decide +kernel
theorem dX12_begins_14 : decode cX12_begins 14 = .ok (.sipush 1683, 3) := by decide +kernel
theorem dX12_begins_17 : decode cX12_begins 17 = .ok (.dup2, 1) := by decide +kernel
theorem dX12_begins_18 : decode cX12_begins 18 = .ok (.iaload, 1) := by decide +kernel
theorem dX12_begins_19 : decode cX12_begins 19 = .ok (.iconst 1, 1) := by decide +kernel
theorem dX12_begins_20 : decode cX12_begins 20 = .ok (.iadd, 1) := by decide +kernel
theorem dX12_begins_21 : decode cX12_begins 21 = .ok (.iastore, 1) := by decide +kernel
theorem dX12_begins_22 : decode cX12_begins 22 = .ok (.iconst 0, 1) := by decide +kernel
theorem dX12_begins_23 : decode cX12_begins 23 = .ok (.istore 5, 2) := by decide +kernel
theorem dX12_begins_25 : decode cX12_begins 25 = .ok (.iload 5, 2) := by decide +kernel
theorem dX12_begins_27 : decode cX12_begins 27 = .ok (.bipush 11, 2) := by decide +kernel
theorem dX12_begins_29 : decode cX12_begins 29 = .ok (.if_icmp .ge 22, 3) := by decide +kernel
theorem dX12_begins_32 : decode cX12_begins 32 = .ok (.aload_n 0, 1) := by decide +kernel
theorem dX12_begins_33 : decode cX12_begins 33 = .ok (.getfield 27, 3) := by decide +kernel
theorem dX12_begins_36 : decode cX12_begins 36 = .ok (.iload 4, 2) := by decide +kernel
theorem dX12_begins_38 : decode cX12_begins 38 = .ok (.iload 5, 2) := by decide +kernel
theorem dX12_begins_40 : decode cX12_begins 40 = .ok (.invokestatic 360, 3) := by decide +kernel
theorem dX12_begins_43 : decode cX12_begins 43 = .ok (.iconst 0, 1) := by decide +kernel
theorem dX12_begins_44 : decode cX12_begins 44 = .ok (.iastore, 1) := by decide +kernel
theorem dX12_begins_45 : decode cX12_begins 45 = .ok (.iinc 5 1, 3) := by decide +kernel
theorem dX12_begins_48 : decode cX12_begins 48 = .ok (.goto (-23), 3) := by decide +kernel
theorem dX12_begins_51 : decode cX12_begins 51 = .ok (.aload_n 0, 1) := by decide +kernel
theorem dX12_begins_52 : decode cX12_begins 52 = .ok (.getfield 27, 3) := by decide +kernel
theorem dX12_begins_55 : decode cX12_begins 55 = .ok (.iload 4, 2) := by decide +kernel
theorem dX12_begins_57 : decode cX12_begins 57 = .ok (.iconst 0, 1) := by decide +kernel
theorem dX12_begins_58 : decode cX12_begins 58 = .ok (.invokestatic 360, 3) := by decide +kernel
theorem dX12_begins_61 : decode cX12_begins 61 = .ok (.iload_n 3, 1) := by decide +kernel
theorem dX12_begins_62 : decode cX12_begins 62 = .ok (.iastore, 1) := by decide +kernel
theorem dX12_begins_63 : decode cX12_begins 63 = .ok (.aload_n 0, 1) := by decide +kernel
theorem dX12_begins_64 : decode cX12_begins 64 = .ok (.getfield 27, 3) := by decide +kernel
theorem dX12_begins_67 : decode cX12_begins 67 = .ok (.iload 4, 2) := by decide +kernel
theorem dX12_begins_69 : decode cX12_begins 69 = .ok (.iconst 4, 1) := by decide +kernel
theorem dX12_begins_70 : decode cX12_begins 70 = .ok (.invokestatic 360, 3) := by decide +kernel
theorem dX12_begins_73 : decode cX12_begins 73 = .ok (.iconst (-1), 1) := by decide +kernel
theorem dX12_begins_74 : decode cX12_begins 74 = .ok (.iastore, 1) := by decide +kernel
theorem dX12_begins_75 : decode cX12_begins 75 = .ok (.iconst 0, 1) := by decide +kernel
theorem dX12_begins_76 : decode cX12_begins 76 = .ok (.istore 5, 2) := by decide +kernel
theorem dX12_begins_78 : decode cX12_begins 78 = .ok (.iload 5, 2) := by decide +kernel
theorem dX12_begins_80 : decode cX12_begins 80 = .ok (.bipush 48, 2) := by decide +kernel
theorem dX12_begins_82 : decode cX12_begins 82 = .ok (.if_icmp .ge 33, 3) := by decide +kernel
theorem dX12_begins_85 : decode cX12_begins 85 = .ok (.iload 5, 2) := by decide +kernel
theorem dX12_begins_87 : decode cX12_begins 87 = .ok (.iload_n 1, 1) := by decide +kernel
theorem dX12_begins_88 : decode cX12_begins 88 = .ok (.iload_n 2, 1) := by decide +kernel
theorem dX12_begins_89 : decode cX12_begins 89 = .ok (.invokestatic 363, 3) := by decide +kernel
theorem dX12_begins_92 : decode cX12_begins 92 = .ok (.ifCond .eq 17, 3) := by decide +kernel
theorem dX12_begins_95 : decode cX12_begins 95 = .ok (.aload_n 0, 1) := by decide +kernel
theorem dX12_begins_96 : decode cX12_begins 96 = .ok (.getfield 27, 3) := by decide +kernel
theorem dX12_begins_99 : decode cX12_begins 99 = .ok (.iload 5, 2) := by decide +kernel
theorem dX12_begins_101 : decode cX12_begins 101 = .ok (.bipush 10, 2) := by decide +kernel
theorem dX12_begins_103 : decode cX12_begins 103 = .ok (.invokestatic 59, 3) := by decide +kernel
theorem dX12_begins_106 : decode cX12_begins 106 = .ok (.iload 4, 2) := by decide +kernel
theorem dX12_begins_108 : decode cX12_begins 108 = .ok (.iastore, 1) := by decide +kernel
theorem dX12_begins_109 : decode cX12_begins 109 = .ok (.iinc 5 1, 3) := by decide +kernel
theorem dX12_begins_112 : decode cX12_begins 112 = .ok (.goto (-34), 3) := by decide +kernel
theorem dX12_begins_115 : decode cX12_begins 115 = .ok (.iload 4, 2) := by decide +kernel
theorem dX12_begins_117 : decode cX12_begins 117 = .ok (.ireturn, 1) := by decide +kernel
noncomputable def E_X12_begins : mE := (mX12_begins, [(43, [(0, (.aload_n 0, 1, false, false, 0, 0, 0, 0, 0, 0, [])), (1, (.getfield 27, 4, false, false, 15, 1, 1, 0, 0, 0, [])), (4, (.sipush 1683, 7, false, false, 0, 0, 0, 0, 1683, 0, [])), (7, (.iaload, 8, false, false, 0, 0, 0, 0, 0, 0, [])), (8, (.istore 4, 10, false, false, 4, 0, 0, 0, 0, 0, [])), (10, (.aload_n 0, 11, false, false, 0, 0, 0, 0, 0, 0, [])), (11, (.getfield 27, 14, false, false, 15, 1, 1, 0, 0, 0, [])), (14, (.sipush 1683, 17, false, false, 0, 0, 0, 0, 1683, 0, [])), (17, (.dup2, 18, false, false, 0, 0, 0, 0, 0, 0, [])), (18, (.iaload, 19, false, false, 0, 0, 0, 0, 0, 0, [])), (19, (.iconst 1, 20, false, false, 0, 0, 0, 0, 1, 0, [])), (20, (.iadd, 21, false, false, 0, 0, 0, 0, 0, 0, [])), (21, (.iastore, 22, false, false, 0, 0, 0, 0, 0, 0, [])), (22, (.iconst 0, 23, false, false, 0, 0, 0, 0, 0, 0, [])), (23, (.istore 5, 25, true, false, 5, 0, 0, 0, 0, 0, [])), (25, (.iload 5, 27, false, false, 5, 0, 0, 0, 0, 0, [])), (27, (.bipush 11, 29, false, false, 0, 0, 0, 0, 11, 0, [])), (29, (.if_icmp .ge 22, 32, false, false, 51, 0, 0, 0, 0, 0, [])), (32, (.aload_n 0, 33, false, false, 0, 0, 0, 0, 0, 0, [])), (33, (.getfield 27, 36, false, false, 15, 1, 1, 0, 0, 0, [])), (36, (.iload 4, 38, false, false, 4, 0, 0, 0, 0, 0, [])), (38, (.iload 5, 40, false, false, 5, 0, 0, 0, 0, 0, [])), (40, (.invokestatic 360, 43, false, false, 148, 2, 1, 0, 0, 0, [])), (43, (.iconst 0, 44, false, false, 0, 0, 0, 0, 0, 0, []))]),
  (87, [(44, (.iastore, 45, false, false, 0, 0, 0, 0, 0, 0, [])), (45, (.iinc 5 1, 48, false, false, 5, 0, 0, 0, 1, 0, [])), (48, (.goto (-23), 51, false, true, 25, 0, 0, 0, 0, 0, [])), (51, (.aload_n 0, 52, false, false, 0, 0, 0, 0, 0, 0, [])), (52, (.getfield 27, 55, false, false, 15, 1, 1, 0, 0, 0, [])), (55, (.iload 4, 57, false, false, 4, 0, 0, 0, 0, 0, [])), (57, (.iconst 0, 58, false, false, 0, 0, 0, 0, 0, 0, [])), (58, (.invokestatic 360, 61, false, false, 148, 2, 1, 0, 0, 0, [])), (61, (.iload_n 3, 62, false, false, 3, 0, 0, 0, 0, 0, [])), (62, (.iastore, 63, false, false, 0, 0, 0, 0, 0, 0, [])), (63, (.aload_n 0, 64, false, false, 0, 0, 0, 0, 0, 0, [])), (64, (.getfield 27, 67, false, false, 15, 1, 1, 0, 0, 0, [])), (67, (.iload 4, 69, false, false, 4, 0, 0, 0, 0, 0, [])), (69, (.iconst 4, 70, false, false, 0, 0, 0, 0, 4, 0, [])), (70, (.invokestatic 360, 73, false, false, 148, 2, 1, 0, 0, 0, [])), (73, (.iconst (-1), 74, false, false, 0, 0, 0, 0, -1, 0, [])), (74, (.iastore, 75, false, false, 0, 0, 0, 0, 0, 0, [])), (75, (.iconst 0, 76, false, false, 0, 0, 0, 0, 0, 0, [])), (76, (.istore 5, 78, true, false, 5, 0, 0, 0, 0, 0, [])), (78, (.iload 5, 80, false, false, 5, 0, 0, 0, 0, 0, [])), (80, (.bipush 48, 82, false, false, 0, 0, 0, 0, 48, 0, [])), (82, (.if_icmp .ge 33, 85, false, false, 115, 0, 0, 0, 0, 0, [])), (85, (.iload 5, 87, false, false, 5, 0, 0, 0, 0, 0, [])), (87, (.iload_n 1, 88, false, false, 1, 0, 0, 0, 0, 0, []))]),
  (117, [(88, (.iload_n 2, 89, false, false, 2, 0, 0, 0, 0, 0, [])), (89, (.invokestatic 363, 92, false, false, 146, 3, 1, 0, 0, 0, [])), (92, (.ifCond .eq 17, 95, false, false, 109, 0, 0, 0, 0, 0, [])), (95, (.aload_n 0, 96, false, false, 0, 0, 0, 0, 0, 0, [])), (96, (.getfield 27, 99, false, false, 15, 1, 1, 0, 0, 0, [])), (99, (.iload 5, 101, false, false, 5, 0, 0, 0, 0, 0, [])), (101, (.bipush 10, 103, false, false, 0, 0, 0, 0, 10, 0, [])), (103, (.invokestatic 59, 106, false, false, 12, 2, 1, 0, 0, 0, [])), (106, (.iload 4, 108, false, false, 4, 0, 0, 0, 0, 0, [])), (108, (.iastore, 109, false, false, 0, 0, 0, 0, 0, 0, [])), (109, (.iinc 5 1, 112, false, false, 5, 0, 0, 0, 1, 0, [])), (112, (.goto (-34), 115, false, true, 78, 0, 0, 0, 0, 0, [])), (115, (.iload 4, 117, false, false, 4, 0, 0, 0, 0, 0, [])), (117, (.ireturn, 118, false, false, 0, 0, 0, 0, 0, 0, []))])], 0, [])
set_option maxRecDepth 100000 in
theorem v_X12_begins : VE MYT dflT E_X12_begins := ⟨⟨⟨⟨⟨dX12_begins_0, rfl⟩, rfl⟩, ⟨⟨dX12_begins_1, rfl⟩, Or.inl ⟨by decide, _, _, fX12_27⟩⟩, ⟨⟨dX12_begins_4, rfl⟩, rfl⟩, ⟨⟨dX12_begins_7, rfl⟩, trivial⟩, ⟨⟨dX12_begins_8, rfl⟩, rfl⟩, ⟨⟨dX12_begins_10, rfl⟩, rfl⟩, ⟨⟨dX12_begins_11, rfl⟩, Or.inl ⟨by decide, _, _, fX12_27⟩⟩, ⟨⟨dX12_begins_14, rfl⟩, rfl⟩, ⟨⟨dX12_begins_17, rfl⟩, trivial⟩, ⟨⟨dX12_begins_18, rfl⟩, trivial⟩, ⟨⟨dX12_begins_19, rfl⟩, rfl⟩, ⟨⟨dX12_begins_20, rfl⟩, trivial⟩, ⟨⟨dX12_begins_21, rfl⟩, trivial⟩, ⟨⟨dX12_begins_22, rfl⟩, rfl⟩, ⟨⟨dX12_begins_23, rfl⟩, rfl⟩, ⟨⟨dX12_begins_25, rfl⟩, rfl⟩, ⟨⟨dX12_begins_27, rfl⟩, rfl⟩, ⟨⟨dX12_begins_29, rfl⟩, rfl⟩, ⟨⟨dX12_begins_32, rfl⟩, rfl⟩, ⟨⟨dX12_begins_33, rfl⟩, Or.inl ⟨by decide, _, _, fX12_27⟩⟩, ⟨⟨dX12_begins_36, rfl⟩, rfl⟩, ⟨⟨dX12_begins_38, rfl⟩, rfl⟩, ⟨⟨dX12_begins_40, rfl⟩, Or.inl ⟨rfl, _, my_148, sX12_360⟩⟩, ⟨⟨dX12_begins_43, rfl⟩, rfl⟩, trivial⟩,
  ⟨⟨⟨dX12_begins_44, rfl⟩, trivial⟩, ⟨⟨dX12_begins_45, rfl⟩, ⟨rfl, rfl⟩⟩, ⟨⟨dX12_begins_48, rfl⟩, rfl⟩, ⟨⟨dX12_begins_51, rfl⟩, rfl⟩, ⟨⟨dX12_begins_52, rfl⟩, Or.inl ⟨by decide, _, _, fX12_27⟩⟩, ⟨⟨dX12_begins_55, rfl⟩, rfl⟩, ⟨⟨dX12_begins_57, rfl⟩, rfl⟩, ⟨⟨dX12_begins_58, rfl⟩, Or.inl ⟨rfl, _, my_148, sX12_360⟩⟩, ⟨⟨dX12_begins_61, rfl⟩, rfl⟩, ⟨⟨dX12_begins_62, rfl⟩, trivial⟩, ⟨⟨dX12_begins_63, rfl⟩, rfl⟩, ⟨⟨dX12_begins_64, rfl⟩, Or.inl ⟨by decide, _, _, fX12_27⟩⟩, ⟨⟨dX12_begins_67, rfl⟩, rfl⟩, ⟨⟨dX12_begins_69, rfl⟩, rfl⟩, ⟨⟨dX12_begins_70, rfl⟩, Or.inl ⟨rfl, _, my_148, sX12_360⟩⟩, ⟨⟨dX12_begins_73, rfl⟩, rfl⟩, ⟨⟨dX12_begins_74, rfl⟩, trivial⟩, ⟨⟨dX12_begins_75, rfl⟩, rfl⟩, ⟨⟨dX12_begins_76, rfl⟩, rfl⟩, ⟨⟨dX12_begins_78, rfl⟩, rfl⟩, ⟨⟨dX12_begins_80, rfl⟩, rfl⟩, ⟨⟨dX12_begins_82, rfl⟩, rfl⟩, ⟨⟨dX12_begins_85, rfl⟩, rfl⟩, ⟨⟨dX12_begins_87, rfl⟩, rfl⟩, trivial⟩,
  ⟨⟨⟨dX12_begins_88, rfl⟩, rfl⟩, ⟨⟨dX12_begins_89, rfl⟩, Or.inl ⟨rfl, _, my_146, sX12_363⟩⟩, ⟨⟨dX12_begins_92, rfl⟩, rfl⟩, ⟨⟨dX12_begins_95, rfl⟩, rfl⟩, ⟨⟨dX12_begins_96, rfl⟩, Or.inl ⟨by decide, _, _, fX12_27⟩⟩, ⟨⟨dX12_begins_99, rfl⟩, rfl⟩, ⟨⟨dX12_begins_101, rfl⟩, rfl⟩, ⟨⟨dX12_begins_103, rfl⟩, Or.inl ⟨rfl, _, my_12, sX12_59⟩⟩, ⟨⟨dX12_begins_106, rfl⟩, rfl⟩, ⟨⟨dX12_begins_108, rfl⟩, trivial⟩, ⟨⟨dX12_begins_109, rfl⟩, ⟨rfl, rfl⟩⟩, ⟨⟨dX12_begins_112, rfl⟩, rfl⟩, ⟨⟨dX12_begins_115, rfl⟩, rfl⟩, ⟨⟨dX12_begins_117, rfl⟩, Or.inl ⟨rfl, rfl⟩⟩, trivial⟩, trivial⟩, by decide, Or.inl ⟨rfl, by decide, rfl⟩⟩
set_option maxRecDepth 100000 in
theorem g_X12_begins_0 (S : sT) (call : cT) (n : Nat) (a0 : Nat) (x1 : Int32) (x2 : Int32) (x3 : Int32) (h : pH) : bd S call dflT E_X12_begins (n + 1) 0 [some (.ref a0), some (.int x1), some (.int x2), some (.int x3), none, none] [] h = (gV h (.ref a0) 15 1 (fun w1 => aI h w1 0 1683 (fun y2 => gV h (.ref a0) 15 1 (fun w3 => nl w3 (aI h w3 0 1683 (fun y4 => sI h w3 0 1683 (y4 + 1) (fun h5 => bd S call dflT E_X12_begins n 25 [some (.ref a0), some (.int x1), some (.int x2), some (.int x3), some (.int y2), some (.int 0)] [] h5))))))) := rfl
set_option maxRecDepth 100000 in
theorem g_X12_begins_25 (S : sT) (call : cT) (n : Nat) (a0 : Nat) (x1 : Int32) (x2 : Int32) (x3 : Int32) (x4 : Int32) (x5 : Int32) (h : pH) : bd S call dflT E_X12_begins (n + 1) 25 [some (.ref a0), some (.int x1), some (.int x2), some (.int x3), some (.int x4), some (.int x5)] [] h = ((if 11 ≤ x5 then gV h (.ref a0) 15 1 (fun w1 => cI (call 148 [.int x4, .int 0] h) (fun y3 h2 => sI h2 w1 0 y3 x3 (fun h4 => gV h4 (.ref a0) 15 1 (fun w5 => cI (call 148 [.int x4, .int 4] h4) (fun y7 h6 => sI h6 w5 0 y7 (-1) (fun h8 => bd S call dflT E_X12_begins n 78 [some (.ref a0), some (.int x1), some (.int x2), some (.int x3), some (.int x4), some (.int 0)] [] h8)))))) else gV h (.ref a0) 15 1 (fun w9 => cI (call 148 [.int x4, .int x5] h) (fun y11 h10 => sI h10 w9 0 y11 0 (fun h12 => bd S call dflT E_X12_begins n 25 [some (.ref a0), some (.int x1), some (.int x2), some (.int x3), some (.int x4), some (.int (x5 + 1))] [] h12))))) := rfl
set_option maxRecDepth 100000 in
theorem g_X12_begins_78 (S : sT) (call : cT) (n : Nat) (a0 : Nat) (x1 : Int32) (x2 : Int32) (x3 : Int32) (x4 : Int32) (x5 : Int32) (h : pH) : bd S call dflT E_X12_begins (n + 1) 78 [some (.ref a0), some (.int x1), some (.int x2), some (.int x3), some (.int x4), some (.int x5)] [] h = ((if 48 ≤ x5 then some (.inl (some (.int x4)), h) else cI (call 146 [.int x5, .int x1, .int x2] h) (fun y2 h1 => (if y2 = 0 then bd S call dflT E_X12_begins n 78 [some (.ref a0), some (.int x1), some (.int x2), some (.int x3), some (.int x4), some (.int (x5 + 1))] [] h1 else gV h1 (.ref a0) 15 1 (fun w3 => cI (call 12 [.int x5, .int 10] h1) (fun y5 h4 => sI h4 w3 0 y5 x4 (fun h6 => bd S call dflT E_X12_begins n 78 [some (.ref a0), some (.int x1), some (.int x2), some (.int x3), some (.int x4), some (.int (x5 + 1))] [] h6))))))) := rfl
theorem dX12_kept_0 : decode cX12_kept 0 = .ok (.ldc2_w 7, 3) := by decide +kernel
theorem dX12_kept_3 : decode cX12_kept 3 = .ok (.ldc2_w 9, 3) := by decide +kernel
theorem dX12_kept_6 : decode cX12_kept 6 = .ok (.lload_n 0, 1) := by decide +kernel
theorem dX12_kept_7 : decode cX12_kept 7 = .ok (.invokestatic 11, 3) := by decide +kernel
theorem dX12_kept_10 : decode cX12_kept 10 = .ok (.invokestatic 17, 3) := by decide +kernel
theorem dX12_kept_13 : decode cX12_kept 13 = .ok (.l2i, 1) := by decide +kernel
theorem dX12_kept_14 : decode cX12_kept 14 = .ok (.ireturn, 1) := by decide +kernel
noncomputable def E_X12_kept : mE := (mX12_kept, [(14, [(0, (.ldc2_w 7, 3, false, false, 0, 0, 0, 0, 0, -2000000000, [])), (3, (.ldc2_w 9, 6, false, false, 0, 0, 0, 0, 0, 2000000000, [])), (6, (.lload_n 0, 7, false, false, 0, 0, 0, 0, 0, 0, [])), (7, (.invokestatic 11, 10, false, false, 0, 2, 2, 8, 0, 0, [])), (10, (.invokestatic 17, 13, false, false, 0, 2, 2, 7, 0, 0, [])), (13, (.l2i, 14, false, false, 0, 0, 0, 0, 0, 0, [])), (14, (.ireturn, 15, false, false, 0, 0, 0, 0, 0, 0, []))])], 0, [])
set_option maxRecDepth 100000 in
theorem v_X12_kept : VE MYT dflT E_X12_kept := ⟨⟨⟨⟨⟨dX12_kept_0, rfl⟩, kX12_7⟩, ⟨⟨dX12_kept_3, rfl⟩, kX12_9⟩, ⟨⟨dX12_kept_6, rfl⟩, rfl⟩, ⟨⟨dX12_kept_7, rfl⟩, Or.inr (Or.inr (Or.inr (Or.inr (Or.inr (Or.inr (Or.inr ⟨rfl, sX12_11⟩))))))⟩, ⟨⟨dX12_kept_10, rfl⟩, Or.inr (Or.inr (Or.inr (Or.inr (Or.inr (Or.inr (Or.inl ⟨rfl, sX12_17⟩))))))⟩, ⟨⟨dX12_kept_13, rfl⟩, trivial⟩, ⟨⟨dX12_kept_14, rfl⟩, Or.inl ⟨rfl, rfl⟩⟩, trivial⟩, trivial⟩, by decide, Or.inl ⟨rfl, by decide, rfl⟩⟩
set_option maxRecDepth 100000 in
theorem g_X12_kept_0 (S : sT) (call : cT) (n : Nat) (j0 : Int64) (h : pH) : bd S call dflT E_X12_kept (n + 1) 0 [some (.long j0), none] [] h = (some (.inl (some (.int (if (if j0 < (2000000000 : Int64) then j0 else (2000000000 : Int64)) < ((-2000000000) : Int64) then ((-2000000000) : Int64) else (if j0 < (2000000000 : Int64) then j0 else (2000000000 : Int64))).toInt32)), h)) := rfl
theorem dX12_sets_0 : decode cX12_sets 0 = .ok (.aload_n 0, 1) := by decide +kernel
theorem dX12_sets_1 : decode cX12_sets 1 = .ok (.getfield 27, 3) := by decide +kernel
theorem dX12_sets_4 : decode cX12_sets 4 = .ok (.iload_n 1, 1) := by decide +kernel
theorem dX12_sets_5 : decode cX12_sets 5 = .ok (.iload_n 2, 1) := by decide +kernel
theorem dX12_sets_6 : decode cX12_sets 6 = .ok (.invokestatic 360, 3) := by decide +kernel
theorem dX12_sets_9 : decode cX12_sets 9 = .ok (.lload_n 3, 1) := by decide +kernel
theorem dX12_sets_10 : decode cX12_sets 10 = .ok (.invokestatic 345, 3) := by decide +kernel
theorem dX12_sets_13 : decode cX12_sets 13 = .ok (.iastore, 1) := by decide +kernel
theorem dX12_sets_14 : decode cX12_sets 14 = .ok (.return_, 1) := by decide +kernel
noncomputable def E_X12_sets : mE := (mX12_sets, [(14, [(0, (.aload_n 0, 1, false, false, 0, 0, 0, 0, 0, 0, [])), (1, (.getfield 27, 4, false, false, 15, 1, 1, 0, 0, 0, [])), (4, (.iload_n 1, 5, false, false, 1, 0, 0, 0, 0, 0, [])), (5, (.iload_n 2, 6, false, false, 2, 0, 0, 0, 0, 0, [])), (6, (.invokestatic 360, 9, false, false, 148, 2, 1, 0, 0, 0, [])), (9, (.lload_n 3, 10, false, false, 3, 0, 0, 0, 0, 0, [])), (10, (.invokestatic 345, 13, false, false, 150, 1, 1, 0, 0, 0, [])), (13, (.iastore, 14, false, false, 0, 0, 0, 0, 0, 0, [])), (14, (.return_, 15, false, false, 0, 0, 0, 0, 0, 0, []))])], 0, [])
set_option maxRecDepth 100000 in
theorem v_X12_sets : VE MYT dflT E_X12_sets := ⟨⟨⟨⟨⟨dX12_sets_0, rfl⟩, rfl⟩, ⟨⟨dX12_sets_1, rfl⟩, Or.inl ⟨by decide, _, _, fX12_27⟩⟩, ⟨⟨dX12_sets_4, rfl⟩, rfl⟩, ⟨⟨dX12_sets_5, rfl⟩, rfl⟩, ⟨⟨dX12_sets_6, rfl⟩, Or.inl ⟨rfl, _, my_148, sX12_360⟩⟩, ⟨⟨dX12_sets_9, rfl⟩, rfl⟩, ⟨⟨dX12_sets_10, rfl⟩, Or.inl ⟨rfl, _, my_150, sX12_345⟩⟩, ⟨⟨dX12_sets_13, rfl⟩, trivial⟩, ⟨⟨dX12_sets_14, rfl⟩, rfl⟩, trivial⟩, trivial⟩, by decide, Or.inl ⟨rfl, by decide, rfl⟩⟩
set_option maxRecDepth 100000 in
theorem g_X12_sets_0 (S : sT) (call : cT) (n : Nat) (a0 : Nat) (x1 : Int32) (x2 : Int32) (j3 : Int64) (h : pH) : bd S call dflT E_X12_sets (n + 1) 0 [some (.ref a0), some (.int x1), some (.int x2), some (.long j3), none] [] h = (gV h (.ref a0) 15 1 (fun w1 => cI (call 148 [.int x1, .int x2] h) (fun y3 h2 => cI (call 150 [.long j3] h2) (fun y5 h4 => sI h4 w1 0 y3 y5 (fun h6 => some (.inl none, h6)))))) := rfl
theorem dX12_year_0 : decode cX12_year 0 = .ok (.aload_n 0, 1) := by decide +kernel
theorem dX12_year_1 : decode cX12_year 1 = .ok (.getfield 27, 3) := by decide +kernel
theorem dX12_year_4 : decode cX12_year 4 = .ok (.iconst 0, 1) := by decide +kernel
theorem dX12_year_5 : decode cX12_year 5 = .ok (.iaload, 1) := by decide +kernel
theorem dX12_year_6 : decode cX12_year 6 = .ok (.iconst 4, 1) := by decide +kernel
theorem dX12_year_7 : decode cX12_year 7 = .ok (.idiv, 1) := by decide +kernel
theorem dX12_year_8 : decode cX12_year 8 = .ok (.ireturn, 1) := by decide +kernel
noncomputable def E_X12_year : mE := (mX12_year, [(8, [(0, (.aload_n 0, 1, false, false, 0, 0, 0, 0, 0, 0, [])), (1, (.getfield 27, 4, false, false, 15, 1, 1, 0, 0, 0, [])), (4, (.iconst 0, 5, false, false, 0, 0, 0, 0, 0, 0, [])), (5, (.iaload, 6, false, false, 0, 0, 0, 0, 0, 0, [])), (6, (.iconst 4, 7, false, false, 0, 0, 0, 0, 4, 0, [])), (7, (.idiv, 8, false, false, 0, 0, 0, 0, 0, 0, [])), (8, (.ireturn, 9, false, false, 0, 0, 0, 0, 0, 0, []))])], 0, [])
set_option maxRecDepth 100000 in
theorem v_X12_year : VE MYT dflT E_X12_year := ⟨⟨⟨⟨⟨dX12_year_0, rfl⟩, rfl⟩, ⟨⟨dX12_year_1, rfl⟩, Or.inl ⟨by decide, _, _, fX12_27⟩⟩, ⟨⟨dX12_year_4, rfl⟩, rfl⟩, ⟨⟨dX12_year_5, rfl⟩, trivial⟩, ⟨⟨dX12_year_6, rfl⟩, rfl⟩, ⟨⟨dX12_year_7, rfl⟩, trivial⟩, ⟨⟨dX12_year_8, rfl⟩, Or.inl ⟨rfl, rfl⟩⟩, trivial⟩, trivial⟩, by decide, Or.inl ⟨rfl, by decide, rfl⟩⟩
set_option maxRecDepth 100000 in
theorem g_X12_year_0 (S : sT) (call : cT) (n : Nat) (a0 : Nat) (h : pH) : bd S call dflT E_X12_year (n + 1) 0 [some (.ref a0)] [] h = (gV h (.ref a0) 15 1 (fun w1 => aI h w1 0 0 (fun y2 => dv 4 (some (.inl (some (.int (y2 / 4))), h))))) := rfl
theorem dX12_copies_0 : decode cX12_copies 0 = .ok (.iconst 0, 1) := by decide +kernel
theorem dX12_copies_1 : decode cX12_copies 1 = .ok (.istore_n 2, 1) := by decide +kernel
theorem dX12_copies_2 : decode cX12_copies 2 = .ok (.iload_n 2, 1) := by decide +kernel
theorem dX12_copies_3 : decode cX12_copies 3 = .ok (.sipush 898, 3) := by decide +kernel
theorem dX12_copies_6 : decode cX12_copies 6 = .ok (.if_icmp .ge 32, 3) := by decide +kernel
theorem dX12_copies_9 : decode cX12_copies 9 = .ok (.aload_n 0, 1) := by decide +kernel
theorem dX12_copies_10 : decode cX12_copies 10 = .ok (.getfield 27, 3) := by decide +kernel
theorem dX12_copies_13 : decode cX12_copies 13 = .ok (.iload_n 1, 1) := by decide +kernel
theorem dX12_copies_14 : decode cX12_copies 14 = .ok (.invokestatic 140, 3) := by decide +kernel
theorem dX12_copies_17 : decode cX12_copies 17 = .ok (.iload_n 2, 1) := by decide +kernel
theorem dX12_copies_18 : decode cX12_copies 18 = .ok (.iadd, 1) := by decide +kernel
theorem dX12_copies_19 : decode cX12_copies 19 = .ok (.aload_n 0, 1) := by decide +kernel
theorem dX12_copies_20 : decode cX12_copies 20 = .ok (.getfield 27, 3) := by decide +kernel
theorem dX12_copies_23 : decode cX12_copies 23 = .ok (.bipush 36, 2) := by decide +kernel
theorem dX12_copies_25 : decode cX12_copies 25 = .ok (.invokestatic 140, 3) := by decide +kernel
theorem dX12_copies_28 : decode cX12_copies 28 = .ok (.iload_n 2, 1) := by decide +kernel
theorem dX12_copies_29 : decode cX12_copies 29 = .ok (.iadd, 1) := by decide +kernel
theorem dX12_copies_30 : decode cX12_copies 30 = .ok (.iaload, 1) := by decide +kernel
theorem dX12_copies_31 : decode cX12_copies 31 = .ok (.iastore, 1) := by decide +kernel
theorem dX12_copies_32 : decode cX12_copies 32 = .ok (.iinc 2 1, 3) := by decide +kernel
theorem dX12_copies_35 : decode cX12_copies 35 = .ok (.goto (-33), 3) := by decide +kernel
theorem dX12_copies_38 : decode cX12_copies 38 = .ok (.return_, 1) := by decide +kernel
noncomputable def E_X12_copies : mE := (mX12_copies, [(38, [(0, (.iconst 0, 1, false, false, 0, 0, 0, 0, 0, 0, [])), (1, (.istore_n 2, 2, true, false, 2, 0, 0, 0, 0, 0, [])), (2, (.iload_n 2, 3, false, false, 2, 0, 0, 0, 0, 0, [])), (3, (.sipush 898, 6, false, false, 0, 0, 0, 0, 898, 0, [])), (6, (.if_icmp .ge 32, 9, false, false, 38, 0, 0, 0, 0, 0, [])), (9, (.aload_n 0, 10, false, false, 0, 0, 0, 0, 0, 0, [])), (10, (.getfield 27, 13, false, false, 15, 1, 1, 0, 0, 0, [])), (13, (.iload_n 1, 14, false, false, 1, 0, 0, 0, 0, 0, [])), (14, (.invokestatic 140, 17, false, false, 116, 1, 1, 0, 0, 0, [])), (17, (.iload_n 2, 18, false, false, 2, 0, 0, 0, 0, 0, [])), (18, (.iadd, 19, false, false, 0, 0, 0, 0, 0, 0, [])), (19, (.aload_n 0, 20, false, false, 0, 0, 0, 0, 0, 0, [])), (20, (.getfield 27, 23, false, false, 15, 1, 1, 0, 0, 0, [])), (23, (.bipush 36, 25, false, false, 0, 0, 0, 0, 36, 0, [])), (25, (.invokestatic 140, 28, false, false, 116, 1, 1, 0, 0, 0, [])), (28, (.iload_n 2, 29, false, false, 2, 0, 0, 0, 0, 0, [])), (29, (.iadd, 30, false, false, 0, 0, 0, 0, 0, 0, [])), (30, (.iaload, 31, false, false, 0, 0, 0, 0, 0, 0, [])), (31, (.iastore, 32, false, false, 0, 0, 0, 0, 0, 0, [])), (32, (.iinc 2 1, 35, false, false, 2, 0, 0, 0, 1, 0, [])), (35, (.goto (-33), 38, false, true, 2, 0, 0, 0, 0, 0, [])), (38, (.return_, 39, false, false, 0, 0, 0, 0, 0, 0, []))])], 0, [])
set_option maxRecDepth 100000 in
theorem v_X12_copies : VE MYT dflT E_X12_copies := ⟨⟨⟨⟨⟨dX12_copies_0, rfl⟩, rfl⟩, ⟨⟨dX12_copies_1, rfl⟩, rfl⟩, ⟨⟨dX12_copies_2, rfl⟩, rfl⟩, ⟨⟨dX12_copies_3, rfl⟩, rfl⟩, ⟨⟨dX12_copies_6, rfl⟩, rfl⟩, ⟨⟨dX12_copies_9, rfl⟩, rfl⟩, ⟨⟨dX12_copies_10, rfl⟩, Or.inl ⟨by decide, _, _, fX12_27⟩⟩, ⟨⟨dX12_copies_13, rfl⟩, rfl⟩, ⟨⟨dX12_copies_14, rfl⟩, Or.inl ⟨rfl, _, my_116, sX12_140⟩⟩, ⟨⟨dX12_copies_17, rfl⟩, rfl⟩, ⟨⟨dX12_copies_18, rfl⟩, trivial⟩, ⟨⟨dX12_copies_19, rfl⟩, rfl⟩, ⟨⟨dX12_copies_20, rfl⟩, Or.inl ⟨by decide, _, _, fX12_27⟩⟩, ⟨⟨dX12_copies_23, rfl⟩, rfl⟩, ⟨⟨dX12_copies_25, rfl⟩, Or.inl ⟨rfl, _, my_116, sX12_140⟩⟩, ⟨⟨dX12_copies_28, rfl⟩, rfl⟩, ⟨⟨dX12_copies_29, rfl⟩, trivial⟩, ⟨⟨dX12_copies_30, rfl⟩, trivial⟩, ⟨⟨dX12_copies_31, rfl⟩, trivial⟩, ⟨⟨dX12_copies_32, rfl⟩, ⟨rfl, rfl⟩⟩, ⟨⟨dX12_copies_35, rfl⟩, rfl⟩, ⟨⟨dX12_copies_38, rfl⟩, rfl⟩, trivial⟩, trivial⟩, by decide, Or.inl ⟨rfl, by decide, rfl⟩⟩
set_option maxRecDepth 100000 in
theorem g_X12_copies_0 (S : sT) (call : cT) (n : Nat) (a0 : Nat) (x1 : Int32) (h : pH) : bd S call dflT E_X12_copies (n + 1) 0 [some (.ref a0), some (.int x1), none] [] h = (bd S call dflT E_X12_copies n 2 [some (.ref a0), some (.int x1), some (.int 0)] [] h) := rfl
set_option maxRecDepth 100000 in
theorem g_X12_copies_2 (S : sT) (call : cT) (n : Nat) (a0 : Nat) (x1 : Int32) (x2 : Int32) (h : pH) : bd S call dflT E_X12_copies (n + 1) 2 [some (.ref a0), some (.int x1), some (.int x2)] [] h = ((if 898 ≤ x2 then some (.inl none, h) else gV h (.ref a0) 15 1 (fun w1 => cI (call 116 [.int x1] h) (fun y3 h2 => gV h2 (.ref a0) 15 1 (fun w4 => cI (call 116 [.int 36] h2) (fun y6 h5 => aI h5 w4 0 (y6 + x2) (fun y7 => sI h5 w1 0 (y3 + x2) y7 (fun h8 => bd S call dflT E_X12_copies n 2 [some (.ref a0), some (.int x1), some (.int (x2 + 1))] [] h8)))))))) := rfl
theorem dX12_errs_0 : decode cX12_errs 0 = .ok (.aload_n 0, 1) := by decide +kernel
theorem dX12_errs_1 : decode cX12_errs 1 = .ok (.getfield 27, 3) := by decide +kernel
theorem dX12_errs_4 : decode cX12_errs 4 = .ok (.bipush 6, 2) := by decide +kernel
theorem dX12_errs_6 : decode cX12_errs 6 = .ok (.iaload, 1) := by decide +kernel
theorem dX12_errs_7 : decode cX12_errs 7 = .ok (.istore_n 3, 1) := by decide +kernel
theorem dX12_errs_8 : decode cX12_errs 8 = .ok (.aload_n 0, 1) := by decide +kernel
theorem dX12_errs_9 : decode cX12_errs 9 = .ok (.getfield 27, 3) := by decide +kernel
theorem dX12_errs_12 : decode cX12_errs 12 = .ok (.bipush 6, 2) := by decide +kernel
theorem dX12_errs_14 : decode cX12_errs 14 = .ok (.dup2, 1) := by decide +kernel
theorem dX12_errs_15 : decode cX12_errs 15 = .ok (.iaload, 1) := by decide +kernel
theorem dX12_errs_16 : decode cX12_errs 16 = .ok (.iconst 1, 1) := by decide +kernel
theorem dX12_errs_17 : decode cX12_errs 17 = .ok (.iadd, 1) := by decide +kernel
theorem dX12_errs_18 : decode cX12_errs 18 = .ok (.iastore, 1) := by decide +kernel
theorem dX12_errs_19 : decode cX12_errs 19 = .ok (.iload_n 3, 1) := by decide +kernel
theorem dX12_errs_20 : decode cX12_errs 20 = .ok (.bipush 60, 2) := by decide +kernel
theorem dX12_errs_22 : decode cX12_errs 22 = .ok (.if_icmp .lt 4, 3) := by decide +kernel
theorem dX12_errs_25 : decode cX12_errs 25 = .ok (.return_, 1) := by decide +kernel
theorem dX12_errs_26 : decode cX12_errs 26 = .ok (.aload_n 0, 1) := by decide +kernel
theorem dX12_errs_27 : decode cX12_errs 27 = .ok (.getfield 27, 3) := by decide +kernel
theorem dX12_errs_30 : decode cX12_errs 30 = .ok (.sipush 1997, 3) := by decide +kernel
theorem dX12_errs_33 : decode cX12_errs 33 = .ok (.iconst 4, 1) := by decide +kernel
theorem dX12_errs_34 : decode cX12_errs 34 = .ok (.iload_n 3, 1) := by decide +kernel
theorem dX12_errs_35 : decode cX12_errs 35 = .ok (.imul, 1) := by decide +kernel
theorem dX12_errs_36 : decode cX12_errs 36 = .ok (.iadd, 1) := by decide +kernel
theorem dX12_errs_37 : decode cX12_errs 37 = .ok (.iload_n 1, 1) := by decide +kernel
theorem dX12_errs_38 : decode cX12_errs 38 = .ok (.iastore, 1) := by decide +kernel
theorem dX12_errs_39 : decode cX12_errs 39 = .ok (.aload_n 0, 1) := by decide +kernel
theorem dX12_errs_40 : decode cX12_errs 40 = .ok (.getfield 27, 3) := by decide +kernel
theorem dX12_errs_43 : decode cX12_errs 43 = .ok (.sipush 1997, 3) := by decide +kernel
theorem dX12_errs_46 : decode cX12_errs 46 = .ok (.iconst 4, 1) := by decide +kernel
theorem dX12_errs_47 : decode cX12_errs 47 = .ok (.iload_n 3, 1) := by decide +kernel
theorem dX12_errs_48 : decode cX12_errs 48 = .ok (.imul, 1) := by decide +kernel
theorem dX12_errs_49 : decode cX12_errs 49 = .ok (.iadd, 1) := by decide +kernel
theorem dX12_errs_50 : decode cX12_errs 50 = .ok (.iconst 1, 1) := by decide +kernel
theorem dX12_errs_51 : decode cX12_errs 51 = .ok (.iadd, 1) := by decide +kernel
theorem dX12_errs_52 : decode cX12_errs 52 = .ok (.iload_n 2, 1) := by decide +kernel
theorem dX12_errs_53 : decode cX12_errs 53 = .ok (.iastore, 1) := by decide +kernel
theorem dX12_errs_54 : decode cX12_errs 54 = .ok (.aload_n 0, 1) := by decide +kernel
theorem dX12_errs_55 : decode cX12_errs 55 = .ok (.getfield 27, 3) := by decide +kernel
theorem dX12_errs_58 : decode cX12_errs 58 = .ok (.sipush 1997, 3) := by decide +kernel
theorem dX12_errs_61 : decode cX12_errs 61 = .ok (.iconst 4, 1) := by decide +kernel
theorem dX12_errs_62 : decode cX12_errs 62 = .ok (.iload_n 3, 1) := by decide +kernel
theorem dX12_errs_63 : decode cX12_errs 63 = .ok (.imul, 1) := by decide +kernel
theorem dX12_errs_64 : decode cX12_errs 64 = .ok (.iadd, 1) := by decide +kernel
theorem dX12_errs_65 : decode cX12_errs 65 = .ok (.iconst 2, 1) := by decide +kernel
theorem dX12_errs_66 : decode cX12_errs 66 = .ok (.iadd, 1) := by decide +kernel
theorem dX12_errs_67 : decode cX12_errs 67 = .ok (.aload_n 0, 1) := by decide +kernel
theorem dX12_errs_68 : decode cX12_errs 68 = .ok (.invokevirtual 89, 3) := by decide +kernel
theorem dX12_errs_71 : decode cX12_errs 71 = .ok (.iastore, 1) := by decide +kernel
theorem dX12_errs_72 : decode cX12_errs 72 = .ok (.aload_n 0, 1) := by decide +kernel
theorem dX12_errs_73 : decode cX12_errs 73 = .ok (.getfield 27, 3) := by decide +kernel
theorem dX12_errs_76 : decode cX12_errs 76 = .ok (.sipush 1997, 3) := by decide +kernel
theorem dX12_errs_79 : decode cX12_errs 79 = .ok (.iconst 4, 1) := by decide +kernel
theorem dX12_errs_80 : decode cX12_errs 80 = .ok (.iload_n 3, 1) := by decide +kernel
theorem dX12_errs_81 : decode cX12_errs 81 = .ok (.imul, 1) := by decide +kernel
theorem dX12_errs_82 : decode cX12_errs 82 = .ok (.iadd, 1) := by decide +kernel
theorem dX12_errs_83 : decode cX12_errs 83 = .ok (.iconst 3, 1) := by decide +kernel
theorem dX12_errs_84 : decode cX12_errs 84 = .ok (.iadd, 1) := by decide +kernel
theorem dX12_errs_85 : decode cX12_errs 85 = .ok (.aload_n 0, 1) := by decide +kernel
theorem dX12_errs_86 : decode cX12_errs 86 = .ok (.getfield 27, 3) := by decide +kernel
theorem dX12_errs_89 : decode cX12_errs 89 = .ok (.iconst 5, 1) := by decide +kernel
theorem dX12_errs_90 : decode cX12_errs 90 = .ok (.iaload, 1) := by decide +kernel
theorem dX12_errs_91 : decode cX12_errs 91 = .ok (.iastore, 1) := by decide +kernel
theorem dX12_errs_92 : decode cX12_errs 92 = .ok (.return_, 1) := by decide +kernel
noncomputable def E_X12_errs : mE := (mX12_errs, [(36, [(0, (.aload_n 0, 1, false, false, 0, 0, 0, 0, 0, 0, [])), (1, (.getfield 27, 4, false, false, 15, 1, 1, 0, 0, 0, [])), (4, (.bipush 6, 6, false, false, 0, 0, 0, 0, 6, 0, [])), (6, (.iaload, 7, false, false, 0, 0, 0, 0, 0, 0, [])), (7, (.istore_n 3, 8, false, false, 3, 0, 0, 0, 0, 0, [])), (8, (.aload_n 0, 9, false, false, 0, 0, 0, 0, 0, 0, [])), (9, (.getfield 27, 12, false, false, 15, 1, 1, 0, 0, 0, [])), (12, (.bipush 6, 14, false, false, 0, 0, 0, 0, 6, 0, [])), (14, (.dup2, 15, false, false, 0, 0, 0, 0, 0, 0, [])), (15, (.iaload, 16, false, false, 0, 0, 0, 0, 0, 0, [])), (16, (.iconst 1, 17, false, false, 0, 0, 0, 0, 1, 0, [])), (17, (.iadd, 18, false, false, 0, 0, 0, 0, 0, 0, [])), (18, (.iastore, 19, false, false, 0, 0, 0, 0, 0, 0, [])), (19, (.iload_n 3, 20, false, false, 3, 0, 0, 0, 0, 0, [])), (20, (.bipush 60, 22, false, false, 0, 0, 0, 0, 60, 0, [])), (22, (.if_icmp .lt 4, 25, false, false, 26, 0, 0, 0, 0, 0, [])), (25, (.return_, 26, false, false, 0, 0, 0, 0, 0, 0, [])), (26, (.aload_n 0, 27, false, false, 0, 0, 0, 0, 0, 0, [])), (27, (.getfield 27, 30, false, false, 15, 1, 1, 0, 0, 0, [])), (30, (.sipush 1997, 33, false, false, 0, 0, 0, 0, 1997, 0, [])), (33, (.iconst 4, 34, false, false, 0, 0, 0, 0, 4, 0, [])), (34, (.iload_n 3, 35, false, false, 3, 0, 0, 0, 0, 0, [])), (35, (.imul, 36, false, false, 0, 0, 0, 0, 0, 0, [])), (36, (.iadd, 37, false, false, 0, 0, 0, 0, 0, 0, []))]),
  (68, [(37, (.iload_n 1, 38, false, false, 1, 0, 0, 0, 0, 0, [])), (38, (.iastore, 39, false, false, 0, 0, 0, 0, 0, 0, [])), (39, (.aload_n 0, 40, false, false, 0, 0, 0, 0, 0, 0, [])), (40, (.getfield 27, 43, false, false, 15, 1, 1, 0, 0, 0, [])), (43, (.sipush 1997, 46, false, false, 0, 0, 0, 0, 1997, 0, [])), (46, (.iconst 4, 47, false, false, 0, 0, 0, 0, 4, 0, [])), (47, (.iload_n 3, 48, false, false, 3, 0, 0, 0, 0, 0, [])), (48, (.imul, 49, false, false, 0, 0, 0, 0, 0, 0, [])), (49, (.iadd, 50, false, false, 0, 0, 0, 0, 0, 0, [])), (50, (.iconst 1, 51, false, false, 0, 0, 0, 0, 1, 0, [])), (51, (.iadd, 52, false, false, 0, 0, 0, 0, 0, 0, [])), (52, (.iload_n 2, 53, false, false, 2, 0, 0, 0, 0, 0, [])), (53, (.iastore, 54, false, false, 0, 0, 0, 0, 0, 0, [])), (54, (.aload_n 0, 55, false, false, 0, 0, 0, 0, 0, 0, [])), (55, (.getfield 27, 58, false, false, 15, 1, 1, 0, 0, 0, [])), (58, (.sipush 1997, 61, false, false, 0, 0, 0, 0, 1997, 0, [])), (61, (.iconst 4, 62, false, false, 0, 0, 0, 0, 4, 0, [])), (62, (.iload_n 3, 63, false, false, 3, 0, 0, 0, 0, 0, [])), (63, (.imul, 64, false, false, 0, 0, 0, 0, 0, 0, [])), (64, (.iadd, 65, false, false, 0, 0, 0, 0, 0, 0, [])), (65, (.iconst 2, 66, false, false, 0, 0, 0, 0, 2, 0, [])), (66, (.iadd, 67, false, false, 0, 0, 0, 0, 0, 0, [])), (67, (.aload_n 0, 68, false, false, 0, 0, 0, 0, 0, 0, [])), (68, (.invokevirtual 89, 71, false, false, 48, 0, 1, 15, 0, 0, []))]),
  (92, [(71, (.iastore, 72, false, false, 0, 0, 0, 0, 0, 0, [])), (72, (.aload_n 0, 73, false, false, 0, 0, 0, 0, 0, 0, [])), (73, (.getfield 27, 76, false, false, 15, 1, 1, 0, 0, 0, [])), (76, (.sipush 1997, 79, false, false, 0, 0, 0, 0, 1997, 0, [])), (79, (.iconst 4, 80, false, false, 0, 0, 0, 0, 4, 0, [])), (80, (.iload_n 3, 81, false, false, 3, 0, 0, 0, 0, 0, [])), (81, (.imul, 82, false, false, 0, 0, 0, 0, 0, 0, [])), (82, (.iadd, 83, false, false, 0, 0, 0, 0, 0, 0, [])), (83, (.iconst 3, 84, false, false, 0, 0, 0, 0, 3, 0, [])), (84, (.iadd, 85, false, false, 0, 0, 0, 0, 0, 0, [])), (85, (.aload_n 0, 86, false, false, 0, 0, 0, 0, 0, 0, [])), (86, (.getfield 27, 89, false, false, 15, 1, 1, 0, 0, 0, [])), (89, (.iconst 5, 90, false, false, 0, 0, 0, 0, 5, 0, [])), (90, (.iaload, 91, false, false, 0, 0, 0, 0, 0, 0, [])), (91, (.iastore, 92, false, false, 0, 0, 0, 0, 0, 0, [])), (92, (.return_, 93, false, false, 0, 0, 0, 0, 0, 0, []))])], 0, [])
set_option maxRecDepth 100000 in
theorem v_X12_errs : VE MYT dflT E_X12_errs := ⟨⟨⟨⟨⟨dX12_errs_0, rfl⟩, rfl⟩, ⟨⟨dX12_errs_1, rfl⟩, Or.inl ⟨by decide, _, _, fX12_27⟩⟩, ⟨⟨dX12_errs_4, rfl⟩, rfl⟩, ⟨⟨dX12_errs_6, rfl⟩, trivial⟩, ⟨⟨dX12_errs_7, rfl⟩, rfl⟩, ⟨⟨dX12_errs_8, rfl⟩, rfl⟩, ⟨⟨dX12_errs_9, rfl⟩, Or.inl ⟨by decide, _, _, fX12_27⟩⟩, ⟨⟨dX12_errs_12, rfl⟩, rfl⟩, ⟨⟨dX12_errs_14, rfl⟩, trivial⟩, ⟨⟨dX12_errs_15, rfl⟩, trivial⟩, ⟨⟨dX12_errs_16, rfl⟩, rfl⟩, ⟨⟨dX12_errs_17, rfl⟩, trivial⟩, ⟨⟨dX12_errs_18, rfl⟩, trivial⟩, ⟨⟨dX12_errs_19, rfl⟩, rfl⟩, ⟨⟨dX12_errs_20, rfl⟩, rfl⟩, ⟨⟨dX12_errs_22, rfl⟩, rfl⟩, ⟨⟨dX12_errs_25, rfl⟩, rfl⟩, ⟨⟨dX12_errs_26, rfl⟩, rfl⟩, ⟨⟨dX12_errs_27, rfl⟩, Or.inl ⟨by decide, _, _, fX12_27⟩⟩, ⟨⟨dX12_errs_30, rfl⟩, rfl⟩, ⟨⟨dX12_errs_33, rfl⟩, rfl⟩, ⟨⟨dX12_errs_34, rfl⟩, rfl⟩, ⟨⟨dX12_errs_35, rfl⟩, trivial⟩, ⟨⟨dX12_errs_36, rfl⟩, trivial⟩, trivial⟩,
  ⟨⟨⟨dX12_errs_37, rfl⟩, rfl⟩, ⟨⟨dX12_errs_38, rfl⟩, trivial⟩, ⟨⟨dX12_errs_39, rfl⟩, rfl⟩, ⟨⟨dX12_errs_40, rfl⟩, Or.inl ⟨by decide, _, _, fX12_27⟩⟩, ⟨⟨dX12_errs_43, rfl⟩, rfl⟩, ⟨⟨dX12_errs_46, rfl⟩, rfl⟩, ⟨⟨dX12_errs_47, rfl⟩, rfl⟩, ⟨⟨dX12_errs_48, rfl⟩, trivial⟩, ⟨⟨dX12_errs_49, rfl⟩, trivial⟩, ⟨⟨dX12_errs_50, rfl⟩, rfl⟩, ⟨⟨dX12_errs_51, rfl⟩, trivial⟩, ⟨⟨dX12_errs_52, rfl⟩, rfl⟩, ⟨⟨dX12_errs_53, rfl⟩, trivial⟩, ⟨⟨dX12_errs_54, rfl⟩, rfl⟩, ⟨⟨dX12_errs_55, rfl⟩, Or.inl ⟨by decide, _, _, fX12_27⟩⟩, ⟨⟨dX12_errs_58, rfl⟩, rfl⟩, ⟨⟨dX12_errs_61, rfl⟩, rfl⟩, ⟨⟨dX12_errs_62, rfl⟩, rfl⟩, ⟨⟨dX12_errs_63, rfl⟩, trivial⟩, ⟨⟨dX12_errs_64, rfl⟩, trivial⟩, ⟨⟨dX12_errs_65, rfl⟩, rfl⟩, ⟨⟨dX12_errs_66, rfl⟩, trivial⟩, ⟨⟨dX12_errs_67, rfl⟩, rfl⟩, ⟨⟨dX12_errs_68, rfl⟩, Or.inr ⟨by decide, ⟨_, my_48, sX12_89⟩, fun q => absurd q (by decide)⟩⟩, trivial⟩,
  ⟨⟨⟨dX12_errs_71, rfl⟩, trivial⟩, ⟨⟨dX12_errs_72, rfl⟩, rfl⟩, ⟨⟨dX12_errs_73, rfl⟩, Or.inl ⟨by decide, _, _, fX12_27⟩⟩, ⟨⟨dX12_errs_76, rfl⟩, rfl⟩, ⟨⟨dX12_errs_79, rfl⟩, rfl⟩, ⟨⟨dX12_errs_80, rfl⟩, rfl⟩, ⟨⟨dX12_errs_81, rfl⟩, trivial⟩, ⟨⟨dX12_errs_82, rfl⟩, trivial⟩, ⟨⟨dX12_errs_83, rfl⟩, rfl⟩, ⟨⟨dX12_errs_84, rfl⟩, trivial⟩, ⟨⟨dX12_errs_85, rfl⟩, rfl⟩, ⟨⟨dX12_errs_86, rfl⟩, Or.inl ⟨by decide, _, _, fX12_27⟩⟩, ⟨⟨dX12_errs_89, rfl⟩, rfl⟩, ⟨⟨dX12_errs_90, rfl⟩, trivial⟩, ⟨⟨dX12_errs_91, rfl⟩, trivial⟩, ⟨⟨dX12_errs_92, rfl⟩, rfl⟩, trivial⟩, trivial⟩, by decide, Or.inl ⟨rfl, by decide, rfl⟩⟩
set_option maxRecDepth 100000 in
theorem g_X12_errs_0 (S : sT) (call : cT) (n : Nat) (a0 : Nat) (x1 : Int32) (x2 : Int32) (h : pH) : bd S call dflT E_X12_errs (n + 1) 0 [some (.ref a0), some (.int x1), some (.int x2), none] [] h = (gV h (.ref a0) 15 1 (fun w1 => aI h w1 0 6 (fun y2 => gV h (.ref a0) 15 1 (fun w3 => nl w3 (aI h w3 0 6 (fun y4 => sI h w3 0 6 (y4 + 1) (fun h5 => (if y2 < 60 then gV h5 (.ref a0) 15 1 (fun w6 => sI h5 w6 0 (1997 + (4 * y2)) x1 (fun h7 => gV h7 (.ref a0) 15 1 (fun w8 => sI h7 w8 0 ((1997 + (4 * y2)) + 1) x2 (fun h9 => gV h9 (.ref a0) 15 1 (fun w10 => rC h9 (.ref a0) 15 (cI (call 48 [.ref a0] h9) (fun y12 h11 => sI h11 w10 0 ((1997 + (4 * y2)) + 2) y12 (fun h13 => gV h13 (.ref a0) 15 1 (fun w14 => gV h13 (.ref a0) 15 1 (fun w15 => aI h13 w15 0 5 (fun y16 => sI h13 w14 0 ((1997 + (4 * y2)) + 3) y16 (fun h17 => some (.inl none, h17))))))))))))) else some (.inl none, h5))))))))) := rfl
theorem dX12_let_0 : decode cX12_let 0 = .ok (.aload_n 0, 1) := by decide +kernel
theorem dX12_let_1 : decode cX12_let 1 = .ok (.invokevirtual 323, 3) := by decide +kernel
theorem dX12_let_4 : decode cX12_let 4 = .ok (.aload_n 0, 1) := by decide +kernel
theorem dX12_let_5 : decode cX12_let 5 = .ok (.iload_n 1, 1) := by decide +kernel
theorem dX12_let_6 : decode cX12_let 6 = .ok (.invokestatic 71, 3) := by decide +kernel
theorem dX12_let_9 : decode cX12_let 9 = .ok (.ifCond .ne 10, 3) := by decide +kernel
theorem dX12_let_12 : decode cX12_let 12 = .ok (.iload_n 2, 1) := by decide +kernel
theorem dX12_let_13 : decode cX12_let 13 = .ok (.invokestatic 71, 3) := by decide +kernel
theorem dX12_let_16 : decode cX12_let 16 = .ok (.ifCond .eq 7, 3) := by decide +kernel
theorem dX12_let_19 : decode cX12_let 19 = .ok (.iconst 1, 1) := by decide +kernel
theorem dX12_let_20 : decode cX12_let 20 = .ok (.goto 4, 3) := by decide +kernel
theorem dX12_let_23 : decode cX12_let 23 = .ok (.iconst 0, 1) := by decide +kernel
theorem dX12_let_24 : decode cX12_let 24 = .ok (.iconst 1, 1) := by decide +kernel
theorem dX12_let_25 : decode cX12_let 25 = .ok (.invokevirtual 75, 3) := by decide +kernel
theorem dX12_let_28 : decode cX12_let 28 = .ok (.ifCond .ne 38, 3) := by decide +kernel
theorem dX12_let_31 : decode cX12_let 31 = .ok (.aload_n 0, 1) := by decide +kernel
theorem dX12_let_32 : decode cX12_let 32 = .ok (.iload_n 3, 1) := by decide +kernel
theorem dX12_let_33 : decode cX12_let 33 = .ok (.iconst 0, 1) := by decide +kernel
theorem dX12_let_34 : decode cX12_let 34 = .ok (.bipush 99, 2) := by decide +kernel
theorem dX12_let_36 : decode cX12_let 36 = .ok (.invokestatic 63, 3) := by decide +kernel
theorem dX12_let_39 : decode cX12_let 39 = .ok (.ifCond .eq 15, 3) := by decide +kernel
theorem dX12_let_42 : decode cX12_let 42 = .ok (.iload 4, 2) := by decide +kernel
theorem dX12_let_44 : decode cX12_let 44 = .ok (.iconst 0, 1) := by decide +kernel
theorem dX12_let_45 : decode cX12_let 45 = .ok (.ldc_w 366, 3) := by decide +kernel
theorem dX12_let_48 : decode cX12_let 48 = .ok (.invokestatic 63, 3) := by decide +kernel
theorem dX12_let_51 : decode cX12_let 51 = .ok (.ifCond .ne 7, 3) := by decide +kernel
theorem dX12_let_54 : decode cX12_let 54 = .ok (.iconst 1, 1) := by decide +kernel
theorem dX12_let_55 : decode cX12_let 55 = .ok (.goto 4, 3) := by decide +kernel
theorem dX12_let_58 : decode cX12_let 58 = .ok (.iconst 0, 1) := by decide +kernel
theorem dX12_let_59 : decode cX12_let 59 = .ok (.iconst 2, 1) := by decide +kernel
theorem dX12_let_60 : decode cX12_let 60 = .ok (.invokevirtual 75, 3) := by decide +kernel
theorem dX12_let_63 : decode cX12_let 63 = .ok (.ifCond .eq 5, 3) := by decide +kernel
theorem dX12_let_66 : decode cX12_let 66 = .ok (.iconst 0, 1) := by decide +kernel
theorem dX12_let_67 : decode cX12_let 67 = .ok (.ireturn, 1) := by decide +kernel
theorem dX12_let_68 : decode cX12_let 68 = .ok (.aload_n 0, 1) := by decide +kernel
theorem dX12_let_69 : decode cX12_let 69 = .ok (.iconst 1, 1) := by decide +kernel
theorem dX12_let_70 : decode cX12_let 70 = .ok (.invokevirtual 326, 3) := by decide +kernel
theorem dX12_let_73 : decode cX12_let 73 = .ok (.istore 6, 2) := by decide +kernel
theorem dX12_let_75 : decode cX12_let 75 = .ok (.aload_n 0, 1) := by decide +kernel
theorem dX12_let_76 : decode cX12_let 76 = .ok (.iload 6, 2) := by decide +kernel
theorem dX12_let_78 : decode cX12_let 78 = .ok (.ifCond .ge 7, 3) := by decide +kernel
theorem dX12_let_81 : decode cX12_let 81 = .ok (.iconst 1, 1) := by decide +kernel
theorem dX12_let_82 : decode cX12_let 82 = .ok (.goto 4, 3) := by decide +kernel
theorem dX12_let_85 : decode cX12_let 85 = .ok (.iconst 0, 1) := by decide +kernel
theorem dX12_let_86 : decode cX12_let 86 = .ok (.iconst 2, 1) := by decide +kernel
theorem dX12_let_87 : decode cX12_let 87 = .ok (.invokevirtual 75, 3) := by decide +kernel
theorem dX12_let_90 : decode cX12_let 90 = .ok (.ifCond .eq 5, 3) := by decide +kernel
theorem dX12_let_93 : decode cX12_let 93 = .ok (.iconst 0, 1) := by decide +kernel
theorem dX12_let_94 : decode cX12_let 94 = .ok (.ireturn, 1) := by decide +kernel
theorem dX12_let_95 : decode cX12_let 95 = .ok (.aload_n 0, 1) := by decide +kernel
theorem dX12_let_96 : decode cX12_let 96 = .ok (.bipush 10, 2) := by decide +kernel
theorem dX12_let_98 : decode cX12_let 98 = .ok (.iconst 0, 1) := by decide +kernel
theorem dX12_let_99 : decode cX12_let 99 = .ok (.invokevirtual 311, 3) := by decide +kernel
theorem dX12_let_102 : decode cX12_let 102 = .ok (.istore 7, 2) := by decide +kernel
theorem dX12_let_104 : decode cX12_let 104 = .ok (.iload_n 3, 1) := by decide +kernel
theorem dX12_let_105 : decode cX12_let 105 = .ok (.ifCond .eq 18, 3) := by decide +kernel
theorem dX12_let_108 : decode cX12_let 108 = .ok (.iload 7, 2) := by decide +kernel
theorem dX12_let_110 : decode cX12_let 110 = .ok (.ifCond .lt 17, 3) := by decide +kernel
theorem dX12_let_113 : decode cX12_let 113 = .ok (.iload_n 3, 1) := by decide +kernel
theorem dX12_let_114 : decode cX12_let 114 = .ok (.aload_n 0, 1) := by decide +kernel
theorem dX12_let_115 : decode cX12_let 115 = .ok (.iload 7, 2) := by decide +kernel
theorem dX12_let_117 : decode cX12_let 117 = .ok (.invokevirtual 314, 3) := by decide +kernel
theorem dX12_let_120 : decode cX12_let 120 = .ok (.if_icmp .gt 7, 3) := by decide +kernel
theorem dX12_let_123 : decode cX12_let 123 = .ok (.iconst 1, 1) := by decide +kernel
theorem dX12_let_124 : decode cX12_let 124 = .ok (.goto 4, 3) := by decide +kernel
theorem dX12_let_127 : decode cX12_let 127 = .ok (.iconst 0, 1) := by decide +kernel
theorem dX12_let_128 : decode cX12_let 128 = .ok (.istore 8, 2) := by decide +kernel
theorem dX12_let_130 : decode cX12_let 130 = .ok (.aload_n 0, 1) := by decide +kernel
theorem dX12_let_131 : decode cX12_let 131 = .ok (.iload_n 1, 1) := by decide +kernel
theorem dX12_let_132 : decode cX12_let 132 = .ok (.iload_n 2, 1) := by decide +kernel
theorem dX12_let_133 : decode cX12_let 133 = .ok (.invokevirtual 367, 3) := by decide +kernel
theorem dX12_let_136 : decode cX12_let 136 = .ok (.ifCond .eq 13, 3) := by decide +kernel
theorem dX12_let_139 : decode cX12_let 139 = .ok (.iload 8, 2) := by decide +kernel
theorem dX12_let_141 : decode cX12_let 141 = .ok (.ifCond .ne 10, 3) := by decide +kernel
theorem dX12_let_144 : decode cX12_let 144 = .ok (.iload 5, 2) := by decide +kernel
theorem dX12_let_146 : decode cX12_let 146 = .ok (.ifCond .ne 5, 3) := by decide +kernel
theorem dX12_let_149 : decode cX12_let 149 = .ok (.iconst (-1), 1) := by decide +kernel
theorem dX12_let_150 : decode cX12_let 150 = .ok (.ireturn, 1) := by decide +kernel
theorem dX12_let_151 : decode cX12_let 151 = .ok (.aload_n 0, 1) := by decide +kernel
theorem dX12_let_152 : decode cX12_let 152 = .ok (.iload_n 1, 1) := by decide +kernel
theorem dX12_let_153 : decode cX12_let 153 = .ok (.iload_n 2, 1) := by decide +kernel
theorem dX12_let_154 : decode cX12_let 154 = .ok (.iload_n 3, 1) := by decide +kernel
theorem dX12_let_155 : decode cX12_let 155 = .ok (.ifCond .le 7, 3) := by decide +kernel
theorem dX12_let_158 : decode cX12_let 158 = .ok (.iconst 0, 1) := by decide +kernel
theorem dX12_let_159 : decode cX12_let 159 = .ok (.goto 4, 3) := by decide +kernel
theorem dX12_let_162 : decode cX12_let 162 = .ok (.iconst 1, 1) := by decide +kernel
theorem dX12_let_163 : decode cX12_let 163 = .ok (.invokevirtual 370, 3) := by decide +kernel
theorem dX12_let_166 : decode cX12_let 166 = .ok (.istore 9, 2) := by decide +kernel
theorem dX12_let_168 : decode cX12_let 168 = .ok (.aload_n 0, 1) := by decide +kernel
theorem dX12_let_169 : decode cX12_let 169 = .ok (.iload 9, 2) := by decide +kernel
theorem dX12_let_171 : decode cX12_let 171 = .ok (.iconst 1, 1) := by decide +kernel
theorem dX12_let_172 : decode cX12_let 172 = .ok (.iload 4, 2) := by decide +kernel
theorem dX12_let_174 : decode cX12_let 174 = .ok (.i2l, 1) := by decide +kernel
theorem dX12_let_175 : decode cX12_let 175 = .ok (.invokevirtual 373, 3) := by decide +kernel
theorem dX12_let_178 : decode cX12_let 178 = .ok (.iload_n 3, 1) := by decide +kernel
theorem dX12_let_179 : decode cX12_let 179 = .ok (.ifCond .le 23, 3) := by decide +kernel
theorem dX12_let_182 : decode cX12_let 182 = .ok (.aload_n 0, 1) := by decide +kernel
theorem dX12_let_183 : decode cX12_let 183 = .ok (.iload 9, 2) := by decide +kernel
theorem dX12_let_185 : decode cX12_let 185 = .ok (.iconst 4, 1) := by decide +kernel
theorem dX12_let_186 : decode cX12_let 186 = .ok (.iconst 4, 1) := by decide +kernel
theorem dX12_let_187 : decode cX12_let 187 = .ok (.aload_n 0, 1) := by decide +kernel
theorem dX12_let_188 : decode cX12_let 188 = .ok (.invokevirtual 97, 3) := by decide +kernel
theorem dX12_let_191 : decode cX12_let 191 = .ok (.iload_n 3, 1) := by decide +kernel
theorem dX12_let_192 : decode cX12_let 192 = .ok (.iadd, 1) := by decide +kernel
theorem dX12_let_193 : decode cX12_let 193 = .ok (.iconst 1, 1) := by decide +kernel
theorem dX12_let_194 : decode cX12_let 194 = .ok (.isub, 1) := by decide +kernel
theorem dX12_let_195 : decode cX12_let 195 = .ok (.imul, 1) := by decide +kernel
theorem dX12_let_196 : decode cX12_let 196 = .ok (.iconst 3, 1) := by decide +kernel
theorem dX12_let_197 : decode cX12_let 197 = .ok (.iadd, 1) := by decide +kernel
theorem dX12_let_198 : decode cX12_let 198 = .ok (.i2l, 1) := by decide +kernel
theorem dX12_let_199 : decode cX12_let 199 = .ok (.invokevirtual 373, 3) := by decide +kernel
theorem dX12_let_202 : decode cX12_let 202 = .ok (.aload_n 0, 1) := by decide +kernel
theorem dX12_let_203 : decode cX12_let 203 = .ok (.bipush 12, 2) := by decide +kernel
theorem dX12_let_205 : decode cX12_let 205 = .ok (.iload 9, 2) := by decide +kernel
theorem dX12_let_207 : decode cX12_let 207 = .ok (.iadd, 1) := by decide +kernel
theorem dX12_let_208 : decode cX12_let 208 = .ok (.invokevirtual 329, 3) := by decide +kernel
theorem dX12_let_211 : decode cX12_let 211 = .ok (.iload 8, 2) := by decide +kernel
theorem dX12_let_213 : decode cX12_let 213 = .ok (.ifCond .ne 9, 3) := by decide +kernel
theorem dX12_let_216 : decode cX12_let 216 = .ok (.aload_n 0, 1) := by decide +kernel
theorem dX12_let_217 : decode cX12_let 217 = .ok (.iconst 0, 1) := by decide +kernel
theorem dX12_let_218 : decode cX12_let 218 = .ok (.iconst 0, 1) := by decide +kernel
theorem dX12_let_219 : decode cX12_let 219 = .ok (.invokevirtual 377, 3) := by decide +kernel
theorem dX12_let_222 : decode cX12_let 222 = .ok (.iload 9, 2) := by decide +kernel
theorem dX12_let_224 : decode cX12_let 224 = .ok (.ireturn, 1) := by decide +kernel
noncomputable def E_X12_let : mE := (mX12_let, [(45, [(0, (.aload_n 0, 1, false, false, 0, 0, 0, 0, 0, 0, [])), (1, (.invokevirtual 323, 4, false, false, 112, 0, 0, 15, 0, 0, [])), (4, (.aload_n 0, 5, false, false, 0, 0, 0, 0, 0, 0, [])), (5, (.iload_n 1, 6, false, false, 1, 0, 0, 0, 0, 0, [])), (6, (.invokestatic 71, 9, false, false, 29, 1, 1, 0, 0, 0, [])), (9, (.ifCond .ne 10, 12, false, false, 19, 0, 0, 0, 0, 0, [])), (12, (.iload_n 2, 13, false, false, 2, 0, 0, 0, 0, 0, [])), (13, (.invokestatic 71, 16, false, false, 29, 1, 1, 0, 0, 0, [])), (16, (.ifCond .eq 7, 19, false, false, 23, 0, 0, 0, 0, 0, [])), (19, (.iconst 1, 20, false, false, 0, 0, 0, 0, 1, 0, [])), (20, (.goto 4, 23, false, true, 24, 0, 0, 0, 0, 0, [])), (23, (.iconst 0, 24, true, false, 0, 0, 0, 0, 0, 0, [])), (24, (.iconst 1, 25, false, false, 0, 0, 0, 0, 1, 0, [])), (25, (.invokevirtual 75, 28, false, false, 30, 2, 1, 15, 0, 0, [])), (28, (.ifCond .ne 38, 31, false, false, 66, 0, 0, 0, 0, 0, [])), (31, (.aload_n 0, 32, false, false, 0, 0, 0, 0, 0, 0, [])), (32, (.iload_n 3, 33, false, false, 3, 0, 0, 0, 0, 0, [])), (33, (.iconst 0, 34, false, false, 0, 0, 0, 0, 0, 0, [])), (34, (.bipush 99, 36, false, false, 0, 0, 0, 0, 99, 0, [])), (36, (.invokestatic 63, 39, false, false, 28, 3, 1, 0, 0, 0, [])), (39, (.ifCond .eq 15, 42, false, false, 54, 0, 0, 0, 0, 0, [])), (42, (.iload 4, 44, false, false, 4, 0, 0, 0, 0, 0, [])), (44, (.iconst 0, 45, false, false, 0, 0, 0, 0, 0, 0, [])), (45, (.ldc_w 366, 48, false, false, 0, 0, 0, 0, 100000, 0, []))]),
  (93, [(48, (.invokestatic 63, 51, false, false, 28, 3, 1, 0, 0, 0, [])), (51, (.ifCond .ne 7, 54, false, false, 58, 0, 0, 0, 0, 0, [])), (54, (.iconst 1, 55, false, false, 0, 0, 0, 0, 1, 0, [])), (55, (.goto 4, 58, false, true, 59, 0, 0, 0, 0, 0, [])), (58, (.iconst 0, 59, true, false, 0, 0, 0, 0, 0, 0, [])), (59, (.iconst 2, 60, false, false, 0, 0, 0, 0, 2, 0, [])), (60, (.invokevirtual 75, 63, false, false, 30, 2, 1, 15, 0, 0, [])), (63, (.ifCond .eq 5, 66, false, false, 68, 0, 0, 0, 0, 0, [])), (66, (.iconst 0, 67, false, false, 0, 0, 0, 0, 0, 0, [])), (67, (.ireturn, 68, false, false, 0, 0, 0, 0, 0, 0, [])), (68, (.aload_n 0, 69, false, false, 0, 0, 0, 0, 0, 0, [])), (69, (.iconst 1, 70, false, false, 0, 0, 0, 0, 1, 0, [])), (70, (.invokevirtual 326, 73, false, false, 139, 1, 1, 15, 0, 0, [])), (73, (.istore 6, 75, false, false, 6, 0, 0, 0, 0, 0, [])), (75, (.aload_n 0, 76, false, false, 0, 0, 0, 0, 0, 0, [])), (76, (.iload 6, 78, false, false, 6, 0, 0, 0, 0, 0, [])), (78, (.ifCond .ge 7, 81, false, false, 85, 0, 0, 0, 0, 0, [])), (81, (.iconst 1, 82, false, false, 0, 0, 0, 0, 1, 0, [])), (82, (.goto 4, 85, false, true, 86, 0, 0, 0, 0, 0, [])), (85, (.iconst 0, 86, true, false, 0, 0, 0, 0, 0, 0, [])), (86, (.iconst 2, 87, false, false, 0, 0, 0, 0, 2, 0, [])), (87, (.invokevirtual 75, 90, false, false, 30, 2, 1, 15, 0, 0, [])), (90, (.ifCond .eq 5, 93, false, false, 95, 0, 0, 0, 0, 0, [])), (93, (.iconst 0, 94, false, false, 0, 0, 0, 0, 0, 0, []))]),
  (136, [(94, (.ireturn, 95, false, false, 0, 0, 0, 0, 0, 0, [])), (95, (.aload_n 0, 96, false, false, 0, 0, 0, 0, 0, 0, [])), (96, (.bipush 10, 98, false, false, 0, 0, 0, 0, 10, 0, [])), (98, (.iconst 0, 99, false, false, 0, 0, 0, 0, 0, 0, [])), (99, (.invokevirtual 311, 102, false, false, 144, 2, 1, 15, 0, 0, [])), (102, (.istore 7, 104, false, false, 7, 0, 0, 0, 0, 0, [])), (104, (.iload_n 3, 105, false, false, 3, 0, 0, 0, 0, 0, [])), (105, (.ifCond .eq 18, 108, false, false, 123, 0, 0, 0, 0, 0, [])), (108, (.iload 7, 110, false, false, 7, 0, 0, 0, 0, 0, [])), (110, (.ifCond .lt 17, 113, false, false, 127, 0, 0, 0, 0, 0, [])), (113, (.iload_n 3, 114, false, false, 3, 0, 0, 0, 0, 0, [])), (114, (.aload_n 0, 115, false, false, 0, 0, 0, 0, 0, 0, [])), (115, (.iload 7, 117, false, false, 7, 0, 0, 0, 0, 0, [])), (117, (.invokevirtual 314, 120, false, false, 145, 1, 1, 15, 0, 0, [])), (120, (.if_icmp .gt 7, 123, false, false, 127, 0, 0, 0, 0, 0, [])), (123, (.iconst 1, 124, false, false, 0, 0, 0, 0, 1, 0, [])), (124, (.goto 4, 127, false, true, 128, 0, 0, 0, 0, 0, [])), (127, (.iconst 0, 128, true, false, 0, 0, 0, 0, 0, 0, [])), (128, (.istore 8, 130, false, false, 8, 0, 0, 0, 0, 0, [])), (130, (.aload_n 0, 131, false, false, 0, 0, 0, 0, 0, 0, [])), (131, (.iload_n 1, 132, false, false, 1, 0, 0, 0, 0, 0, [])), (132, (.iload_n 2, 133, false, false, 2, 0, 0, 0, 0, 0, [])), (133, (.invokevirtual 367, 136, false, false, 147, 2, 1, 15, 0, 0, [])), (136, (.ifCond .eq 13, 139, false, false, 149, 0, 0, 0, 0, 0, []))]),
  (179, [(139, (.iload 8, 141, false, false, 8, 0, 0, 0, 0, 0, [])), (141, (.ifCond .ne 10, 144, false, false, 151, 0, 0, 0, 0, 0, [])), (144, (.iload 5, 146, false, false, 5, 0, 0, 0, 0, 0, [])), (146, (.ifCond .ne 5, 149, false, false, 151, 0, 0, 0, 0, 0, [])), (149, (.iconst (-1), 150, false, false, 0, 0, 0, 0, -1, 0, [])), (150, (.ireturn, 151, false, false, 0, 0, 0, 0, 0, 0, [])), (151, (.aload_n 0, 152, false, false, 0, 0, 0, 0, 0, 0, [])), (152, (.iload_n 1, 153, false, false, 1, 0, 0, 0, 0, 0, [])), (153, (.iload_n 2, 154, false, false, 2, 0, 0, 0, 0, 0, [])), (154, (.iload_n 3, 155, false, false, 3, 0, 0, 0, 0, 0, [])), (155, (.ifCond .le 7, 158, false, false, 162, 0, 0, 0, 0, 0, [])), (158, (.iconst 0, 159, false, false, 0, 0, 0, 0, 0, 0, [])), (159, (.goto 4, 162, false, true, 163, 0, 0, 0, 0, 0, [])), (162, (.iconst 1, 163, true, false, 0, 0, 0, 0, 1, 0, [])), (163, (.invokevirtual 370, 166, false, false, 149, 3, 1, 15, 0, 0, [])), (166, (.istore 9, 168, false, false, 9, 0, 0, 0, 0, 0, [])), (168, (.aload_n 0, 169, false, false, 0, 0, 0, 0, 0, 0, [])), (169, (.iload 9, 171, false, false, 9, 0, 0, 0, 0, 0, [])), (171, (.iconst 1, 172, false, false, 0, 0, 0, 0, 1, 0, [])), (172, (.iload 4, 174, false, false, 4, 0, 0, 0, 0, 0, [])), (174, (.i2l, 175, false, false, 0, 0, 0, 0, 0, 0, [])), (175, (.invokevirtual 373, 178, false, false, 151, 3, 0, 15, 0, 0, [])), (178, (.iload_n 3, 179, false, false, 3, 0, 0, 0, 0, 0, [])), (179, (.ifCond .le 23, 182, false, true, 202, 0, 0, 0, 0, 0, []))]),
  (217, [(182, (.aload_n 0, 183, false, false, 0, 0, 0, 0, 0, 0, [])), (183, (.iload 9, 185, false, false, 9, 0, 0, 0, 0, 0, [])), (185, (.iconst 4, 186, false, false, 0, 0, 0, 0, 4, 0, [])), (186, (.iconst 4, 187, false, false, 0, 0, 0, 0, 4, 0, [])), (187, (.aload_n 0, 188, false, false, 0, 0, 0, 0, 0, 0, [])), (188, (.invokevirtual 97, 191, false, false, 152, 0, 1, 15, 0, 0, [])), (191, (.iload_n 3, 192, false, false, 3, 0, 0, 0, 0, 0, [])), (192, (.iadd, 193, false, false, 0, 0, 0, 0, 0, 0, [])), (193, (.iconst 1, 194, false, false, 0, 0, 0, 0, 1, 0, [])), (194, (.isub, 195, false, false, 0, 0, 0, 0, 0, 0, [])), (195, (.imul, 196, false, false, 0, 0, 0, 0, 0, 0, [])), (196, (.iconst 3, 197, false, false, 0, 0, 0, 0, 3, 0, [])), (197, (.iadd, 198, false, false, 0, 0, 0, 0, 0, 0, [])), (198, (.i2l, 199, false, false, 0, 0, 0, 0, 0, 0, [])), (199, (.invokevirtual 373, 202, true, false, 151, 3, 0, 15, 0, 0, [])), (202, (.aload_n 0, 203, false, false, 0, 0, 0, 0, 0, 0, [])), (203, (.bipush 12, 205, false, false, 0, 0, 0, 0, 12, 0, [])), (205, (.iload 9, 207, false, false, 9, 0, 0, 0, 0, 0, [])), (207, (.iadd, 208, false, false, 0, 0, 0, 0, 0, 0, [])), (208, (.invokevirtual 329, 211, false, false, 153, 1, 0, 15, 0, 0, [])), (211, (.iload 8, 213, false, false, 8, 0, 0, 0, 0, 0, [])), (213, (.ifCond .ne 9, 216, false, false, 222, 0, 0, 0, 0, 0, [])), (216, (.aload_n 0, 217, false, false, 0, 0, 0, 0, 0, 0, [])), (217, (.iconst 0, 218, false, false, 0, 0, 0, 0, 0, 0, []))]),
  (224, [(218, (.iconst 0, 219, false, false, 0, 0, 0, 0, 0, 0, [])), (219, (.invokevirtual 377, 222, false, false, 154, 2, 0, 15, 0, 0, [])), (222, (.iload 9, 224, false, false, 9, 0, 0, 0, 0, 0, [])), (224, (.ireturn, 225, false, false, 0, 0, 0, 0, 0, 0, []))])], 0, [])
set_option maxRecDepth 100000 in
theorem v_X12_let : VE MYT dflT E_X12_let := ⟨⟨⟨⟨⟨dX12_let_0, rfl⟩, rfl⟩, ⟨⟨dX12_let_1, rfl⟩, Or.inr ⟨by decide, ⟨_, my_112, sX12_323⟩, fun q => absurd q (by decide)⟩⟩, ⟨⟨dX12_let_4, rfl⟩, rfl⟩, ⟨⟨dX12_let_5, rfl⟩, rfl⟩, ⟨⟨dX12_let_6, rfl⟩, Or.inl ⟨rfl, _, my_29, sX12_71⟩⟩, ⟨⟨dX12_let_9, rfl⟩, rfl⟩, ⟨⟨dX12_let_12, rfl⟩, rfl⟩, ⟨⟨dX12_let_13, rfl⟩, Or.inl ⟨rfl, _, my_29, sX12_71⟩⟩, ⟨⟨dX12_let_16, rfl⟩, rfl⟩, ⟨⟨dX12_let_19, rfl⟩, rfl⟩, ⟨⟨dX12_let_20, rfl⟩, rfl⟩, ⟨⟨dX12_let_23, rfl⟩, rfl⟩, ⟨⟨dX12_let_24, rfl⟩, rfl⟩, ⟨⟨dX12_let_25, rfl⟩, Or.inr ⟨by decide, ⟨_, my_30, sX12_75⟩, fun q => absurd q (by decide)⟩⟩, ⟨⟨dX12_let_28, rfl⟩, rfl⟩, ⟨⟨dX12_let_31, rfl⟩, rfl⟩, ⟨⟨dX12_let_32, rfl⟩, rfl⟩, ⟨⟨dX12_let_33, rfl⟩, rfl⟩, ⟨⟨dX12_let_34, rfl⟩, rfl⟩, ⟨⟨dX12_let_36, rfl⟩, Or.inl ⟨rfl, _, my_28, sX12_63⟩⟩, ⟨⟨dX12_let_39, rfl⟩, rfl⟩, ⟨⟨dX12_let_42, rfl⟩, rfl⟩, ⟨⟨dX12_let_44, rfl⟩, rfl⟩, ⟨⟨dX12_let_45, rfl⟩, Or.inl ⟨rfl, kX12_366⟩⟩, trivial⟩,
  ⟨⟨⟨dX12_let_48, rfl⟩, Or.inl ⟨rfl, _, my_28, sX12_63⟩⟩, ⟨⟨dX12_let_51, rfl⟩, rfl⟩, ⟨⟨dX12_let_54, rfl⟩, rfl⟩, ⟨⟨dX12_let_55, rfl⟩, rfl⟩, ⟨⟨dX12_let_58, rfl⟩, rfl⟩, ⟨⟨dX12_let_59, rfl⟩, rfl⟩, ⟨⟨dX12_let_60, rfl⟩, Or.inr ⟨by decide, ⟨_, my_30, sX12_75⟩, fun q => absurd q (by decide)⟩⟩, ⟨⟨dX12_let_63, rfl⟩, rfl⟩, ⟨⟨dX12_let_66, rfl⟩, rfl⟩, ⟨⟨dX12_let_67, rfl⟩, Or.inl ⟨rfl, rfl⟩⟩, ⟨⟨dX12_let_68, rfl⟩, rfl⟩, ⟨⟨dX12_let_69, rfl⟩, rfl⟩, ⟨⟨dX12_let_70, rfl⟩, Or.inr ⟨by decide, ⟨_, my_139, sX12_326⟩, fun q => absurd q (by decide)⟩⟩, ⟨⟨dX12_let_73, rfl⟩, rfl⟩, ⟨⟨dX12_let_75, rfl⟩, rfl⟩, ⟨⟨dX12_let_76, rfl⟩, rfl⟩, ⟨⟨dX12_let_78, rfl⟩, rfl⟩, ⟨⟨dX12_let_81, rfl⟩, rfl⟩, ⟨⟨dX12_let_82, rfl⟩, rfl⟩, ⟨⟨dX12_let_85, rfl⟩, rfl⟩, ⟨⟨dX12_let_86, rfl⟩, rfl⟩, ⟨⟨dX12_let_87, rfl⟩, Or.inr ⟨by decide, ⟨_, my_30, sX12_75⟩, fun q => absurd q (by decide)⟩⟩, ⟨⟨dX12_let_90, rfl⟩, rfl⟩, ⟨⟨dX12_let_93, rfl⟩, rfl⟩, trivial⟩,
  ⟨⟨⟨dX12_let_94, rfl⟩, Or.inl ⟨rfl, rfl⟩⟩, ⟨⟨dX12_let_95, rfl⟩, rfl⟩, ⟨⟨dX12_let_96, rfl⟩, rfl⟩, ⟨⟨dX12_let_98, rfl⟩, rfl⟩, ⟨⟨dX12_let_99, rfl⟩, Or.inr ⟨by decide, ⟨_, my_144, sX12_311⟩, fun q => absurd q (by decide)⟩⟩, ⟨⟨dX12_let_102, rfl⟩, rfl⟩, ⟨⟨dX12_let_104, rfl⟩, rfl⟩, ⟨⟨dX12_let_105, rfl⟩, rfl⟩, ⟨⟨dX12_let_108, rfl⟩, rfl⟩, ⟨⟨dX12_let_110, rfl⟩, rfl⟩, ⟨⟨dX12_let_113, rfl⟩, rfl⟩, ⟨⟨dX12_let_114, rfl⟩, rfl⟩, ⟨⟨dX12_let_115, rfl⟩, rfl⟩, ⟨⟨dX12_let_117, rfl⟩, Or.inr ⟨by decide, ⟨_, my_145, sX12_314⟩, fun q => absurd q (by decide)⟩⟩, ⟨⟨dX12_let_120, rfl⟩, rfl⟩, ⟨⟨dX12_let_123, rfl⟩, rfl⟩, ⟨⟨dX12_let_124, rfl⟩, rfl⟩, ⟨⟨dX12_let_127, rfl⟩, rfl⟩, ⟨⟨dX12_let_128, rfl⟩, rfl⟩, ⟨⟨dX12_let_130, rfl⟩, rfl⟩, ⟨⟨dX12_let_131, rfl⟩, rfl⟩, ⟨⟨dX12_let_132, rfl⟩, rfl⟩, ⟨⟨dX12_let_133, rfl⟩, Or.inr ⟨by decide, ⟨_, my_147, sX12_367⟩, fun q => absurd q (by decide)⟩⟩, ⟨⟨dX12_let_136, rfl⟩, rfl⟩, trivial⟩,
  ⟨⟨⟨dX12_let_139, rfl⟩, rfl⟩, ⟨⟨dX12_let_141, rfl⟩, rfl⟩, ⟨⟨dX12_let_144, rfl⟩, rfl⟩, ⟨⟨dX12_let_146, rfl⟩, rfl⟩, ⟨⟨dX12_let_149, rfl⟩, rfl⟩, ⟨⟨dX12_let_150, rfl⟩, Or.inl ⟨rfl, rfl⟩⟩, ⟨⟨dX12_let_151, rfl⟩, rfl⟩, ⟨⟨dX12_let_152, rfl⟩, rfl⟩, ⟨⟨dX12_let_153, rfl⟩, rfl⟩, ⟨⟨dX12_let_154, rfl⟩, rfl⟩, ⟨⟨dX12_let_155, rfl⟩, rfl⟩, ⟨⟨dX12_let_158, rfl⟩, rfl⟩, ⟨⟨dX12_let_159, rfl⟩, rfl⟩, ⟨⟨dX12_let_162, rfl⟩, rfl⟩, ⟨⟨dX12_let_163, rfl⟩, Or.inr ⟨by decide, ⟨_, my_149, sX12_370⟩, fun q => absurd q (by decide)⟩⟩, ⟨⟨dX12_let_166, rfl⟩, rfl⟩, ⟨⟨dX12_let_168, rfl⟩, rfl⟩, ⟨⟨dX12_let_169, rfl⟩, rfl⟩, ⟨⟨dX12_let_171, rfl⟩, rfl⟩, ⟨⟨dX12_let_172, rfl⟩, rfl⟩, ⟨⟨dX12_let_174, rfl⟩, trivial⟩, ⟨⟨dX12_let_175, rfl⟩, Or.inr ⟨by decide, ⟨_, my_151, sX12_373⟩, fun q => absurd q (by decide)⟩⟩, ⟨⟨dX12_let_178, rfl⟩, rfl⟩, ⟨⟨dX12_let_179, rfl⟩, rfl⟩, trivial⟩,
  ⟨⟨⟨dX12_let_182, rfl⟩, rfl⟩, ⟨⟨dX12_let_183, rfl⟩, rfl⟩, ⟨⟨dX12_let_185, rfl⟩, rfl⟩, ⟨⟨dX12_let_186, rfl⟩, rfl⟩, ⟨⟨dX12_let_187, rfl⟩, rfl⟩, ⟨⟨dX12_let_188, rfl⟩, Or.inr ⟨by decide, ⟨_, my_152, sX12_97⟩, fun q => absurd q (by decide)⟩⟩, ⟨⟨dX12_let_191, rfl⟩, rfl⟩, ⟨⟨dX12_let_192, rfl⟩, trivial⟩, ⟨⟨dX12_let_193, rfl⟩, rfl⟩, ⟨⟨dX12_let_194, rfl⟩, trivial⟩, ⟨⟨dX12_let_195, rfl⟩, trivial⟩, ⟨⟨dX12_let_196, rfl⟩, rfl⟩, ⟨⟨dX12_let_197, rfl⟩, trivial⟩, ⟨⟨dX12_let_198, rfl⟩, trivial⟩, ⟨⟨dX12_let_199, rfl⟩, Or.inr ⟨by decide, ⟨_, my_151, sX12_373⟩, fun q => absurd q (by decide)⟩⟩, ⟨⟨dX12_let_202, rfl⟩, rfl⟩, ⟨⟨dX12_let_203, rfl⟩, rfl⟩, ⟨⟨dX12_let_205, rfl⟩, rfl⟩, ⟨⟨dX12_let_207, rfl⟩, trivial⟩, ⟨⟨dX12_let_208, rfl⟩, Or.inr ⟨by decide, ⟨_, my_153, sX12_329⟩, fun q => absurd q (by decide)⟩⟩, ⟨⟨dX12_let_211, rfl⟩, rfl⟩, ⟨⟨dX12_let_213, rfl⟩, rfl⟩, ⟨⟨dX12_let_216, rfl⟩, rfl⟩, ⟨⟨dX12_let_217, rfl⟩, rfl⟩, trivial⟩,
  ⟨⟨⟨dX12_let_218, rfl⟩, rfl⟩, ⟨⟨dX12_let_219, rfl⟩, Or.inr ⟨by decide, ⟨_, my_154, sX12_377⟩, fun q => absurd q (by decide)⟩⟩, ⟨⟨dX12_let_222, rfl⟩, rfl⟩, ⟨⟨dX12_let_224, rfl⟩, Or.inl ⟨rfl, rfl⟩⟩, trivial⟩, trivial⟩, by decide, Or.inl ⟨rfl, by decide, rfl⟩⟩
set_option maxRecDepth 100000 in
theorem g_X12_let_0 (S : sT) (call : cT) (n : Nat) (a0 : Nat) (x1 : Int32) (x2 : Int32) (x3 : Int32) (x4 : Int32) (x5 : Int32) (h : pH) : bd S call dflT E_X12_let (n + 1) 0 [some (.ref a0), some (.int x1), some (.int x2), some (.int x3), some (.int x4), some (.int x5), none, none, none, none] [] h = (rC h (.ref a0) 15 (cU (call 112 [.ref a0] h) (fun h1 => cI (call 29 [.int x1] h1) (fun y3 h2 => (if y3 = 0 then cI (call 29 [.int x2] h2) (fun y5 h4 => (if y5 = 0 then bd S call dflT E_X12_let n 24 [some (.ref a0), some (.int x1), some (.int x2), some (.int x3), some (.int x4), some (.int x5), none, none, none, none] [.int 0, .ref a0] h4 else bd S call dflT E_X12_let n 24 [some (.ref a0), some (.int x1), some (.int x2), some (.int x3), some (.int x4), some (.int x5), none, none, none, none] [.int 1, .ref a0] h4)) else bd S call dflT E_X12_let n 24 [some (.ref a0), some (.int x1), some (.int x2), some (.int x3), some (.int x4), some (.int x5), none, none, none, none] [.int 1, .ref a0] h2))))) := rfl
set_option maxRecDepth 100000 in
theorem g_X12_let_24 (S : sT) (call : cT) (n : Nat) (a0 : Nat) (x1 : Int32) (x2 : Int32) (x3 : Int32) (x4 : Int32) (x5 : Int32) (o6 : Option Value) (o7 : Option Value) (o8 : Option Value) (o9 : Option Value) (u0 : Value) (y1 : Int32) (h : pH) : bd S call dflT E_X12_let (n + 1) 24 [some (.ref a0), some (.int x1), some (.int x2), some (.int x3), some (.int x4), some (.int x5), o6, o7, o8, o9] [.int y1, u0] h = (rC h u0 15 (cI (call 30 [u0, .int y1, .int 1] h) (fun y2 h1 => (if y2 = 0 then cI (call 28 [.int x3, .int 0, .int 99] h1) (fun y4 h3 => (if y4 = 0 then bd S call dflT E_X12_let n 59 [some (.ref a0), some (.int x1), some (.int x2), some (.int x3), some (.int x4), some (.int x5), o6, o7, o8, o9] [.int 1, .ref a0] h3 else cI (call 28 [.int x4, .int 0, .int 100000] h3) (fun y6 h5 => (if y6 = 0 then bd S call dflT E_X12_let n 59 [some (.ref a0), some (.int x1), some (.int x2), some (.int x3), some (.int x4), some (.int x5), o6, o7, o8, o9] [.int 1, .ref a0] h5 else bd S call dflT E_X12_let n 59 [some (.ref a0), some (.int x1), some (.int x2), some (.int x3), some (.int x4), some (.int x5), o6, o7, o8, o9] [.int 0, .ref a0] h5)))) else some (.inl (some (.int 0)), h1))))) := rfl
set_option maxRecDepth 100000 in
theorem g_X12_let_59 (S : sT) (call : cT) (n : Nat) (a0 : Nat) (x1 : Int32) (x2 : Int32) (x3 : Int32) (x4 : Int32) (x5 : Int32) (o6 : Option Value) (o7 : Option Value) (o8 : Option Value) (o9 : Option Value) (u0 : Value) (y1 : Int32) (h : pH) : bd S call dflT E_X12_let (n + 1) 59 [some (.ref a0), some (.int x1), some (.int x2), some (.int x3), some (.int x4), some (.int x5), o6, o7, o8, o9] [.int y1, u0] h = (rC h u0 15 (cI (call 30 [u0, .int y1, .int 2] h) (fun y2 h1 => (if y2 = 0 then rC h1 (.ref a0) 15 (cI (call 139 [.ref a0, .int 1] h1) (fun y4 h3 => (if 0 ≤ y4 then bd S call dflT E_X12_let n 86 [some (.ref a0), some (.int x1), some (.int x2), some (.int x3), some (.int x4), some (.int x5), some (.int y4), o7, o8, o9] [.int 0, .ref a0] h3 else bd S call dflT E_X12_let n 86 [some (.ref a0), some (.int x1), some (.int x2), some (.int x3), some (.int x4), some (.int x5), some (.int y4), o7, o8, o9] [.int 1, .ref a0] h3))) else some (.inl (some (.int 0)), h1))))) := rfl
set_option maxRecDepth 100000 in
theorem g_X12_let_86 (S : sT) (call : cT) (n : Nat) (a0 : Nat) (x1 : Int32) (x2 : Int32) (x3 : Int32) (x4 : Int32) (x5 : Int32) (x6 : Int32) (o7 : Option Value) (o8 : Option Value) (o9 : Option Value) (u0 : Value) (y1 : Int32) (h : pH) : bd S call dflT E_X12_let (n + 1) 86 [some (.ref a0), some (.int x1), some (.int x2), some (.int x3), some (.int x4), some (.int x5), some (.int x6), o7, o8, o9] [.int y1, u0] h = (rC h u0 15 (cI (call 30 [u0, .int y1, .int 2] h) (fun y2 h1 => (if y2 = 0 then rC h1 (.ref a0) 15 (cI (call 144 [.ref a0, .int 10, .int 0] h1) (fun y4 h3 => (if x3 = 0 then bd S call dflT E_X12_let n 128 [some (.ref a0), some (.int x1), some (.int x2), some (.int x3), some (.int x4), some (.int x5), some (.int x6), some (.int y4), o8, o9] [.int 1] h3 else (if y4 < 0 then bd S call dflT E_X12_let n 128 [some (.ref a0), some (.int x1), some (.int x2), some (.int x3), some (.int x4), some (.int x5), some (.int x6), some (.int y4), o8, o9] [.int 0] h3 else rC h3 (.ref a0) 15 (cI (call 145 [.ref a0, .int y4] h3) (fun y6 h5 => (if y6 < x3 then bd S call dflT E_X12_let n 128 [some (.ref a0), some (.int x1), some (.int x2), some (.int x3), some (.int x4), some (.int x5), some (.int x6), some (.int y4), o8, o9] [.int 0] h5 else bd S call dflT E_X12_let n 128 [some (.ref a0), some (.int x1), some (.int x2), some (.int x3), some (.int x4), some (.int x5), some (.int x6), some (.int y4), o8, o9] [.int 1] h5))))))) else some (.inl (some (.int 0)), h1))))) := rfl
set_option maxRecDepth 100000 in
theorem g_X12_let_128 (S : sT) (call : cT) (n : Nat) (a0 : Nat) (x1 : Int32) (x2 : Int32) (x3 : Int32) (x4 : Int32) (x5 : Int32) (x6 : Int32) (x7 : Int32) (o8 : Option Value) (o9 : Option Value) (y0 : Int32) (h : pH) : bd S call dflT E_X12_let (n + 1) 128 [some (.ref a0), some (.int x1), some (.int x2), some (.int x3), some (.int x4), some (.int x5), some (.int x6), some (.int x7), o8, o9] [.int y0] h = (rC h (.ref a0) 15 (cI (call 147 [.ref a0, .int x1, .int x2] h) (fun y2 h1 => (if y2 = 0 then some (.inl (some (.int (-1))), h1) else (if y0 = 0 then (if x5 = 0 then some (.inl (some (.int (-1))), h1) else (if x3 ≤ 0 then bd S call dflT E_X12_let n 163 [some (.ref a0), some (.int x1), some (.int x2), some (.int x3), some (.int x4), some (.int x5), some (.int x6), some (.int x7), some (.int y0), o9] [.int 1, .int x2, .int x1, .ref a0] h1 else bd S call dflT E_X12_let n 163 [some (.ref a0), some (.int x1), some (.int x2), some (.int x3), some (.int x4), some (.int x5), some (.int x6), some (.int x7), some (.int y0), o9] [.int 0, .int x2, .int x1, .ref a0] h1)) else (if x3 ≤ 0 then bd S call dflT E_X12_let n 163 [some (.ref a0), some (.int x1), some (.int x2), some (.int x3), some (.int x4), some (.int x5), some (.int x6), some (.int x7), some (.int y0), o9] [.int 1, .int x2, .int x1, .ref a0] h1 else bd S call dflT E_X12_let n 163 [some (.ref a0), some (.int x1), some (.int x2), some (.int x3), some (.int x4), some (.int x5), some (.int x6), some (.int x7), some (.int y0), o9] [.int 0, .int x2, .int x1, .ref a0] h1)))))) := rfl
set_option maxRecDepth 100000 in
theorem g_X12_let_163 (S : sT) (call : cT) (n : Nat) (a0 : Nat) (x1 : Int32) (x2 : Int32) (x3 : Int32) (x4 : Int32) (x5 : Int32) (x6 : Int32) (x7 : Int32) (x8 : Int32) (o9 : Option Value) (u0 : Value) (y1 : Int32) (y2 : Int32) (y3 : Int32) (h : pH) : bd S call dflT E_X12_let (n + 1) 163 [some (.ref a0), some (.int x1), some (.int x2), some (.int x3), some (.int x4), some (.int x5), some (.int x6), some (.int x7), some (.int x8), o9] [.int y3, .int y2, .int y1, u0] h = (rC h u0 15 (cI (call 149 [u0, .int y1, .int y2, .int y3] h) (fun y2 h1 => rC h1 (.ref a0) 15 (cU (call 151 [.ref a0, .int y2, .int 1, .long x4.toInt64] h1) (fun h3 => (if x3 ≤ 0 then bd S call dflT E_X12_let n 202 [some (.ref a0), some (.int x1), some (.int x2), some (.int x3), some (.int x4), some (.int x5), some (.int x6), some (.int x7), some (.int x8), some (.int y2)] [] h3 else rC h3 (.ref a0) 15 (cI (call 152 [.ref a0] h3) (fun y5 h4 => rC h4 (.ref a0) 15 (cU (call 151 [.ref a0, .int y2, .int 4, .long ((4 * ((y5 + x3) - 1)) + 3).toInt64] h4) (fun h6 => bd S call dflT E_X12_let n 202 [some (.ref a0), some (.int x1), some (.int x2), some (.int x3), some (.int x4), some (.int x5), some (.int x6), some (.int x7), some (.int x8), some (.int y2)] [] h6)))))))))) := rfl
set_option maxRecDepth 100000 in
theorem g_X12_let_202 (S : sT) (call : cT) (n : Nat) (a0 : Nat) (x1 : Int32) (x2 : Int32) (x3 : Int32) (x4 : Int32) (x5 : Int32) (x6 : Int32) (x7 : Int32) (x8 : Int32) (x9 : Int32) (h : pH) : bd S call dflT E_X12_let (n + 1) 202 [some (.ref a0), some (.int x1), some (.int x2), some (.int x3), some (.int x4), some (.int x5), some (.int x6), some (.int x7), some (.int x8), some (.int x9)] [] h = (rC h (.ref a0) 15 (cU (call 153 [.ref a0, .int (12 + x9)] h) (fun h1 => (if x8 = 0 then rC h1 (.ref a0) 15 (cU (call 154 [.ref a0, .int 0, .int 0] h1) (fun h2 => some (.inl (some (.int x9)), h2))) else some (.inl (some (.int x9)), h1))))) := rfl
theorem dX12_keep_0 : decode cX12_keep 0 = .ok (.aload_n 0, 1) := by decide +kernel
theorem dX12_keep_1 : decode cX12_keep 1 = .ok (.iconst 0, 1) := by decide +kernel
theorem dX12_keep_2 : decode cX12_keep 2 = .ok (.putfield 3, 3) := by decide +kernel
theorem dX12_keep_5 : decode cX12_keep 5 = .ok (.aload_n 0, 1) := by decide +kernel
theorem dX12_keep_6 : decode cX12_keep 6 = .ok (.iload_n 1, 1) := by decide +kernel
theorem dX12_keep_7 : decode cX12_keep 7 = .ok (.invokestatic 71, 3) := by decide +kernel
theorem dX12_keep_10 : decode cX12_keep 10 = .ok (.ifCond .ne 10, 3) := by decide +kernel
theorem dX12_keep_13 : decode cX12_keep 13 = .ok (.iload_n 2, 1) := by decide +kernel
theorem dX12_keep_14 : decode cX12_keep 14 = .ok (.invokestatic 71, 3) := by decide +kernel
theorem dX12_keep_17 : decode cX12_keep 17 = .ok (.ifCond .eq 7, 3) := by decide +kernel
theorem dX12_keep_20 : decode cX12_keep 20 = .ok (.iconst 1, 1) := by decide +kernel
theorem dX12_keep_21 : decode cX12_keep 21 = .ok (.goto 4, 3) := by decide +kernel
theorem dX12_keep_24 : decode cX12_keep 24 = .ok (.iconst 0, 1) := by decide +kernel
theorem dX12_keep_25 : decode cX12_keep 25 = .ok (.iconst 1, 1) := by decide +kernel
theorem dX12_keep_26 : decode cX12_keep 26 = .ok (.invokevirtual 75, 3) := by decide +kernel
theorem dX12_keep_29 : decode cX12_keep 29 = .ok (.ifCond .eq 5, 3) := by decide +kernel
theorem dX12_keep_32 : decode cX12_keep 32 = .ok (.iconst 0, 1) := by decide +kernel
theorem dX12_keep_33 : decode cX12_keep 33 = .ok (.ireturn, 1) := by decide +kernel
theorem dX12_keep_34 : decode cX12_keep 34 = .ok (.iload_n 3, 1) := by decide +kernel
theorem dX12_keep_35 : decode cX12_keep 35 = .ok (.iconst 4, 1) := by decide +kernel
theorem dX12_keep_36 : decode cX12_keep 36 = .ok (.if_icmp .ne 34, 3) := by decide +kernel
theorem dX12_keep_39 : decode cX12_keep 39 = .ok (.iload 4, 2) := by decide +kernel
theorem dX12_keep_41 : decode cX12_keep 41 = .ok (.iconst 0, 1) := by decide +kernel
theorem dX12_keep_42 : decode cX12_keep 42 = .ok (.sipush 2000, 3) := by decide +kernel
theorem dX12_keep_45 : decode cX12_keep 45 = .ok (.invokestatic 63, 3) := by decide +kernel
theorem dX12_keep_48 : decode cX12_keep 48 = .ok (.ifCond .eq 18, 3) := by decide +kernel
theorem dX12_keep_51 : decode cX12_keep 51 = .ok (.iload 5, 2) := by decide +kernel
theorem dX12_keep_53 : decode cX12_keep 53 = .ok (.iconst 0, 1) := by decide +kernel
theorem dX12_keep_54 : decode cX12_keep 54 = .ok (.bipush 100, 2) := by decide +kernel
theorem dX12_keep_56 : decode cX12_keep 56 = .ok (.invokestatic 63, 3) := by decide +kernel
theorem dX12_keep_59 : decode cX12_keep 59 = .ok (.ifCond .eq 7, 3) := by decide +kernel
theorem dX12_keep_62 : decode cX12_keep 62 = .ok (.iconst 1, 1) := by decide +kernel
theorem dX12_keep_63 : decode cX12_keep 63 = .ok (.goto 29, 3) := by decide +kernel
theorem dX12_keep_66 : decode cX12_keep 66 = .ok (.iconst 0, 1) := by decide +kernel
theorem dX12_keep_67 : decode cX12_keep 67 = .ok (.goto 25, 3) := by decide +kernel
theorem dX12_keep_70 : decode cX12_keep 70 = .ok (.iload_n 3, 1) := by decide +kernel
theorem dX12_keep_71 : decode cX12_keep 71 = .ok (.iconst 5, 1) := by decide +kernel
theorem dX12_keep_72 : decode cX12_keep 72 = .ok (.if_icmp .ne 15, 3) := by decide +kernel
theorem dX12_keep_75 : decode cX12_keep 75 = .ok (.iload 4, 2) := by decide +kernel
theorem dX12_keep_77 : decode cX12_keep 77 = .ok (.iconst 0, 1) := by decide +kernel
theorem dX12_keep_78 : decode cX12_keep 78 = .ok (.sipush 1000, 3) := by decide +kernel
theorem dX12_keep_81 : decode cX12_keep 81 = .ok (.invokestatic 63, 3) := by decide +kernel
theorem dX12_keep_84 : decode cX12_keep 84 = .ok (.ifCond .eq 7, 3) := by decide +kernel
theorem dX12_keep_87 : decode cX12_keep 87 = .ok (.iconst 1, 1) := by decide +kernel
theorem dX12_keep_88 : decode cX12_keep 88 = .ok (.goto 4, 3) := by decide +kernel
theorem dX12_keep_91 : decode cX12_keep 91 = .ok (.iconst 0, 1) := by decide +kernel
theorem dX12_keep_92 : decode cX12_keep 92 = .ok (.istore 6, 2) := by decide +kernel
theorem dX12_keep_94 : decode cX12_keep 94 = .ok (.aload_n 0, 1) := by decide +kernel
theorem dX12_keep_95 : decode cX12_keep 95 = .ok (.iload_n 3, 1) := by decide +kernel
theorem dX12_keep_96 : decode cX12_keep 96 = .ok (.iconst 2, 1) := by decide +kernel
theorem dX12_keep_97 : decode cX12_keep 97 = .ok (.iconst 5, 1) := by decide +kernel
theorem dX12_keep_98 : decode cX12_keep 98 = .ok (.invokestatic 63, 3) := by decide +kernel
theorem dX12_keep_101 : decode cX12_keep 101 = .ok (.ifCond .eq 8, 3) := by decide +kernel
theorem dX12_keep_104 : decode cX12_keep 104 = .ok (.iload 6, 2) := by decide +kernel
theorem dX12_keep_106 : decode cX12_keep 106 = .ok (.ifCond .ne 7, 3) := by decide +kernel
theorem dX12_keep_109 : decode cX12_keep 109 = .ok (.iconst 1, 1) := by decide +kernel
theorem dX12_keep_110 : decode cX12_keep 110 = .ok (.goto 4, 3) := by decide +kernel
theorem dX12_keep_113 : decode cX12_keep 113 = .ok (.iconst 0, 1) := by decide +kernel
theorem dX12_keep_114 : decode cX12_keep 114 = .ok (.iconst 2, 1) := by decide +kernel
theorem dX12_keep_115 : decode cX12_keep 115 = .ok (.invokevirtual 75, 3) := by decide +kernel
theorem dX12_keep_118 : decode cX12_keep 118 = .ok (.ifCond .eq 5, 3) := by decide +kernel
theorem dX12_keep_121 : decode cX12_keep 121 = .ok (.iconst 0, 1) := by decide +kernel
theorem dX12_keep_122 : decode cX12_keep 122 = .ok (.ireturn, 1) := by decide +kernel
theorem dX12_keep_123 : decode cX12_keep 123 = .ok (.aload_n 0, 1) := by decide +kernel
theorem dX12_keep_124 : decode cX12_keep 124 = .ok (.iload_n 1, 1) := by decide +kernel
theorem dX12_keep_125 : decode cX12_keep 125 = .ok (.iload_n 2, 1) := by decide +kernel
theorem dX12_keep_126 : decode cX12_keep 126 = .ok (.invokevirtual 367, 3) := by decide +kernel
theorem dX12_keep_129 : decode cX12_keep 129 = .ok (.ifCond .ne 5, 3) := by decide +kernel
theorem dX12_keep_132 : decode cX12_keep 132 = .ok (.iconst (-1), 1) := by decide +kernel
theorem dX12_keep_133 : decode cX12_keep 133 = .ok (.ireturn, 1) := by decide +kernel
theorem dX12_keep_134 : decode cX12_keep 134 = .ok (.aload_n 0, 1) := by decide +kernel
theorem dX12_keep_135 : decode cX12_keep 135 = .ok (.iload_n 1, 1) := by decide +kernel
theorem dX12_keep_136 : decode cX12_keep 136 = .ok (.iload_n 2, 1) := by decide +kernel
theorem dX12_keep_137 : decode cX12_keep 137 = .ok (.iload_n 3, 1) := by decide +kernel
theorem dX12_keep_138 : decode cX12_keep 138 = .ok (.invokevirtual 370, 3) := by decide +kernel
theorem dX12_keep_141 : decode cX12_keep 141 = .ok (.istore 7, 2) := by decide +kernel
theorem dX12_keep_143 : decode cX12_keep 143 = .ok (.iload_n 3, 1) := by decide +kernel
theorem dX12_keep_144 : decode cX12_keep 144 = .ok (.iconst 4, 1) := by decide +kernel
theorem dX12_keep_145 : decode cX12_keep 145 = .ok (.if_icmp .lt 14, 3) := by decide +kernel
theorem dX12_keep_148 : decode cX12_keep 148 = .ok (.aload_n 0, 1) := by decide +kernel
theorem dX12_keep_149 : decode cX12_keep 149 = .ok (.iload 7, 2) := by decide +kernel
theorem dX12_keep_151 : decode cX12_keep 151 = .ok (.bipush 9, 2) := by decide +kernel
theorem dX12_keep_153 : decode cX12_keep 153 = .ok (.iload 4, 2) := by decide +kernel
theorem dX12_keep_155 : decode cX12_keep 155 = .ok (.i2l, 1) := by decide +kernel
theorem dX12_keep_156 : decode cX12_keep 156 = .ok (.invokevirtual 373, 3) := by decide +kernel
theorem dX12_keep_159 : decode cX12_keep 159 = .ok (.iload_n 3, 1) := by decide +kernel
theorem dX12_keep_160 : decode cX12_keep 160 = .ok (.iconst 4, 1) := by decide +kernel
theorem dX12_keep_161 : decode cX12_keep 161 = .ok (.if_icmp .ne 14, 3) := by decide +kernel
theorem dX12_keep_164 : decode cX12_keep 164 = .ok (.aload_n 0, 1) := by decide +kernel
theorem dX12_keep_165 : decode cX12_keep 165 = .ok (.iload 7, 2) := by decide +kernel
theorem dX12_keep_167 : decode cX12_keep 167 = .ok (.bipush 10, 2) := by decide +kernel
theorem dX12_keep_169 : decode cX12_keep 169 = .ok (.iload 5, 2) := by decide +kernel
theorem dX12_keep_171 : decode cX12_keep 171 = .ok (.i2l, 1) := by decide +kernel
theorem dX12_keep_172 : decode cX12_keep 172 = .ok (.invokevirtual 373, 3) := by decide +kernel
theorem dX12_keep_175 : decode cX12_keep 175 = .ok (.iload 7, 2) := by decide +kernel
theorem dX12_keep_177 : decode cX12_keep 177 = .ok (.ireturn, 1) := by decide +kernel
noncomputable def E_X12_keep : mE := (mX12_keep, [(42, [(0, (.aload_n 0, 1, false, false, 0, 0, 0, 0, 0, 0, [])), (1, (.iconst 0, 2, false, false, 0, 0, 0, 0, 0, 0, [])), (2, (.putfield 3, 5, false, false, 15, 0, 0, 0, 0, 0, [])), (5, (.aload_n 0, 6, false, false, 0, 0, 0, 0, 0, 0, [])), (6, (.iload_n 1, 7, false, false, 1, 0, 0, 0, 0, 0, [])), (7, (.invokestatic 71, 10, false, false, 29, 1, 1, 0, 0, 0, [])), (10, (.ifCond .ne 10, 13, false, false, 20, 0, 0, 0, 0, 0, [])), (13, (.iload_n 2, 14, false, false, 2, 0, 0, 0, 0, 0, [])), (14, (.invokestatic 71, 17, false, false, 29, 1, 1, 0, 0, 0, [])), (17, (.ifCond .eq 7, 20, false, false, 24, 0, 0, 0, 0, 0, [])), (20, (.iconst 1, 21, false, false, 0, 0, 0, 0, 1, 0, [])), (21, (.goto 4, 24, false, true, 25, 0, 0, 0, 0, 0, [])), (24, (.iconst 0, 25, true, false, 0, 0, 0, 0, 0, 0, [])), (25, (.iconst 1, 26, false, false, 0, 0, 0, 0, 1, 0, [])), (26, (.invokevirtual 75, 29, false, false, 30, 2, 1, 15, 0, 0, [])), (29, (.ifCond .eq 5, 32, false, false, 34, 0, 0, 0, 0, 0, [])), (32, (.iconst 0, 33, false, false, 0, 0, 0, 0, 0, 0, [])), (33, (.ireturn, 34, false, false, 0, 0, 0, 0, 0, 0, [])), (34, (.iload_n 3, 35, false, false, 3, 0, 0, 0, 0, 0, [])), (35, (.iconst 4, 36, false, false, 0, 0, 0, 0, 4, 0, [])), (36, (.if_icmp .ne 34, 39, false, false, 70, 0, 0, 0, 0, 0, [])), (39, (.iload 4, 41, false, false, 4, 0, 0, 0, 0, 0, [])), (41, (.iconst 0, 42, false, false, 0, 0, 0, 0, 0, 0, [])), (42, (.sipush 2000, 45, false, false, 0, 0, 0, 0, 2000, 0, []))]),
  (94, [(45, (.invokestatic 63, 48, false, false, 28, 3, 1, 0, 0, 0, [])), (48, (.ifCond .eq 18, 51, false, false, 66, 0, 0, 0, 0, 0, [])), (51, (.iload 5, 53, false, false, 5, 0, 0, 0, 0, 0, [])), (53, (.iconst 0, 54, false, false, 0, 0, 0, 0, 0, 0, [])), (54, (.bipush 100, 56, false, false, 0, 0, 0, 0, 100, 0, [])), (56, (.invokestatic 63, 59, false, false, 28, 3, 1, 0, 0, 0, [])), (59, (.ifCond .eq 7, 62, false, false, 66, 0, 0, 0, 0, 0, [])), (62, (.iconst 1, 63, false, false, 0, 0, 0, 0, 1, 0, [])), (63, (.goto 29, 66, false, true, 92, 0, 0, 0, 0, 0, [])), (66, (.iconst 0, 67, false, false, 0, 0, 0, 0, 0, 0, [])), (67, (.goto 25, 70, false, true, 92, 0, 0, 0, 0, 0, [])), (70, (.iload_n 3, 71, false, false, 3, 0, 0, 0, 0, 0, [])), (71, (.iconst 5, 72, false, false, 0, 0, 0, 0, 5, 0, [])), (72, (.if_icmp .ne 15, 75, false, false, 87, 0, 0, 0, 0, 0, [])), (75, (.iload 4, 77, false, false, 4, 0, 0, 0, 0, 0, [])), (77, (.iconst 0, 78, false, false, 0, 0, 0, 0, 0, 0, [])), (78, (.sipush 1000, 81, false, false, 0, 0, 0, 0, 1000, 0, [])), (81, (.invokestatic 63, 84, false, false, 28, 3, 1, 0, 0, 0, [])), (84, (.ifCond .eq 7, 87, false, false, 91, 0, 0, 0, 0, 0, [])), (87, (.iconst 1, 88, false, false, 0, 0, 0, 0, 1, 0, [])), (88, (.goto 4, 91, false, true, 92, 0, 0, 0, 0, 0, [])), (91, (.iconst 0, 92, true, false, 0, 0, 0, 0, 0, 0, [])), (92, (.istore 6, 94, false, false, 6, 0, 0, 0, 0, 0, [])), (94, (.aload_n 0, 95, false, false, 0, 0, 0, 0, 0, 0, []))]),
  (135, [(95, (.iload_n 3, 96, false, false, 3, 0, 0, 0, 0, 0, [])), (96, (.iconst 2, 97, false, false, 0, 0, 0, 0, 2, 0, [])), (97, (.iconst 5, 98, false, false, 0, 0, 0, 0, 5, 0, [])), (98, (.invokestatic 63, 101, false, false, 28, 3, 1, 0, 0, 0, [])), (101, (.ifCond .eq 8, 104, false, false, 109, 0, 0, 0, 0, 0, [])), (104, (.iload 6, 106, false, false, 6, 0, 0, 0, 0, 0, [])), (106, (.ifCond .ne 7, 109, false, false, 113, 0, 0, 0, 0, 0, [])), (109, (.iconst 1, 110, false, false, 0, 0, 0, 0, 1, 0, [])), (110, (.goto 4, 113, false, true, 114, 0, 0, 0, 0, 0, [])), (113, (.iconst 0, 114, true, false, 0, 0, 0, 0, 0, 0, [])), (114, (.iconst 2, 115, false, false, 0, 0, 0, 0, 2, 0, [])), (115, (.invokevirtual 75, 118, false, false, 30, 2, 1, 15, 0, 0, [])), (118, (.ifCond .eq 5, 121, false, false, 123, 0, 0, 0, 0, 0, [])), (121, (.iconst 0, 122, false, false, 0, 0, 0, 0, 0, 0, [])), (122, (.ireturn, 123, false, false, 0, 0, 0, 0, 0, 0, [])), (123, (.aload_n 0, 124, false, false, 0, 0, 0, 0, 0, 0, [])), (124, (.iload_n 1, 125, false, false, 1, 0, 0, 0, 0, 0, [])), (125, (.iload_n 2, 126, false, false, 2, 0, 0, 0, 0, 0, [])), (126, (.invokevirtual 367, 129, false, false, 147, 2, 1, 15, 0, 0, [])), (129, (.ifCond .ne 5, 132, false, false, 134, 0, 0, 0, 0, 0, [])), (132, (.iconst (-1), 133, false, false, 0, 0, 0, 0, -1, 0, [])), (133, (.ireturn, 134, false, false, 0, 0, 0, 0, 0, 0, [])), (134, (.aload_n 0, 135, false, false, 0, 0, 0, 0, 0, 0, [])), (135, (.iload_n 1, 136, false, false, 1, 0, 0, 0, 0, 0, []))]),
  (177, [(136, (.iload_n 2, 137, false, false, 2, 0, 0, 0, 0, 0, [])), (137, (.iload_n 3, 138, false, false, 3, 0, 0, 0, 0, 0, [])), (138, (.invokevirtual 370, 141, false, false, 149, 3, 1, 15, 0, 0, [])), (141, (.istore 7, 143, false, false, 7, 0, 0, 0, 0, 0, [])), (143, (.iload_n 3, 144, false, false, 3, 0, 0, 0, 0, 0, [])), (144, (.iconst 4, 145, false, false, 0, 0, 0, 0, 4, 0, [])), (145, (.if_icmp .lt 14, 148, false, false, 159, 0, 0, 0, 0, 0, [])), (148, (.aload_n 0, 149, false, false, 0, 0, 0, 0, 0, 0, [])), (149, (.iload 7, 151, false, false, 7, 0, 0, 0, 0, 0, [])), (151, (.bipush 9, 153, false, false, 0, 0, 0, 0, 9, 0, [])), (153, (.iload 4, 155, false, false, 4, 0, 0, 0, 0, 0, [])), (155, (.i2l, 156, false, false, 0, 0, 0, 0, 0, 0, [])), (156, (.invokevirtual 373, 159, false, false, 151, 3, 0, 15, 0, 0, [])), (159, (.iload_n 3, 160, false, false, 3, 0, 0, 0, 0, 0, [])), (160, (.iconst 4, 161, false, false, 0, 0, 0, 0, 4, 0, [])), (161, (.if_icmp .ne 14, 164, false, false, 175, 0, 0, 0, 0, 0, [])), (164, (.aload_n 0, 165, false, false, 0, 0, 0, 0, 0, 0, [])), (165, (.iload 7, 167, false, false, 7, 0, 0, 0, 0, 0, [])), (167, (.bipush 10, 169, false, false, 0, 0, 0, 0, 10, 0, [])), (169, (.iload 5, 171, false, false, 5, 0, 0, 0, 0, 0, [])), (171, (.i2l, 172, false, false, 0, 0, 0, 0, 0, 0, [])), (172, (.invokevirtual 373, 175, false, false, 151, 3, 0, 15, 0, 0, [])), (175, (.iload 7, 177, false, false, 7, 0, 0, 0, 0, 0, [])), (177, (.ireturn, 178, false, false, 0, 0, 0, 0, 0, 0, []))])], 0, [])
set_option maxRecDepth 100000 in
theorem v_X12_keep : VE MYT dflT E_X12_keep := ⟨⟨⟨⟨⟨dX12_keep_0, rfl⟩, rfl⟩, ⟨⟨dX12_keep_1, rfl⟩, rfl⟩, ⟨⟨dX12_keep_2, rfl⟩, Or.inl ⟨rfl, fX12_3⟩⟩, ⟨⟨dX12_keep_5, rfl⟩, rfl⟩, ⟨⟨dX12_keep_6, rfl⟩, rfl⟩, ⟨⟨dX12_keep_7, rfl⟩, Or.inl ⟨rfl, _, my_29, sX12_71⟩⟩, ⟨⟨dX12_keep_10, rfl⟩, rfl⟩, ⟨⟨dX12_keep_13, rfl⟩, rfl⟩, ⟨⟨dX12_keep_14, rfl⟩, Or.inl ⟨rfl, _, my_29, sX12_71⟩⟩, ⟨⟨dX12_keep_17, rfl⟩, rfl⟩, ⟨⟨dX12_keep_20, rfl⟩, rfl⟩, ⟨⟨dX12_keep_21, rfl⟩, rfl⟩, ⟨⟨dX12_keep_24, rfl⟩, rfl⟩, ⟨⟨dX12_keep_25, rfl⟩, rfl⟩, ⟨⟨dX12_keep_26, rfl⟩, Or.inr ⟨by decide, ⟨_, my_30, sX12_75⟩, fun q => absurd q (by decide)⟩⟩, ⟨⟨dX12_keep_29, rfl⟩, rfl⟩, ⟨⟨dX12_keep_32, rfl⟩, rfl⟩, ⟨⟨dX12_keep_33, rfl⟩, Or.inl ⟨rfl, rfl⟩⟩, ⟨⟨dX12_keep_34, rfl⟩, rfl⟩, ⟨⟨dX12_keep_35, rfl⟩, rfl⟩, ⟨⟨dX12_keep_36, rfl⟩, rfl⟩, ⟨⟨dX12_keep_39, rfl⟩, rfl⟩, ⟨⟨dX12_keep_41, rfl⟩, rfl⟩, ⟨⟨dX12_keep_42, rfl⟩, rfl⟩, trivial⟩,
  ⟨⟨⟨dX12_keep_45, rfl⟩, Or.inl ⟨rfl, _, my_28, sX12_63⟩⟩, ⟨⟨dX12_keep_48, rfl⟩, rfl⟩, ⟨⟨dX12_keep_51, rfl⟩, rfl⟩, ⟨⟨dX12_keep_53, rfl⟩, rfl⟩, ⟨⟨dX12_keep_54, rfl⟩, rfl⟩, ⟨⟨dX12_keep_56, rfl⟩, Or.inl ⟨rfl, _, my_28, sX12_63⟩⟩, ⟨⟨dX12_keep_59, rfl⟩, rfl⟩, ⟨⟨dX12_keep_62, rfl⟩, rfl⟩, ⟨⟨dX12_keep_63, rfl⟩, rfl⟩, ⟨⟨dX12_keep_66, rfl⟩, rfl⟩, ⟨⟨dX12_keep_67, rfl⟩, rfl⟩, ⟨⟨dX12_keep_70, rfl⟩, rfl⟩, ⟨⟨dX12_keep_71, rfl⟩, rfl⟩, ⟨⟨dX12_keep_72, rfl⟩, rfl⟩, ⟨⟨dX12_keep_75, rfl⟩, rfl⟩, ⟨⟨dX12_keep_77, rfl⟩, rfl⟩, ⟨⟨dX12_keep_78, rfl⟩, rfl⟩, ⟨⟨dX12_keep_81, rfl⟩, Or.inl ⟨rfl, _, my_28, sX12_63⟩⟩, ⟨⟨dX12_keep_84, rfl⟩, rfl⟩, ⟨⟨dX12_keep_87, rfl⟩, rfl⟩, ⟨⟨dX12_keep_88, rfl⟩, rfl⟩, ⟨⟨dX12_keep_91, rfl⟩, rfl⟩, ⟨⟨dX12_keep_92, rfl⟩, rfl⟩, ⟨⟨dX12_keep_94, rfl⟩, rfl⟩, trivial⟩,
  ⟨⟨⟨dX12_keep_95, rfl⟩, rfl⟩, ⟨⟨dX12_keep_96, rfl⟩, rfl⟩, ⟨⟨dX12_keep_97, rfl⟩, rfl⟩, ⟨⟨dX12_keep_98, rfl⟩, Or.inl ⟨rfl, _, my_28, sX12_63⟩⟩, ⟨⟨dX12_keep_101, rfl⟩, rfl⟩, ⟨⟨dX12_keep_104, rfl⟩, rfl⟩, ⟨⟨dX12_keep_106, rfl⟩, rfl⟩, ⟨⟨dX12_keep_109, rfl⟩, rfl⟩, ⟨⟨dX12_keep_110, rfl⟩, rfl⟩, ⟨⟨dX12_keep_113, rfl⟩, rfl⟩, ⟨⟨dX12_keep_114, rfl⟩, rfl⟩, ⟨⟨dX12_keep_115, rfl⟩, Or.inr ⟨by decide, ⟨_, my_30, sX12_75⟩, fun q => absurd q (by decide)⟩⟩, ⟨⟨dX12_keep_118, rfl⟩, rfl⟩, ⟨⟨dX12_keep_121, rfl⟩, rfl⟩, ⟨⟨dX12_keep_122, rfl⟩, Or.inl ⟨rfl, rfl⟩⟩, ⟨⟨dX12_keep_123, rfl⟩, rfl⟩, ⟨⟨dX12_keep_124, rfl⟩, rfl⟩, ⟨⟨dX12_keep_125, rfl⟩, rfl⟩, ⟨⟨dX12_keep_126, rfl⟩, Or.inr ⟨by decide, ⟨_, my_147, sX12_367⟩, fun q => absurd q (by decide)⟩⟩, ⟨⟨dX12_keep_129, rfl⟩, rfl⟩, ⟨⟨dX12_keep_132, rfl⟩, rfl⟩, ⟨⟨dX12_keep_133, rfl⟩, Or.inl ⟨rfl, rfl⟩⟩, ⟨⟨dX12_keep_134, rfl⟩, rfl⟩, ⟨⟨dX12_keep_135, rfl⟩, rfl⟩, trivial⟩,
  ⟨⟨⟨dX12_keep_136, rfl⟩, rfl⟩, ⟨⟨dX12_keep_137, rfl⟩, rfl⟩, ⟨⟨dX12_keep_138, rfl⟩, Or.inr ⟨by decide, ⟨_, my_149, sX12_370⟩, fun q => absurd q (by decide)⟩⟩, ⟨⟨dX12_keep_141, rfl⟩, rfl⟩, ⟨⟨dX12_keep_143, rfl⟩, rfl⟩, ⟨⟨dX12_keep_144, rfl⟩, rfl⟩, ⟨⟨dX12_keep_145, rfl⟩, rfl⟩, ⟨⟨dX12_keep_148, rfl⟩, rfl⟩, ⟨⟨dX12_keep_149, rfl⟩, rfl⟩, ⟨⟨dX12_keep_151, rfl⟩, rfl⟩, ⟨⟨dX12_keep_153, rfl⟩, rfl⟩, ⟨⟨dX12_keep_155, rfl⟩, trivial⟩, ⟨⟨dX12_keep_156, rfl⟩, Or.inr ⟨by decide, ⟨_, my_151, sX12_373⟩, fun q => absurd q (by decide)⟩⟩, ⟨⟨dX12_keep_159, rfl⟩, rfl⟩, ⟨⟨dX12_keep_160, rfl⟩, rfl⟩, ⟨⟨dX12_keep_161, rfl⟩, rfl⟩, ⟨⟨dX12_keep_164, rfl⟩, rfl⟩, ⟨⟨dX12_keep_165, rfl⟩, rfl⟩, ⟨⟨dX12_keep_167, rfl⟩, rfl⟩, ⟨⟨dX12_keep_169, rfl⟩, rfl⟩, ⟨⟨dX12_keep_171, rfl⟩, trivial⟩, ⟨⟨dX12_keep_172, rfl⟩, Or.inr ⟨by decide, ⟨_, my_151, sX12_373⟩, fun q => absurd q (by decide)⟩⟩, ⟨⟨dX12_keep_175, rfl⟩, rfl⟩, ⟨⟨dX12_keep_177, rfl⟩, Or.inl ⟨rfl, rfl⟩⟩, trivial⟩, trivial⟩, by decide, Or.inl ⟨rfl, by decide, rfl⟩⟩
set_option maxRecDepth 100000 in
theorem g_X12_keep_0 (S : sT) (call : cT) (n : Nat) (a0 : Nat) (x1 : Int32) (x2 : Int32) (x3 : Int32) (x4 : Int32) (x5 : Int32) (h : pH) : bd S call dflT E_X12_keep (n + 1) 0 [some (.ref a0), some (.int x1), some (.int x2), some (.int x3), some (.int x4), some (.int x5), none, none] [] h = (pF h (.ref a0) 15 0 (.int 0) (fun h1 => cI (call 29 [.int x1] h1) (fun y3 h2 => (if y3 = 0 then cI (call 29 [.int x2] h2) (fun y5 h4 => (if y5 = 0 then bd S call dflT E_X12_keep n 25 [some (.ref a0), some (.int x1), some (.int x2), some (.int x3), some (.int x4), some (.int x5), none, none] [.int 0, .ref a0] h4 else bd S call dflT E_X12_keep n 25 [some (.ref a0), some (.int x1), some (.int x2), some (.int x3), some (.int x4), some (.int x5), none, none] [.int 1, .ref a0] h4)) else bd S call dflT E_X12_keep n 25 [some (.ref a0), some (.int x1), some (.int x2), some (.int x3), some (.int x4), some (.int x5), none, none] [.int 1, .ref a0] h2)))) := rfl
set_option maxRecDepth 100000 in
theorem g_X12_keep_25 (S : sT) (call : cT) (n : Nat) (a0 : Nat) (x1 : Int32) (x2 : Int32) (x3 : Int32) (x4 : Int32) (x5 : Int32) (o6 : Option Value) (o7 : Option Value) (u0 : Value) (y1 : Int32) (h : pH) : bd S call dflT E_X12_keep (n + 1) 25 [some (.ref a0), some (.int x1), some (.int x2), some (.int x3), some (.int x4), some (.int x5), o6, o7] [.int y1, u0] h = (rC h u0 15 (cI (call 30 [u0, .int y1, .int 1] h) (fun y2 h1 => (if y2 = 0 then (if x3 = 4 then cI (call 28 [.int x4, .int 0, .int 2000] h1) (fun y6 h5 => (if y6 = 0 then bd S call dflT E_X12_keep n 92 [some (.ref a0), some (.int x1), some (.int x2), some (.int x3), some (.int x4), some (.int x5), o6, o7] [.int 0] h5 else cI (call 28 [.int x5, .int 0, .int 100] h5) (fun y8 h7 => (if y8 = 0 then bd S call dflT E_X12_keep n 92 [some (.ref a0), some (.int x1), some (.int x2), some (.int x3), some (.int x4), some (.int x5), o6, o7] [.int 0] h7 else bd S call dflT E_X12_keep n 92 [some (.ref a0), some (.int x1), some (.int x2), some (.int x3), some (.int x4), some (.int x5), o6, o7] [.int 1] h7)))) else (if x3 = 5 then cI (call 28 [.int x4, .int 0, .int 1000] h1) (fun y4 h3 => (if y4 = 0 then bd S call dflT E_X12_keep n 92 [some (.ref a0), some (.int x1), some (.int x2), some (.int x3), some (.int x4), some (.int x5), o6, o7] [.int 0] h3 else bd S call dflT E_X12_keep n 92 [some (.ref a0), some (.int x1), some (.int x2), some (.int x3), some (.int x4), some (.int x5), o6, o7] [.int 1] h3)) else bd S call dflT E_X12_keep n 92 [some (.ref a0), some (.int x1), some (.int x2), some (.int x3), some (.int x4), some (.int x5), o6, o7] [.int 1] h1)) else some (.inl (some (.int 0)), h1))))) := rfl
set_option maxRecDepth 100000 in
theorem g_X12_keep_92 (S : sT) (call : cT) (n : Nat) (a0 : Nat) (x1 : Int32) (x2 : Int32) (x3 : Int32) (x4 : Int32) (x5 : Int32) (o6 : Option Value) (o7 : Option Value) (y0 : Int32) (h : pH) : bd S call dflT E_X12_keep (n + 1) 92 [some (.ref a0), some (.int x1), some (.int x2), some (.int x3), some (.int x4), some (.int x5), o6, o7] [.int y0] h = (cI (call 28 [.int x3, .int 2, .int 5] h) (fun y2 h1 => (if y2 = 0 then bd S call dflT E_X12_keep n 114 [some (.ref a0), some (.int x1), some (.int x2), some (.int x3), some (.int x4), some (.int x5), some (.int y0), o7] [.int 1, .ref a0] h1 else (if y0 = 0 then bd S call dflT E_X12_keep n 114 [some (.ref a0), some (.int x1), some (.int x2), some (.int x3), some (.int x4), some (.int x5), some (.int y0), o7] [.int 1, .ref a0] h1 else bd S call dflT E_X12_keep n 114 [some (.ref a0), some (.int x1), some (.int x2), some (.int x3), some (.int x4), some (.int x5), some (.int y0), o7] [.int 0, .ref a0] h1)))) := rfl
set_option maxRecDepth 100000 in
theorem g_X12_keep_114 (S : sT) (call : cT) (n : Nat) (a0 : Nat) (x1 : Int32) (x2 : Int32) (x3 : Int32) (x4 : Int32) (x5 : Int32) (x6 : Int32) (o7 : Option Value) (u0 : Value) (y1 : Int32) (h : pH) : bd S call dflT E_X12_keep (n + 1) 114 [some (.ref a0), some (.int x1), some (.int x2), some (.int x3), some (.int x4), some (.int x5), some (.int x6), o7] [.int y1, u0] h = (rC h u0 15 (cI (call 30 [u0, .int y1, .int 2] h) (fun y2 h1 => (if y2 = 0 then rC h1 (.ref a0) 15 (cI (call 147 [.ref a0, .int x1, .int x2] h1) (fun y4 h3 => (if y4 = 0 then some (.inl (some (.int (-1))), h3) else rC h3 (.ref a0) 15 (cI (call 149 [.ref a0, .int x1, .int x2, .int x3] h3) (fun y6 h5 => (if x3 < 4 then (if x3 = 4 then rC h5 (.ref a0) 15 (cU (call 151 [.ref a0, .int y6, .int 10, .long x5.toInt64] h5) (fun h7 => some (.inl (some (.int y6)), h7))) else some (.inl (some (.int y6)), h5)) else rC h5 (.ref a0) 15 (cU (call 151 [.ref a0, .int y6, .int 9, .long x4.toInt64] h5) (fun h8 => (if x3 = 4 then rC h8 (.ref a0) 15 (cU (call 151 [.ref a0, .int y6, .int 10, .long x5.toInt64] h8) (fun h9 => some (.inl (some (.int y6)), h9))) else some (.inl (some (.int y6)), h8)))))))))) else some (.inl (some (.int 0)), h1))))) := rfl
theorem dX12_its_0 : decode cX12_its 0 = .ok (.aload_n 0, 1) := by decide +kernel
theorem dX12_its_1 : decode cX12_its 1 = .ok (.getfield 27, 3) := by decide +kernel
theorem dX12_its_4 : decode cX12_its 4 = .ok (.iload_n 1, 1) := by decide +kernel
theorem dX12_its_5 : decode cX12_its 5 = .ok (.iload_n 2, 1) := by decide +kernel
theorem dX12_its_6 : decode cX12_its 6 = .ok (.invokestatic 360, 3) := by decide +kernel
theorem dX12_its_9 : decode cX12_its 9 = .ok (.iaload, 1) := by decide +kernel
theorem dX12_its_10 : decode cX12_its 10 = .ok (.ireturn, 1) := by decide +kernel
noncomputable def E_X12_its : mE := (mX12_its, [(10, [(0, (.aload_n 0, 1, false, false, 0, 0, 0, 0, 0, 0, [])), (1, (.getfield 27, 4, false, false, 15, 1, 1, 0, 0, 0, [])), (4, (.iload_n 1, 5, false, false, 1, 0, 0, 0, 0, 0, [])), (5, (.iload_n 2, 6, false, false, 2, 0, 0, 0, 0, 0, [])), (6, (.invokestatic 360, 9, false, false, 148, 2, 1, 0, 0, 0, [])), (9, (.iaload, 10, false, false, 0, 0, 0, 0, 0, 0, [])), (10, (.ireturn, 11, false, false, 0, 0, 0, 0, 0, 0, []))])], 0, [])
set_option maxRecDepth 100000 in
theorem v_X12_its : VE MYT dflT E_X12_its := ⟨⟨⟨⟨⟨dX12_its_0, rfl⟩, rfl⟩, ⟨⟨dX12_its_1, rfl⟩, Or.inl ⟨by decide, _, _, fX12_27⟩⟩, ⟨⟨dX12_its_4, rfl⟩, rfl⟩, ⟨⟨dX12_its_5, rfl⟩, rfl⟩, ⟨⟨dX12_its_6, rfl⟩, Or.inl ⟨rfl, _, my_148, sX12_360⟩⟩, ⟨⟨dX12_its_9, rfl⟩, trivial⟩, ⟨⟨dX12_its_10, rfl⟩, Or.inl ⟨rfl, rfl⟩⟩, trivial⟩, trivial⟩, by decide, Or.inl ⟨rfl, by decide, rfl⟩⟩
set_option maxRecDepth 100000 in
theorem g_X12_its_0 (S : sT) (call : cT) (n : Nat) (a0 : Nat) (x1 : Int32) (x2 : Int32) (h : pH) : bd S call dflT E_X12_its (n + 1) 0 [some (.ref a0), some (.int x1), some (.int x2)] [] h = (gV h (.ref a0) 15 1 (fun w1 => cI (call 148 [.int x1, .int x2] h) (fun y3 h2 => aI h2 w1 0 y3 (fun y4 => some (.inl (some (.int y4)), h2))))) := rfl
theorem dX12_kindOf_0 : decode cX12_kindOf 0 = .ok (.aload_n 0, 1) := by decide +kernel
theorem dX12_kindOf_1 : decode cX12_kindOf 1 = .ok (.iload_n 1, 1) := by decide +kernel
theorem dX12_kindOf_2 : decode cX12_kindOf 2 = .ok (.bipush 10, 2) := by decide +kernel
theorem dX12_kindOf_4 : decode cX12_kindOf 4 = .ok (.invokevirtual 79, 3) := by decide +kernel
theorem dX12_kindOf_7 : decode cX12_kindOf 7 = .ok (.ifCond .ge 7, 3) := by decide +kernel
theorem dX12_kindOf_10 : decode cX12_kindOf 10 = .ok (.iconst (-1), 1) := by decide +kernel
theorem dX12_kindOf_11 : decode cX12_kindOf 11 = .ok (.goto 15, 3) := by decide +kernel
theorem dX12_kindOf_14 : decode cX12_kindOf 14 = .ok (.aload_n 0, 1) := by decide +kernel
theorem dX12_kindOf_15 : decode cX12_kindOf 15 = .ok (.aload_n 0, 1) := by decide +kernel
theorem dX12_kindOf_16 : decode cX12_kindOf 16 = .ok (.iload_n 1, 1) := by decide +kernel
theorem dX12_kindOf_17 : decode cX12_kindOf 17 = .ok (.bipush 10, 2) := by decide +kernel
theorem dX12_kindOf_19 : decode cX12_kindOf 19 = .ok (.invokevirtual 79, 3) := by decide +kernel
theorem dX12_kindOf_22 : decode cX12_kindOf 22 = .ok (.iconst 0, 1) := by decide +kernel
theorem dX12_kindOf_23 : decode cX12_kindOf 23 = .ok (.invokevirtual 293, 3) := by decide +kernel
theorem dX12_kindOf_26 : decode cX12_kindOf 26 = .ok (.ireturn, 1) := by decide +kernel
noncomputable def E_X12_kindOf : mE := (mX12_kindOf, [(26, [(0, (.aload_n 0, 1, false, false, 0, 0, 0, 0, 0, 0, [])), (1, (.iload_n 1, 2, false, false, 1, 0, 0, 0, 0, 0, [])), (2, (.bipush 10, 4, false, false, 0, 0, 0, 0, 10, 0, [])), (4, (.invokevirtual 79, 7, false, false, 31, 2, 1, 15, 0, 0, [])), (7, (.ifCond .ge 7, 10, false, false, 14, 0, 0, 0, 0, 0, [])), (10, (.iconst (-1), 11, false, false, 0, 0, 0, 0, -1, 0, [])), (11, (.goto 15, 14, false, false, 26, 0, 0, 0, 0, 0, [])), (14, (.aload_n 0, 15, false, false, 0, 0, 0, 0, 0, 0, [])), (15, (.aload_n 0, 16, false, false, 0, 0, 0, 0, 0, 0, [])), (16, (.iload_n 1, 17, false, false, 1, 0, 0, 0, 0, 0, [])), (17, (.bipush 10, 19, false, false, 0, 0, 0, 0, 10, 0, [])), (19, (.invokevirtual 79, 22, false, false, 31, 2, 1, 15, 0, 0, [])), (22, (.iconst 0, 23, false, false, 0, 0, 0, 0, 0, 0, [])), (23, (.invokevirtual 293, 26, false, false, 165, 2, 1, 15, 0, 0, [])), (26, (.ireturn, 27, false, false, 0, 0, 0, 0, 0, 0, []))])], 0, [])
set_option maxRecDepth 100000 in
theorem v_X12_kindOf : VE MYT dflT E_X12_kindOf := ⟨⟨⟨⟨⟨dX12_kindOf_0, rfl⟩, rfl⟩, ⟨⟨dX12_kindOf_1, rfl⟩, rfl⟩, ⟨⟨dX12_kindOf_2, rfl⟩, rfl⟩, ⟨⟨dX12_kindOf_4, rfl⟩, Or.inr ⟨by decide, ⟨_, my_31, sX12_79⟩, fun q => absurd q (by decide)⟩⟩, ⟨⟨dX12_kindOf_7, rfl⟩, rfl⟩, ⟨⟨dX12_kindOf_10, rfl⟩, rfl⟩, ⟨⟨dX12_kindOf_11, rfl⟩, rfl⟩, ⟨⟨dX12_kindOf_14, rfl⟩, rfl⟩, ⟨⟨dX12_kindOf_15, rfl⟩, rfl⟩, ⟨⟨dX12_kindOf_16, rfl⟩, rfl⟩, ⟨⟨dX12_kindOf_17, rfl⟩, rfl⟩, ⟨⟨dX12_kindOf_19, rfl⟩, Or.inr ⟨by decide, ⟨_, my_31, sX12_79⟩, fun q => absurd q (by decide)⟩⟩, ⟨⟨dX12_kindOf_22, rfl⟩, rfl⟩, ⟨⟨dX12_kindOf_23, rfl⟩, Or.inr ⟨by decide, ⟨_, my_165, sX12_293⟩, fun q => absurd q (by decide)⟩⟩, ⟨⟨dX12_kindOf_26, rfl⟩, Or.inl ⟨rfl, rfl⟩⟩, trivial⟩, trivial⟩, by decide, Or.inl ⟨rfl, by decide, rfl⟩⟩
set_option maxRecDepth 100000 in
theorem g_X12_kindOf_0 (S : sT) (call : cT) (n : Nat) (a0 : Nat) (x1 : Int32) (h : pH) : bd S call dflT E_X12_kindOf (n + 1) 0 [some (.ref a0), some (.int x1)] [] h = (rC h (.ref a0) 15 (cI (call 31 [.ref a0, .int x1, .int 10] h) (fun y2 h1 => (if 0 ≤ y2 then rC h1 (.ref a0) 15 (cI (call 31 [.ref a0, .int x1, .int 10] h1) (fun y4 h3 => rC h3 (.ref a0) 15 (cI (call 165 [.ref a0, .int y4, .int 0] h3) (fun y6 h5 => some (.inl (some (.int y6)), h5))))) else some (.inl (some (.int (-1))), h1))))) := rfl
theorem dX12_sow_0 : decode cX12_sow 0 = .ok (.aload_n 0, 1) := by decide +kernel
theorem dX12_sow_1 : decode cX12_sow 1 = .ok (.iconst 0, 1) := by decide +kernel
theorem dX12_sow_2 : decode cX12_sow 2 = .ok (.putfield 3, 3) := by decide +kernel
theorem dX12_sow_5 : decode cX12_sow 5 = .ok (.aload_n 0, 1) := by decide +kernel
theorem dX12_sow_6 : decode cX12_sow 6 = .ok (.iload_n 1, 1) := by decide +kernel
theorem dX12_sow_7 : decode cX12_sow 7 = .ok (.invokestatic 71, 3) := by decide +kernel
theorem dX12_sow_10 : decode cX12_sow 10 = .ok (.iconst 1, 1) := by decide +kernel
theorem dX12_sow_11 : decode cX12_sow 11 = .ok (.invokevirtual 75, 3) := by decide +kernel
theorem dX12_sow_14 : decode cX12_sow 14 = .ok (.ifCond .ne 56, 3) := by decide +kernel
theorem dX12_sow_17 : decode cX12_sow 17 = .ok (.aload_n 0, 1) := by decide +kernel
theorem dX12_sow_18 : decode cX12_sow 18 = .ok (.iload_n 2, 1) := by decide +kernel
theorem dX12_sow_19 : decode cX12_sow 19 = .ok (.iconst 0, 1) := by decide +kernel
theorem dX12_sow_20 : decode cX12_sow 20 = .ok (.iconst 5, 1) := by decide +kernel
theorem dX12_sow_21 : decode cX12_sow 21 = .ok (.invokestatic 63, 3) := by decide +kernel
theorem dX12_sow_24 : decode cX12_sow 24 = .ok (.ifCond .ne 7, 3) := by decide +kernel
theorem dX12_sow_27 : decode cX12_sow 27 = .ok (.iconst 1, 1) := by decide +kernel
theorem dX12_sow_28 : decode cX12_sow 28 = .ok (.goto 4, 3) := by decide +kernel
theorem dX12_sow_31 : decode cX12_sow 31 = .ok (.iconst 0, 1) := by decide +kernel
theorem dX12_sow_32 : decode cX12_sow 32 = .ok (.iconst 2, 1) := by decide +kernel
theorem dX12_sow_33 : decode cX12_sow 33 = .ok (.invokevirtual 75, 3) := by decide +kernel
theorem dX12_sow_36 : decode cX12_sow 36 = .ok (.ifCond .ne 34, 3) := by decide +kernel
theorem dX12_sow_39 : decode cX12_sow 39 = .ok (.aload_n 0, 1) := by decide +kernel
theorem dX12_sow_40 : decode cX12_sow 40 = .ok (.aload_n 0, 1) := by decide +kernel
theorem dX12_sow_41 : decode cX12_sow 41 = .ok (.iload_n 1, 1) := by decide +kernel
theorem dX12_sow_42 : decode cX12_sow 42 = .ok (.invokevirtual 380, 3) := by decide +kernel
theorem dX12_sow_45 : decode cX12_sow 45 = .ok (.iconst 2, 1) := by decide +kernel
theorem dX12_sow_46 : decode cX12_sow 46 = .ok (.if_icmp .eq 16, 3) := by decide +kernel
theorem dX12_sow_49 : decode cX12_sow 49 = .ok (.aload_n 0, 1) := by decide +kernel
theorem dX12_sow_50 : decode cX12_sow 50 = .ok (.iload_n 1, 1) := by decide +kernel
theorem dX12_sow_51 : decode cX12_sow 51 = .ok (.invokevirtual 380, 3) := by decide +kernel
theorem dX12_sow_54 : decode cX12_sow 54 = .ok (.iconst 3, 1) := by decide +kernel
theorem dX12_sow_55 : decode cX12_sow 55 = .ok (.if_icmp .eq 7, 3) := by decide +kernel
theorem dX12_sow_58 : decode cX12_sow 58 = .ok (.iconst 1, 1) := by decide +kernel
theorem dX12_sow_59 : decode cX12_sow 59 = .ok (.goto 4, 3) := by decide +kernel
theorem dX12_sow_62 : decode cX12_sow 62 = .ok (.iconst 0, 1) := by decide +kernel
theorem dX12_sow_63 : decode cX12_sow 63 = .ok (.iconst 3, 1) := by decide +kernel
theorem dX12_sow_64 : decode cX12_sow 64 = .ok (.invokevirtual 75, 3) := by decide +kernel
theorem dX12_sow_67 : decode cX12_sow 67 = .ok (.ifCond .eq 5, 3) := by decide +kernel
theorem dX12_sow_70 : decode cX12_sow 70 = .ok (.iconst 0, 1) := by decide +kernel
theorem dX12_sow_71 : decode cX12_sow 71 = .ok (.ireturn, 1) := by decide +kernel
theorem dX12_sow_72 : decode cX12_sow 72 = .ok (.aload_n 0, 1) := by decide +kernel
theorem dX12_sow_73 : decode cX12_sow 73 = .ok (.iload_n 1, 1) := by decide +kernel
theorem dX12_sow_74 : decode cX12_sow 74 = .ok (.iconst 3, 1) := by decide +kernel
theorem dX12_sow_75 : decode cX12_sow 75 = .ok (.invokevirtual 79, 3) := by decide +kernel
theorem dX12_sow_78 : decode cX12_sow 78 = .ok (.iload_n 2, 1) := by decide +kernel
theorem dX12_sow_79 : decode cX12_sow 79 = .ok (.if_icmp .eq 7, 3) := by decide +kernel
theorem dX12_sow_82 : decode cX12_sow 82 = .ok (.iconst 1, 1) := by decide +kernel
theorem dX12_sow_83 : decode cX12_sow 83 = .ok (.goto 4, 3) := by decide +kernel
theorem dX12_sow_86 : decode cX12_sow 86 = .ok (.iconst 0, 1) := by decide +kernel
theorem dX12_sow_87 : decode cX12_sow 87 = .ok (.istore_n 3, 1) := by decide +kernel
theorem dX12_sow_88 : decode cX12_sow 88 = .ok (.aload_n 0, 1) := by decide +kernel
theorem dX12_sow_89 : decode cX12_sow 89 = .ok (.getfield 27, 3) := by decide +kernel
theorem dX12_sow_92 : decode cX12_sow 92 = .ok (.iload_n 1, 1) := by decide +kernel
theorem dX12_sow_93 : decode cX12_sow 93 = .ok (.iconst 3, 1) := by decide +kernel
theorem dX12_sow_94 : decode cX12_sow 94 = .ok (.invokestatic 59, 3) := by decide +kernel
theorem dX12_sow_97 : decode cX12_sow 97 = .ok (.iload_n 2, 1) := by decide +kernel
theorem dX12_sow_98 : decode cX12_sow 98 = .ok (.iastore, 1) := by decide +kernel
theorem dX12_sow_99 : decode cX12_sow 99 = .ok (.iload_n 3, 1) := by decide +kernel
theorem dX12_sow_100 : decode cX12_sow 100 = .ok (.ireturn, 1) := by decide +kernel
noncomputable def E_X12_sow : mE := (mX12_sow, [(41, [(0, (.aload_n 0, 1, false, false, 0, 0, 0, 0, 0, 0, [])), (1, (.iconst 0, 2, false, false, 0, 0, 0, 0, 0, 0, [])), (2, (.putfield 3, 5, false, false, 15, 0, 0, 0, 0, 0, [])), (5, (.aload_n 0, 6, false, false, 0, 0, 0, 0, 0, 0, [])), (6, (.iload_n 1, 7, false, false, 1, 0, 0, 0, 0, 0, [])), (7, (.invokestatic 71, 10, false, false, 29, 1, 1, 0, 0, 0, [])), (10, (.iconst 1, 11, false, false, 0, 0, 0, 0, 1, 0, [])), (11, (.invokevirtual 75, 14, false, false, 30, 2, 1, 15, 0, 0, [])), (14, (.ifCond .ne 56, 17, false, false, 70, 0, 0, 0, 0, 0, [])), (17, (.aload_n 0, 18, false, false, 0, 0, 0, 0, 0, 0, [])), (18, (.iload_n 2, 19, false, false, 2, 0, 0, 0, 0, 0, [])), (19, (.iconst 0, 20, false, false, 0, 0, 0, 0, 0, 0, [])), (20, (.iconst 5, 21, false, false, 0, 0, 0, 0, 5, 0, [])), (21, (.invokestatic 63, 24, false, false, 28, 3, 1, 0, 0, 0, [])), (24, (.ifCond .ne 7, 27, false, false, 31, 0, 0, 0, 0, 0, [])), (27, (.iconst 1, 28, false, false, 0, 0, 0, 0, 1, 0, [])), (28, (.goto 4, 31, false, true, 32, 0, 0, 0, 0, 0, [])), (31, (.iconst 0, 32, true, false, 0, 0, 0, 0, 0, 0, [])), (32, (.iconst 2, 33, false, false, 0, 0, 0, 0, 2, 0, [])), (33, (.invokevirtual 75, 36, false, false, 30, 2, 1, 15, 0, 0, [])), (36, (.ifCond .ne 34, 39, false, false, 70, 0, 0, 0, 0, 0, [])), (39, (.aload_n 0, 40, false, false, 0, 0, 0, 0, 0, 0, [])), (40, (.aload_n 0, 41, false, false, 0, 0, 0, 0, 0, 0, [])), (41, (.iload_n 1, 42, false, false, 1, 0, 0, 0, 0, 0, []))]),
  (83, [(42, (.invokevirtual 380, 45, false, false, 166, 1, 1, 15, 0, 0, [])), (45, (.iconst 2, 46, false, false, 0, 0, 0, 0, 2, 0, [])), (46, (.if_icmp .eq 16, 49, false, false, 62, 0, 0, 0, 0, 0, [])), (49, (.aload_n 0, 50, false, false, 0, 0, 0, 0, 0, 0, [])), (50, (.iload_n 1, 51, false, false, 1, 0, 0, 0, 0, 0, [])), (51, (.invokevirtual 380, 54, false, false, 166, 1, 1, 15, 0, 0, [])), (54, (.iconst 3, 55, false, false, 0, 0, 0, 0, 3, 0, [])), (55, (.if_icmp .eq 7, 58, false, false, 62, 0, 0, 0, 0, 0, [])), (58, (.iconst 1, 59, false, false, 0, 0, 0, 0, 1, 0, [])), (59, (.goto 4, 62, false, true, 63, 0, 0, 0, 0, 0, [])), (62, (.iconst 0, 63, true, false, 0, 0, 0, 0, 0, 0, [])), (63, (.iconst 3, 64, false, false, 0, 0, 0, 0, 3, 0, [])), (64, (.invokevirtual 75, 67, false, false, 30, 2, 1, 15, 0, 0, [])), (67, (.ifCond .eq 5, 70, false, false, 72, 0, 0, 0, 0, 0, [])), (70, (.iconst 0, 71, false, false, 0, 0, 0, 0, 0, 0, [])), (71, (.ireturn, 72, false, false, 0, 0, 1, 0, 0, 0, [])), (72, (.aload_n 0, 73, false, false, 0, 0, 0, 0, 0, 0, [])), (73, (.iload_n 1, 74, false, false, 1, 0, 0, 0, 0, 0, [])), (74, (.iconst 3, 75, false, false, 0, 0, 0, 0, 3, 0, [])), (75, (.invokevirtual 79, 78, false, false, 31, 2, 1, 15, 0, 0, [])), (78, (.iload_n 2, 79, false, false, 2, 0, 0, 0, 0, 0, [])), (79, (.if_icmp .eq 7, 82, false, false, 86, 0, 0, 0, 0, 0, [])), (82, (.iconst 1, 83, false, false, 0, 0, 0, 0, 1, 0, [])), (83, (.goto 4, 86, false, false, 87, 0, 0, 0, 0, 0, []))]),
  (100, [(86, (.iconst 0, 87, false, false, 0, 0, 0, 0, 0, 0, [])), (87, (.istore_n 3, 88, false, false, 3, 0, 0, 0, 0, 0, [])), (88, (.aload_n 0, 89, false, false, 0, 0, 0, 0, 0, 0, [])), (89, (.getfield 27, 92, false, false, 15, 1, 1, 0, 0, 0, [])), (92, (.iload_n 1, 93, false, false, 1, 0, 0, 0, 0, 0, [])), (93, (.iconst 3, 94, false, false, 0, 0, 0, 0, 3, 0, [])), (94, (.invokestatic 59, 97, false, false, 12, 2, 1, 0, 0, 0, [])), (97, (.iload_n 2, 98, false, false, 2, 0, 0, 0, 0, 0, [])), (98, (.iastore, 99, false, false, 0, 0, 0, 0, 0, 0, [])), (99, (.iload_n 3, 100, false, false, 3, 0, 0, 0, 0, 0, [])), (100, (.ireturn, 101, false, false, 0, 0, 1, 0, 0, 0, []))])], 0, [])
set_option maxRecDepth 100000 in
theorem v_X12_sow : VE MYT dflT E_X12_sow := ⟨⟨⟨⟨⟨dX12_sow_0, rfl⟩, rfl⟩, ⟨⟨dX12_sow_1, rfl⟩, rfl⟩, ⟨⟨dX12_sow_2, rfl⟩, Or.inl ⟨rfl, fX12_3⟩⟩, ⟨⟨dX12_sow_5, rfl⟩, rfl⟩, ⟨⟨dX12_sow_6, rfl⟩, rfl⟩, ⟨⟨dX12_sow_7, rfl⟩, Or.inl ⟨rfl, _, my_29, sX12_71⟩⟩, ⟨⟨dX12_sow_10, rfl⟩, rfl⟩, ⟨⟨dX12_sow_11, rfl⟩, Or.inr ⟨by decide, ⟨_, my_30, sX12_75⟩, fun q => absurd q (by decide)⟩⟩, ⟨⟨dX12_sow_14, rfl⟩, rfl⟩, ⟨⟨dX12_sow_17, rfl⟩, rfl⟩, ⟨⟨dX12_sow_18, rfl⟩, rfl⟩, ⟨⟨dX12_sow_19, rfl⟩, rfl⟩, ⟨⟨dX12_sow_20, rfl⟩, rfl⟩, ⟨⟨dX12_sow_21, rfl⟩, Or.inl ⟨rfl, _, my_28, sX12_63⟩⟩, ⟨⟨dX12_sow_24, rfl⟩, rfl⟩, ⟨⟨dX12_sow_27, rfl⟩, rfl⟩, ⟨⟨dX12_sow_28, rfl⟩, rfl⟩, ⟨⟨dX12_sow_31, rfl⟩, rfl⟩, ⟨⟨dX12_sow_32, rfl⟩, rfl⟩, ⟨⟨dX12_sow_33, rfl⟩, Or.inr ⟨by decide, ⟨_, my_30, sX12_75⟩, fun q => absurd q (by decide)⟩⟩, ⟨⟨dX12_sow_36, rfl⟩, rfl⟩, ⟨⟨dX12_sow_39, rfl⟩, rfl⟩, ⟨⟨dX12_sow_40, rfl⟩, rfl⟩, ⟨⟨dX12_sow_41, rfl⟩, rfl⟩, trivial⟩,
  ⟨⟨⟨dX12_sow_42, rfl⟩, Or.inr ⟨by decide, ⟨_, my_166, sX12_380⟩, fun q => absurd q (by decide)⟩⟩, ⟨⟨dX12_sow_45, rfl⟩, rfl⟩, ⟨⟨dX12_sow_46, rfl⟩, rfl⟩, ⟨⟨dX12_sow_49, rfl⟩, rfl⟩, ⟨⟨dX12_sow_50, rfl⟩, rfl⟩, ⟨⟨dX12_sow_51, rfl⟩, Or.inr ⟨by decide, ⟨_, my_166, sX12_380⟩, fun q => absurd q (by decide)⟩⟩, ⟨⟨dX12_sow_54, rfl⟩, rfl⟩, ⟨⟨dX12_sow_55, rfl⟩, rfl⟩, ⟨⟨dX12_sow_58, rfl⟩, rfl⟩, ⟨⟨dX12_sow_59, rfl⟩, rfl⟩, ⟨⟨dX12_sow_62, rfl⟩, rfl⟩, ⟨⟨dX12_sow_63, rfl⟩, rfl⟩, ⟨⟨dX12_sow_64, rfl⟩, Or.inr ⟨by decide, ⟨_, my_30, sX12_75⟩, fun q => absurd q (by decide)⟩⟩, ⟨⟨dX12_sow_67, rfl⟩, rfl⟩, ⟨⟨dX12_sow_70, rfl⟩, rfl⟩, ⟨⟨dX12_sow_71, rfl⟩, Or.inr (Or.inl ⟨rfl, rfl⟩)⟩, ⟨⟨dX12_sow_72, rfl⟩, rfl⟩, ⟨⟨dX12_sow_73, rfl⟩, rfl⟩, ⟨⟨dX12_sow_74, rfl⟩, rfl⟩, ⟨⟨dX12_sow_75, rfl⟩, Or.inr ⟨by decide, ⟨_, my_31, sX12_79⟩, fun q => absurd q (by decide)⟩⟩, ⟨⟨dX12_sow_78, rfl⟩, rfl⟩, ⟨⟨dX12_sow_79, rfl⟩, rfl⟩, ⟨⟨dX12_sow_82, rfl⟩, rfl⟩, ⟨⟨dX12_sow_83, rfl⟩, rfl⟩, trivial⟩,
  ⟨⟨⟨dX12_sow_86, rfl⟩, rfl⟩, ⟨⟨dX12_sow_87, rfl⟩, rfl⟩, ⟨⟨dX12_sow_88, rfl⟩, rfl⟩, ⟨⟨dX12_sow_89, rfl⟩, Or.inl ⟨by decide, _, _, fX12_27⟩⟩, ⟨⟨dX12_sow_92, rfl⟩, rfl⟩, ⟨⟨dX12_sow_93, rfl⟩, rfl⟩, ⟨⟨dX12_sow_94, rfl⟩, Or.inl ⟨rfl, _, my_12, sX12_59⟩⟩, ⟨⟨dX12_sow_97, rfl⟩, rfl⟩, ⟨⟨dX12_sow_98, rfl⟩, trivial⟩, ⟨⟨dX12_sow_99, rfl⟩, rfl⟩, ⟨⟨dX12_sow_100, rfl⟩, Or.inr (Or.inl ⟨rfl, rfl⟩)⟩, trivial⟩, trivial⟩, by decide, Or.inl ⟨rfl, by decide, rfl⟩⟩
set_option maxRecDepth 100000 in
theorem g_X12_sow_0 (S : sT) (call : cT) (n : Nat) (a0 : Nat) (x1 : Int32) (x2 : Int32) (h : pH) : bd S call dflT E_X12_sow (n + 1) 0 [some (.ref a0), some (.int x1), some (.int x2), none] [] h = (pF h (.ref a0) 15 0 (.int 0) (fun h1 => cI (call 29 [.int x1] h1) (fun y3 h2 => rC h2 (.ref a0) 15 (cI (call 30 [.ref a0, .int y3, .int 1] h2) (fun y5 h4 => (if y5 = 0 then cI (call 28 [.int x2, .int 0, .int 5] h4) (fun y7 h6 => (if y7 = 0 then bd S call dflT E_X12_sow n 32 [some (.ref a0), some (.int x1), some (.int x2), none] [.int 1, .ref a0] h6 else bd S call dflT E_X12_sow n 32 [some (.ref a0), some (.int x1), some (.int x2), none] [.int 0, .ref a0] h6)) else zR 0 (some (.inl (some (.int 0)), h4)))))))) := rfl
set_option maxRecDepth 100000 in
theorem g_X12_sow_32 (S : sT) (call : cT) (n : Nat) (a0 : Nat) (x1 : Int32) (x2 : Int32) (o3 : Option Value) (u0 : Value) (y1 : Int32) (h : pH) : bd S call dflT E_X12_sow (n + 1) 32 [some (.ref a0), some (.int x1), some (.int x2), o3] [.int y1, u0] h = (rC h u0 15 (cI (call 30 [u0, .int y1, .int 2] h) (fun y2 h1 => (if y2 = 0 then rC h1 (.ref a0) 15 (cI (call 166 [.ref a0, .int x1] h1) (fun y4 h3 => (if y4 = 2 then bd S call dflT E_X12_sow n 63 [some (.ref a0), some (.int x1), some (.int x2), o3] [.int 0, .ref a0] h3 else rC h3 (.ref a0) 15 (cI (call 166 [.ref a0, .int x1] h3) (fun y6 h5 => (if y6 = 3 then bd S call dflT E_X12_sow n 63 [some (.ref a0), some (.int x1), some (.int x2), o3] [.int 0, .ref a0] h5 else bd S call dflT E_X12_sow n 63 [some (.ref a0), some (.int x1), some (.int x2), o3] [.int 1, .ref a0] h5)))))) else zR 0 (some (.inl (some (.int 0)), h1)))))) := rfl
set_option maxRecDepth 100000 in
theorem g_X12_sow_63 (S : sT) (call : cT) (n : Nat) (a0 : Nat) (x1 : Int32) (x2 : Int32) (o3 : Option Value) (u0 : Value) (y1 : Int32) (h : pH) : bd S call dflT E_X12_sow (n + 1) 63 [some (.ref a0), some (.int x1), some (.int x2), o3] [.int y1, u0] h = (rC h u0 15 (cI (call 30 [u0, .int y1, .int 3] h) (fun y2 h1 => (if y2 = 0 then rC h1 (.ref a0) 15 (cI (call 31 [.ref a0, .int x1, .int 3] h1) (fun y4 h3 => (if y4 = x2 then gV h3 (.ref a0) 15 1 (fun w5 => cI (call 12 [.int x1, .int 3] h3) (fun y7 h6 => sI h6 w5 0 y7 x2 (fun h8 => zR 0 (some (.inl (some (.int 0)), h8))))) else gV h3 (.ref a0) 15 1 (fun w9 => cI (call 12 [.int x1, .int 3] h3) (fun y11 h10 => sI h10 w9 0 y11 x2 (fun h12 => zR 1 (some (.inl (some (.int 1)), h12)))))))) else zR 0 (some (.inl (some (.int 0)), h1)))))) := rfl
theorem dX12_noHolding_0 : decode cX12_noHolding 0 = .ok (.iload_n 1, 1) := by decide +kernel
theorem dX12_noHolding_1 : decode cX12_noHolding 1 = .ok (.iconst 0, 1) := by decide +kernel
theorem dX12_noHolding_2 : decode cX12_noHolding 2 = .ok (.aload_n 0, 1) := by decide +kernel
theorem dX12_noHolding_3 : decode cX12_noHolding 3 = .ok (.getfield 27, 3) := by decide +kernel
theorem dX12_noHolding_6 : decode cX12_noHolding 6 = .ok (.sipush 1683, 3) := by decide +kernel
theorem dX12_noHolding_9 : decode cX12_noHolding 9 = .ok (.iaload, 1) := by decide +kernel
theorem dX12_noHolding_10 : decode cX12_noHolding 10 = .ok (.iconst 1, 1) := by decide +kernel
theorem dX12_noHolding_11 : decode cX12_noHolding 11 = .ok (.isub, 1) := by decide +kernel
theorem dX12_noHolding_12 : decode cX12_noHolding 12 = .ok (.invokestatic 63, 3) := by decide +kernel
theorem dX12_noHolding_15 : decode cX12_noHolding 15 = .ok (.ifCond .ne 7, 3) := by decide +kernel
theorem dX12_noHolding_18 : decode cX12_noHolding 18 = .ok (.iconst 1, 1) := by decide +kernel
theorem dX12_noHolding_19 : decode cX12_noHolding 19 = .ok (.goto 4, 3) := by decide +kernel
theorem dX12_noHolding_22 : decode cX12_noHolding 22 = .ok (.iconst 0, 1) := by decide +kernel
theorem dX12_noHolding_23 : decode cX12_noHolding 23 = .ok (.ireturn, 1) := by decide +kernel
noncomputable def E_X12_noHolding : mE := (mX12_noHolding, [(23, [(0, (.iload_n 1, 1, false, false, 1, 0, 0, 0, 0, 0, [])), (1, (.iconst 0, 2, false, false, 0, 0, 0, 0, 0, 0, [])), (2, (.aload_n 0, 3, false, false, 0, 0, 0, 0, 0, 0, [])), (3, (.getfield 27, 6, false, false, 15, 1, 1, 0, 0, 0, [])), (6, (.sipush 1683, 9, false, false, 0, 0, 0, 0, 1683, 0, [])), (9, (.iaload, 10, false, false, 0, 0, 0, 0, 0, 0, [])), (10, (.iconst 1, 11, false, false, 0, 0, 0, 0, 1, 0, [])), (11, (.isub, 12, false, false, 0, 0, 0, 0, 0, 0, [])), (12, (.invokestatic 63, 15, false, false, 28, 3, 1, 0, 0, 0, [])), (15, (.ifCond .ne 7, 18, false, false, 22, 0, 0, 0, 0, 0, [])), (18, (.iconst 1, 19, false, false, 0, 0, 0, 0, 1, 0, [])), (19, (.goto 4, 22, false, false, 23, 0, 0, 0, 0, 0, [])), (22, (.iconst 0, 23, false, false, 0, 0, 0, 0, 0, 0, [])), (23, (.ireturn, 24, false, false, 0, 0, 1, 0, 0, 0, []))])], 0, [])
set_option maxRecDepth 100000 in
theorem v_X12_noHolding : VE MYT dflT E_X12_noHolding := ⟨⟨⟨⟨⟨dX12_noHolding_0, rfl⟩, rfl⟩, ⟨⟨dX12_noHolding_1, rfl⟩, rfl⟩, ⟨⟨dX12_noHolding_2, rfl⟩, rfl⟩, ⟨⟨dX12_noHolding_3, rfl⟩, Or.inl ⟨by decide, _, _, fX12_27⟩⟩, ⟨⟨dX12_noHolding_6, rfl⟩, rfl⟩, ⟨⟨dX12_noHolding_9, rfl⟩, trivial⟩, ⟨⟨dX12_noHolding_10, rfl⟩, rfl⟩, ⟨⟨dX12_noHolding_11, rfl⟩, trivial⟩, ⟨⟨dX12_noHolding_12, rfl⟩, Or.inl ⟨rfl, _, my_28, sX12_63⟩⟩, ⟨⟨dX12_noHolding_15, rfl⟩, rfl⟩, ⟨⟨dX12_noHolding_18, rfl⟩, rfl⟩, ⟨⟨dX12_noHolding_19, rfl⟩, rfl⟩, ⟨⟨dX12_noHolding_22, rfl⟩, rfl⟩, ⟨⟨dX12_noHolding_23, rfl⟩, Or.inr (Or.inl ⟨rfl, rfl⟩)⟩, trivial⟩, trivial⟩, by decide, Or.inl ⟨rfl, by decide, rfl⟩⟩
set_option maxRecDepth 100000 in
theorem g_X12_noHolding_0 (S : sT) (call : cT) (n : Nat) (a0 : Nat) (x1 : Int32) (h : pH) : bd S call dflT E_X12_noHolding (n + 1) 0 [some (.ref a0), some (.int x1)] [] h = (gV h (.ref a0) 15 1 (fun w1 => aI h w1 0 1683 (fun y2 => cI (call 28 [.int x1, .int 0, .int (y2 - 1)] h) (fun y4 h3 => (if y4 = 0 then zR 1 (some (.inl (some (.int 1)), h3)) else zR 0 (some (.inl (some (.int 0)), h3))))))) := rfl
theorem dX12_fieldsOf_0 : decode cX12_fieldsOf 0 = .ok (.iconst 0, 1) := by decide +kernel
theorem dX12_fieldsOf_1 : decode cX12_fieldsOf 1 = .ok (.istore_n 2, 1) := by decide +kernel
theorem dX12_fieldsOf_2 : decode cX12_fieldsOf 2 = .ok (.iconst 0, 1) := by decide +kernel
theorem dX12_fieldsOf_3 : decode cX12_fieldsOf 3 = .ok (.istore_n 3, 1) := by decide +kernel
theorem dX12_fieldsOf_4 : decode cX12_fieldsOf 4 = .ok (.iload_n 3, 1) := by decide +kernel
theorem dX12_fieldsOf_5 : decode cX12_fieldsOf 5 = .ok (.bipush 48, 2) := by decide +kernel
theorem dX12_fieldsOf_7 : decode cX12_fieldsOf 7 = .ok (.if_icmp .ge 28, 3) := by decide +kernel
theorem dX12_fieldsOf_10 : decode cX12_fieldsOf 10 = .ok (.iload_n 2, 1) := by decide +kernel
theorem dX12_fieldsOf_11 : decode cX12_fieldsOf 11 = .ok (.aload_n 0, 1) := by decide +kernel
theorem dX12_fieldsOf_12 : decode cX12_fieldsOf 12 = .ok (.iload_n 3, 1) := by decide +kernel
theorem dX12_fieldsOf_13 : decode cX12_fieldsOf 13 = .ok (.bipush 10, 2) := by decide +kernel
theorem dX12_fieldsOf_15 : decode cX12_fieldsOf 15 = .ok (.invokevirtual 79, 3) := by decide +kernel
theorem dX12_fieldsOf_18 : decode cX12_fieldsOf 18 = .ok (.iload_n 1, 1) := by decide +kernel
theorem dX12_fieldsOf_19 : decode cX12_fieldsOf 19 = .ok (.if_icmp .ne 7, 3) := by decide +kernel
theorem dX12_fieldsOf_22 : decode cX12_fieldsOf 22 = .ok (.iconst 1, 1) := by decide +kernel
theorem dX12_fieldsOf_23 : decode cX12_fieldsOf 23 = .ok (.goto 4, 3) := by decide +kernel
theorem dX12_fieldsOf_26 : decode cX12_fieldsOf 26 = .ok (.iconst 0, 1) := by decide +kernel
theorem dX12_fieldsOf_27 : decode cX12_fieldsOf 27 = .ok (.iadd, 1) := by decide +kernel
theorem dX12_fieldsOf_28 : decode cX12_fieldsOf 28 = .ok (.istore_n 2, 1) := by decide +kernel
theorem dX12_fieldsOf_29 : decode cX12_fieldsOf 29 = .ok (.iinc 3 1, 3) := by decide +kernel
theorem dX12_fieldsOf_32 : decode cX12_fieldsOf 32 = .ok (.goto (-28), 3) := by decide +kernel
theorem dX12_fieldsOf_35 : decode cX12_fieldsOf 35 = .ok (.iload_n 2, 1) := by decide +kernel
theorem dX12_fieldsOf_36 : decode cX12_fieldsOf 36 = .ok (.ireturn, 1) := by decide +kernel
noncomputable def E_X12_fieldsOf : mE := (mX12_fieldsOf, [(36, [(0, (.iconst 0, 1, false, false, 0, 0, 0, 0, 0, 0, [])), (1, (.istore_n 2, 2, false, false, 2, 0, 0, 0, 0, 0, [])), (2, (.iconst 0, 3, false, false, 0, 0, 0, 0, 0, 0, [])), (3, (.istore_n 3, 4, true, false, 3, 0, 0, 0, 0, 0, [])), (4, (.iload_n 3, 5, false, false, 3, 0, 0, 0, 0, 0, [])), (5, (.bipush 48, 7, false, false, 0, 0, 0, 0, 48, 0, [])), (7, (.if_icmp .ge 28, 10, false, false, 35, 0, 0, 0, 0, 0, [])), (10, (.iload_n 2, 11, false, false, 2, 0, 0, 0, 0, 0, [])), (11, (.aload_n 0, 12, false, false, 0, 0, 0, 0, 0, 0, [])), (12, (.iload_n 3, 13, false, false, 3, 0, 0, 0, 0, 0, [])), (13, (.bipush 10, 15, false, false, 0, 0, 0, 0, 10, 0, [])), (15, (.invokevirtual 79, 18, false, false, 31, 2, 1, 15, 0, 0, [])), (18, (.iload_n 1, 19, false, false, 1, 0, 0, 0, 0, 0, [])), (19, (.if_icmp .ne 7, 22, false, false, 26, 0, 0, 0, 0, 0, [])), (22, (.iconst 1, 23, false, false, 0, 0, 0, 0, 1, 0, [])), (23, (.goto 4, 26, false, false, 27, 0, 0, 0, 0, 0, [])), (26, (.iconst 0, 27, false, false, 0, 0, 0, 0, 0, 0, [])), (27, (.iadd, 28, false, false, 0, 0, 0, 0, 0, 0, [])), (28, (.istore_n 2, 29, false, false, 2, 0, 0, 0, 0, 0, [])), (29, (.iinc 3 1, 32, false, false, 3, 0, 0, 0, 1, 0, [])), (32, (.goto (-28), 35, false, true, 4, 0, 0, 0, 0, 0, [])), (35, (.iload_n 2, 36, false, false, 2, 0, 0, 0, 0, 0, [])), (36, (.ireturn, 37, false, false, 0, 0, 0, 0, 0, 0, []))])], 0, [])
set_option maxRecDepth 100000 in
theorem v_X12_fieldsOf : VE MYT dflT E_X12_fieldsOf := ⟨⟨⟨⟨⟨dX12_fieldsOf_0, rfl⟩, rfl⟩, ⟨⟨dX12_fieldsOf_1, rfl⟩, rfl⟩, ⟨⟨dX12_fieldsOf_2, rfl⟩, rfl⟩, ⟨⟨dX12_fieldsOf_3, rfl⟩, rfl⟩, ⟨⟨dX12_fieldsOf_4, rfl⟩, rfl⟩, ⟨⟨dX12_fieldsOf_5, rfl⟩, rfl⟩, ⟨⟨dX12_fieldsOf_7, rfl⟩, rfl⟩, ⟨⟨dX12_fieldsOf_10, rfl⟩, rfl⟩, ⟨⟨dX12_fieldsOf_11, rfl⟩, rfl⟩, ⟨⟨dX12_fieldsOf_12, rfl⟩, rfl⟩, ⟨⟨dX12_fieldsOf_13, rfl⟩, rfl⟩, ⟨⟨dX12_fieldsOf_15, rfl⟩, Or.inr ⟨by decide, ⟨_, my_31, sX12_79⟩, fun q => absurd q (by decide)⟩⟩, ⟨⟨dX12_fieldsOf_18, rfl⟩, rfl⟩, ⟨⟨dX12_fieldsOf_19, rfl⟩, rfl⟩, ⟨⟨dX12_fieldsOf_22, rfl⟩, rfl⟩, ⟨⟨dX12_fieldsOf_23, rfl⟩, rfl⟩, ⟨⟨dX12_fieldsOf_26, rfl⟩, rfl⟩, ⟨⟨dX12_fieldsOf_27, rfl⟩, trivial⟩, ⟨⟨dX12_fieldsOf_28, rfl⟩, rfl⟩, ⟨⟨dX12_fieldsOf_29, rfl⟩, ⟨rfl, rfl⟩⟩, ⟨⟨dX12_fieldsOf_32, rfl⟩, rfl⟩, ⟨⟨dX12_fieldsOf_35, rfl⟩, rfl⟩, ⟨⟨dX12_fieldsOf_36, rfl⟩, Or.inl ⟨rfl, rfl⟩⟩, trivial⟩, trivial⟩, by decide, Or.inl ⟨rfl, by decide, rfl⟩⟩
set_option maxRecDepth 100000 in
theorem g_X12_fieldsOf_0 (S : sT) (call : cT) (n : Nat) (a0 : Nat) (x1 : Int32) (h : pH) : bd S call dflT E_X12_fieldsOf (n + 1) 0 [some (.ref a0), some (.int x1), none, none] [] h = (bd S call dflT E_X12_fieldsOf n 4 [some (.ref a0), some (.int x1), some (.int 0), some (.int 0)] [] h) := rfl
set_option maxRecDepth 100000 in
theorem g_X12_fieldsOf_4 (S : sT) (call : cT) (n : Nat) (a0 : Nat) (x1 : Int32) (x2 : Int32) (x3 : Int32) (h : pH) : bd S call dflT E_X12_fieldsOf (n + 1) 4 [some (.ref a0), some (.int x1), some (.int x2), some (.int x3)] [] h = ((if 48 ≤ x3 then some (.inl (some (.int x2)), h) else rC h (.ref a0) 15 (cI (call 31 [.ref a0, .int x3, .int 10] h) (fun y2 h1 => (if y2 = x1 then bd S call dflT E_X12_fieldsOf n 4 [some (.ref a0), some (.int x1), some (.int (x2 + 1)), some (.int (x3 + 1))] [] h1 else bd S call dflT E_X12_fieldsOf n 4 [some (.ref a0), some (.int x1), some (.int (x2 + 0)), some (.int (x3 + 1))] [] h1))))) := rfl
theorem dX12_notice_0 : decode cX12_notice 0 = .ok (.aload_n 0, 1) := by decide +kernel
theorem dX12_notice_1 : decode cX12_notice 1 = .ok (.iconst 0, 1) := by decide +kernel
theorem dX12_notice_2 : decode cX12_notice 2 = .ok (.putfield 3, 3) := by decide +kernel
theorem dX12_notice_5 : decode cX12_notice 5 = .ok (.aload_n 0, 1) := by decide +kernel
theorem dX12_notice_6 : decode cX12_notice 6 = .ok (.aload_n 0, 1) := by decide +kernel
theorem dX12_notice_7 : decode cX12_notice 7 = .ok (.iload_n 1, 1) := by decide +kernel
theorem dX12_notice_8 : decode cX12_notice 8 = .ok (.invokevirtual 383, 3) := by decide +kernel
theorem dX12_notice_11 : decode cX12_notice 11 = .ok (.iconst 1, 1) := by decide +kernel
theorem dX12_notice_12 : decode cX12_notice 12 = .ok (.invokevirtual 75, 3) := by decide +kernel
theorem dX12_notice_15 : decode cX12_notice 15 = .ok (.ifCond .ne 45, 3) := by decide +kernel
theorem dX12_notice_18 : decode cX12_notice 18 = .ok (.aload_n 0, 1) := by decide +kernel
theorem dX12_notice_19 : decode cX12_notice 19 = .ok (.aload_n 0, 1) := by decide +kernel
theorem dX12_notice_20 : decode cX12_notice 20 = .ok (.iload_n 1, 1) := by decide +kernel
theorem dX12_notice_21 : decode cX12_notice 21 = .ok (.iconst 0, 1) := by decide +kernel
theorem dX12_notice_22 : decode cX12_notice 22 = .ok (.invokevirtual 293, 3) := by decide +kernel
theorem dX12_notice_25 : decode cX12_notice 25 = .ok (.iconst 1, 1) := by decide +kernel
theorem dX12_notice_26 : decode cX12_notice 26 = .ok (.if_icmp .eq 7, 3) := by decide +kernel
theorem dX12_notice_29 : decode cX12_notice 29 = .ok (.iconst 1, 1) := by decide +kernel
theorem dX12_notice_30 : decode cX12_notice 30 = .ok (.goto 4, 3) := by decide +kernel
theorem dX12_notice_33 : decode cX12_notice 33 = .ok (.iconst 0, 1) := by decide +kernel
theorem dX12_notice_34 : decode cX12_notice 34 = .ok (.iconst 2, 1) := by decide +kernel
theorem dX12_notice_35 : decode cX12_notice 35 = .ok (.invokevirtual 75, 3) := by decide +kernel
theorem dX12_notice_38 : decode cX12_notice 38 = .ok (.ifCond .ne 22, 3) := by decide +kernel
theorem dX12_notice_41 : decode cX12_notice 41 = .ok (.aload_n 0, 1) := by decide +kernel
theorem dX12_notice_42 : decode cX12_notice 42 = .ok (.iload_n 1, 1) := by decide +kernel
theorem dX12_notice_43 : decode cX12_notice 43 = .ok (.bipush 8, 2) := by decide +kernel
theorem dX12_notice_45 : decode cX12_notice 45 = .ok (.invokevirtual 293, 3) := by decide +kernel
theorem dX12_notice_48 : decode cX12_notice 48 = .ok (.iconst 1, 1) := by decide +kernel
theorem dX12_notice_49 : decode cX12_notice 49 = .ok (.if_icmp .eq 11, 3) := by decide +kernel
theorem dX12_notice_52 : decode cX12_notice 52 = .ok (.aload_n 0, 1) := by decide +kernel
theorem dX12_notice_53 : decode cX12_notice 53 = .ok (.iload_n 1, 1) := by decide +kernel
theorem dX12_notice_54 : decode cX12_notice 54 = .ok (.invokevirtual 386, 3) := by decide +kernel
theorem dX12_notice_57 : decode cX12_notice 57 = .ok (.ifCond .ne 5, 3) := by decide +kernel
theorem dX12_notice_60 : decode cX12_notice 60 = .ok (.iconst 0, 1) := by decide +kernel
theorem dX12_notice_61 : decode cX12_notice 61 = .ok (.ireturn, 1) := by decide +kernel
theorem dX12_notice_62 : decode cX12_notice 62 = .ok (.aload_n 0, 1) := by decide +kernel
theorem dX12_notice_63 : decode cX12_notice 63 = .ok (.iload_n 1, 1) := by decide +kernel
theorem dX12_notice_64 : decode cX12_notice 64 = .ok (.bipush 8, 2) := by decide +kernel
theorem dX12_notice_66 : decode cX12_notice 66 = .ok (.lconst 1, 1) := by decide +kernel
theorem dX12_notice_67 : decode cX12_notice 67 = .ok (.invokevirtual 373, 3) := by decide +kernel
theorem dX12_notice_70 : decode cX12_notice 70 = .ok (.iconst 1, 1) := by decide +kernel
theorem dX12_notice_71 : decode cX12_notice 71 = .ok (.ireturn, 1) := by decide +kernel
noncomputable def E_X12_notice : mE := (mX12_notice, [(41, [(0, (.aload_n 0, 1, false, false, 0, 0, 0, 0, 0, 0, [])), (1, (.iconst 0, 2, false, false, 0, 0, 0, 0, 0, 0, [])), (2, (.putfield 3, 5, false, false, 15, 0, 0, 0, 0, 0, [])), (5, (.aload_n 0, 6, false, false, 0, 0, 0, 0, 0, 0, [])), (6, (.aload_n 0, 7, false, false, 0, 0, 0, 0, 0, 0, [])), (7, (.iload_n 1, 8, false, false, 1, 0, 0, 0, 0, 0, [])), (8, (.invokevirtual 383, 11, false, false, 171, 1, 1, 15, 0, 0, [])), (11, (.iconst 1, 12, false, false, 0, 0, 0, 0, 1, 0, [])), (12, (.invokevirtual 75, 15, false, false, 30, 2, 1, 15, 0, 0, [])), (15, (.ifCond .ne 45, 18, false, false, 60, 0, 0, 0, 0, 0, [])), (18, (.aload_n 0, 19, false, false, 0, 0, 0, 0, 0, 0, [])), (19, (.aload_n 0, 20, false, false, 0, 0, 0, 0, 0, 0, [])), (20, (.iload_n 1, 21, false, false, 1, 0, 0, 0, 0, 0, [])), (21, (.iconst 0, 22, false, false, 0, 0, 0, 0, 0, 0, [])), (22, (.invokevirtual 293, 25, false, false, 165, 2, 1, 15, 0, 0, [])), (25, (.iconst 1, 26, false, false, 0, 0, 0, 0, 1, 0, [])), (26, (.if_icmp .eq 7, 29, false, false, 33, 0, 0, 0, 0, 0, [])), (29, (.iconst 1, 30, false, false, 0, 0, 0, 0, 1, 0, [])), (30, (.goto 4, 33, false, true, 34, 0, 0, 0, 0, 0, [])), (33, (.iconst 0, 34, true, false, 0, 0, 0, 0, 0, 0, [])), (34, (.iconst 2, 35, false, false, 0, 0, 0, 0, 2, 0, [])), (35, (.invokevirtual 75, 38, false, false, 30, 2, 1, 15, 0, 0, [])), (38, (.ifCond .ne 22, 41, false, false, 60, 0, 0, 0, 0, 0, [])), (41, (.aload_n 0, 42, false, false, 0, 0, 0, 0, 0, 0, []))]),
  (71, [(42, (.iload_n 1, 43, false, false, 1, 0, 0, 0, 0, 0, [])), (43, (.bipush 8, 45, false, false, 0, 0, 0, 0, 8, 0, [])), (45, (.invokevirtual 293, 48, false, false, 165, 2, 1, 15, 0, 0, [])), (48, (.iconst 1, 49, false, false, 0, 0, 0, 0, 1, 0, [])), (49, (.if_icmp .eq 11, 52, false, false, 60, 0, 0, 0, 0, 0, [])), (52, (.aload_n 0, 53, false, false, 0, 0, 0, 0, 0, 0, [])), (53, (.iload_n 1, 54, false, false, 1, 0, 0, 0, 0, 0, [])), (54, (.invokevirtual 386, 57, false, false, 172, 1, 1, 15, 0, 0, [])), (57, (.ifCond .ne 5, 60, false, false, 62, 0, 0, 0, 0, 0, [])), (60, (.iconst 0, 61, false, false, 0, 0, 0, 0, 0, 0, [])), (61, (.ireturn, 62, false, false, 0, 0, 1, 0, 0, 0, [])), (62, (.aload_n 0, 63, false, false, 0, 0, 0, 0, 0, 0, [])), (63, (.iload_n 1, 64, false, false, 1, 0, 0, 0, 0, 0, [])), (64, (.bipush 8, 66, false, false, 0, 0, 0, 0, 8, 0, [])), (66, (.lconst 1, 67, false, false, 0, 0, 0, 0, 0, 1, [])), (67, (.invokevirtual 373, 70, false, false, 151, 3, 0, 15, 0, 0, [])), (70, (.iconst 1, 71, false, false, 0, 0, 0, 0, 1, 0, [])), (71, (.ireturn, 72, false, false, 0, 0, 1, 0, 0, 0, []))])], 0, [])
set_option maxRecDepth 100000 in
theorem v_X12_notice : VE MYT dflT E_X12_notice := ⟨⟨⟨⟨⟨dX12_notice_0, rfl⟩, rfl⟩, ⟨⟨dX12_notice_1, rfl⟩, rfl⟩, ⟨⟨dX12_notice_2, rfl⟩, Or.inl ⟨rfl, fX12_3⟩⟩, ⟨⟨dX12_notice_5, rfl⟩, rfl⟩, ⟨⟨dX12_notice_6, rfl⟩, rfl⟩, ⟨⟨dX12_notice_7, rfl⟩, rfl⟩, ⟨⟨dX12_notice_8, rfl⟩, Or.inr ⟨by decide, ⟨_, my_171, sX12_383⟩, fun q => absurd q (by decide)⟩⟩, ⟨⟨dX12_notice_11, rfl⟩, rfl⟩, ⟨⟨dX12_notice_12, rfl⟩, Or.inr ⟨by decide, ⟨_, my_30, sX12_75⟩, fun q => absurd q (by decide)⟩⟩, ⟨⟨dX12_notice_15, rfl⟩, rfl⟩, ⟨⟨dX12_notice_18, rfl⟩, rfl⟩, ⟨⟨dX12_notice_19, rfl⟩, rfl⟩, ⟨⟨dX12_notice_20, rfl⟩, rfl⟩, ⟨⟨dX12_notice_21, rfl⟩, rfl⟩, ⟨⟨dX12_notice_22, rfl⟩, Or.inr ⟨by decide, ⟨_, my_165, sX12_293⟩, fun q => absurd q (by decide)⟩⟩, ⟨⟨dX12_notice_25, rfl⟩, rfl⟩, ⟨⟨dX12_notice_26, rfl⟩, rfl⟩, ⟨⟨dX12_notice_29, rfl⟩, rfl⟩, ⟨⟨dX12_notice_30, rfl⟩, rfl⟩, ⟨⟨dX12_notice_33, rfl⟩, rfl⟩, ⟨⟨dX12_notice_34, rfl⟩, rfl⟩, ⟨⟨dX12_notice_35, rfl⟩, Or.inr ⟨by decide, ⟨_, my_30, sX12_75⟩, fun q => absurd q (by decide)⟩⟩, ⟨⟨dX12_notice_38, rfl⟩, rfl⟩, ⟨⟨dX12_notice_41, rfl⟩, rfl⟩, trivial⟩,
  ⟨⟨⟨dX12_notice_42, rfl⟩, rfl⟩, ⟨⟨dX12_notice_43, rfl⟩, rfl⟩, ⟨⟨dX12_notice_45, rfl⟩, Or.inr ⟨by decide, ⟨_, my_165, sX12_293⟩, fun q => absurd q (by decide)⟩⟩, ⟨⟨dX12_notice_48, rfl⟩, rfl⟩, ⟨⟨dX12_notice_49, rfl⟩, rfl⟩, ⟨⟨dX12_notice_52, rfl⟩, rfl⟩, ⟨⟨dX12_notice_53, rfl⟩, rfl⟩, ⟨⟨dX12_notice_54, rfl⟩, Or.inr ⟨by decide, ⟨_, my_172, sX12_386⟩, fun q => absurd q (by decide)⟩⟩, ⟨⟨dX12_notice_57, rfl⟩, rfl⟩, ⟨⟨dX12_notice_60, rfl⟩, rfl⟩, ⟨⟨dX12_notice_61, rfl⟩, Or.inr (Or.inl ⟨rfl, rfl⟩)⟩, ⟨⟨dX12_notice_62, rfl⟩, rfl⟩, ⟨⟨dX12_notice_63, rfl⟩, rfl⟩, ⟨⟨dX12_notice_64, rfl⟩, rfl⟩, ⟨⟨dX12_notice_66, rfl⟩, rfl⟩, ⟨⟨dX12_notice_67, rfl⟩, Or.inr ⟨by decide, ⟨_, my_151, sX12_373⟩, fun q => absurd q (by decide)⟩⟩, ⟨⟨dX12_notice_70, rfl⟩, rfl⟩, ⟨⟨dX12_notice_71, rfl⟩, Or.inr (Or.inl ⟨rfl, rfl⟩)⟩, trivial⟩, trivial⟩, by decide, Or.inl ⟨rfl, by decide, rfl⟩⟩
set_option maxRecDepth 100000 in
theorem g_X12_notice_0 (S : sT) (call : cT) (n : Nat) (a0 : Nat) (x1 : Int32) (h : pH) : bd S call dflT E_X12_notice (n + 1) 0 [some (.ref a0), some (.int x1)] [] h = (pF h (.ref a0) 15 0 (.int 0) (fun h1 => rC h1 (.ref a0) 15 (cI (call 171 [.ref a0, .int x1] h1) (fun y3 h2 => rC h2 (.ref a0) 15 (cI (call 30 [.ref a0, .int y3, .int 1] h2) (fun y5 h4 => (if y5 = 0 then rC h4 (.ref a0) 15 (cI (call 165 [.ref a0, .int x1, .int 0] h4) (fun y7 h6 => (if y7 = 1 then bd S call dflT E_X12_notice n 34 [some (.ref a0), some (.int x1)] [.int 0, .ref a0] h6 else bd S call dflT E_X12_notice n 34 [some (.ref a0), some (.int x1)] [.int 1, .ref a0] h6))) else zR 0 (some (.inl (some (.int 0)), h4))))))))) := rfl
set_option maxRecDepth 100000 in
theorem g_X12_notice_34 (S : sT) (call : cT) (n : Nat) (a0 : Nat) (x1 : Int32) (u0 : Value) (y1 : Int32) (h : pH) : bd S call dflT E_X12_notice (n + 1) 34 [some (.ref a0), some (.int x1)] [.int y1, u0] h = (rC h u0 15 (cI (call 30 [u0, .int y1, .int 2] h) (fun y2 h1 => (if y2 = 0 then rC h1 (.ref a0) 15 (cI (call 165 [.ref a0, .int x1, .int 8] h1) (fun y4 h3 => (if y4 = 1 then zR 0 (some (.inl (some (.int 0)), h3)) else rC h3 (.ref a0) 15 (cI (call 172 [.ref a0, .int x1] h3) (fun y6 h5 => (if y6 = 0 then zR 0 (some (.inl (some (.int 0)), h5)) else rC h5 (.ref a0) 15 (cU (call 151 [.ref a0, .int x1, .int 8, .long 1] h5) (fun h7 => zR 1 (some (.inl (some (.int 1)), h7)))))))))) else zR 0 (some (.inl (some (.int 0)), h1)))))) := rfl
theorem dX12_isLet_0 : decode cX12_isLet 0 = .ok (.aload_n 0, 1) := by decide +kernel
theorem dX12_isLet_1 : decode cX12_isLet 1 = .ok (.iload_n 1, 1) := by decide +kernel
theorem dX12_isLet_2 : decode cX12_isLet 2 = .ok (.iconst 0, 1) := by decide +kernel
theorem dX12_isLet_3 : decode cX12_isLet 3 = .ok (.invokevirtual 293, 3) := by decide +kernel
theorem dX12_isLet_6 : decode cX12_isLet 6 = .ok (.iconst 1, 1) := by decide +kernel
theorem dX12_isLet_7 : decode cX12_isLet 7 = .ok (.if_icmp .gt 7, 3) := by decide +kernel
theorem dX12_isLet_10 : decode cX12_isLet 10 = .ok (.iconst 1, 1) := by decide +kernel
theorem dX12_isLet_11 : decode cX12_isLet 11 = .ok (.goto 4, 3) := by decide +kernel
theorem dX12_isLet_14 : decode cX12_isLet 14 = .ok (.iconst 0, 1) := by decide +kernel
theorem dX12_isLet_15 : decode cX12_isLet 15 = .ok (.ireturn, 1) := by decide +kernel
noncomputable def E_X12_isLet : mE := (mX12_isLet, [(15, [(0, (.aload_n 0, 1, false, false, 0, 0, 0, 0, 0, 0, [])), (1, (.iload_n 1, 2, false, false, 1, 0, 0, 0, 0, 0, [])), (2, (.iconst 0, 3, false, false, 0, 0, 0, 0, 0, 0, [])), (3, (.invokevirtual 293, 6, false, false, 165, 2, 1, 15, 0, 0, [])), (6, (.iconst 1, 7, false, false, 0, 0, 0, 0, 1, 0, [])), (7, (.if_icmp .gt 7, 10, false, false, 14, 0, 0, 0, 0, 0, [])), (10, (.iconst 1, 11, false, false, 0, 0, 0, 0, 1, 0, [])), (11, (.goto 4, 14, false, false, 15, 0, 0, 0, 0, 0, [])), (14, (.iconst 0, 15, false, false, 0, 0, 0, 0, 0, 0, [])), (15, (.ireturn, 16, false, false, 0, 0, 1, 0, 0, 0, []))])], 0, [])
set_option maxRecDepth 100000 in
theorem v_X12_isLet : VE MYT dflT E_X12_isLet := ⟨⟨⟨⟨⟨dX12_isLet_0, rfl⟩, rfl⟩, ⟨⟨dX12_isLet_1, rfl⟩, rfl⟩, ⟨⟨dX12_isLet_2, rfl⟩, rfl⟩, ⟨⟨dX12_isLet_3, rfl⟩, Or.inr ⟨by decide, ⟨_, my_165, sX12_293⟩, fun q => absurd q (by decide)⟩⟩, ⟨⟨dX12_isLet_6, rfl⟩, rfl⟩, ⟨⟨dX12_isLet_7, rfl⟩, rfl⟩, ⟨⟨dX12_isLet_10, rfl⟩, rfl⟩, ⟨⟨dX12_isLet_11, rfl⟩, rfl⟩, ⟨⟨dX12_isLet_14, rfl⟩, rfl⟩, ⟨⟨dX12_isLet_15, rfl⟩, Or.inr (Or.inl ⟨rfl, rfl⟩)⟩, trivial⟩, trivial⟩, by decide, Or.inl ⟨rfl, by decide, rfl⟩⟩
set_option maxRecDepth 100000 in
theorem g_X12_isLet_0 (S : sT) (call : cT) (n : Nat) (a0 : Nat) (x1 : Int32) (h : pH) : bd S call dflT E_X12_isLet (n + 1) 0 [some (.ref a0), some (.int x1)] [] h = (rC h (.ref a0) 15 (cI (call 165 [.ref a0, .int x1, .int 0] h) (fun y2 h1 => (if 1 < y2 then zR 0 (some (.inl (some (.int 0)), h1)) else zR 1 (some (.inl (some (.int 1)), h1)))))) := rfl
theorem dX12_leaves_0 : decode cX12_leaves 0 = .ok (.iconst 0, 1) := by decide +kernel
theorem dX12_leaves_1 : decode cX12_leaves 1 = .ok (.istore_n 2, 1) := by decide +kernel
theorem dX12_leaves_2 : decode cX12_leaves 2 = .ok (.iconst 0, 1) := by decide +kernel
theorem dX12_leaves_3 : decode cX12_leaves 3 = .ok (.istore_n 3, 1) := by decide +kernel
theorem dX12_leaves_4 : decode cX12_leaves 4 = .ok (.iload_n 3, 1) := by decide +kernel
theorem dX12_leaves_5 : decode cX12_leaves 5 = .ok (.bipush 48, 2) := by decide +kernel
theorem dX12_leaves_7 : decode cX12_leaves 7 = .ok (.if_icmp .ge 49, 3) := by decide +kernel
theorem dX12_leaves_10 : decode cX12_leaves 10 = .ok (.aload_n 0, 1) := by decide +kernel
theorem dX12_leaves_11 : decode cX12_leaves 11 = .ok (.iload_n 3, 1) := by decide +kernel
theorem dX12_leaves_12 : decode cX12_leaves 12 = .ok (.bipush 10, 2) := by decide +kernel
theorem dX12_leaves_14 : decode cX12_leaves 14 = .ok (.invokevirtual 79, 3) := by decide +kernel
theorem dX12_leaves_17 : decode cX12_leaves 17 = .ok (.iload_n 1, 1) := by decide +kernel
theorem dX12_leaves_18 : decode cX12_leaves 18 = .ok (.if_icmp .eq 6, 3) := by decide +kernel
theorem dX12_leaves_21 : decode cX12_leaves 21 = .ok (.goto 29, 3) := by decide +kernel
theorem dX12_leaves_24 : decode cX12_leaves 24 = .ok (.aload_n 0, 1) := by decide +kernel
theorem dX12_leaves_25 : decode cX12_leaves 25 = .ok (.getfield 27, 3) := by decide +kernel
theorem dX12_leaves_28 : decode cX12_leaves 28 = .ok (.iload_n 3, 1) := by decide +kernel
theorem dX12_leaves_29 : decode cX12_leaves 29 = .ok (.bipush 10, 2) := by decide +kernel
theorem dX12_leaves_31 : decode cX12_leaves 31 = .ok (.invokestatic 59, 3) := by decide +kernel
theorem dX12_leaves_34 : decode cX12_leaves 34 = .ok (.iconst (-1), 1) := by decide +kernel
theorem dX12_leaves_35 : decode cX12_leaves 35 = .ok (.iastore, 1) := by decide +kernel
theorem dX12_leaves_36 : decode cX12_leaves 36 = .ok (.aload_n 0, 1) := by decide +kernel
theorem dX12_leaves_37 : decode cX12_leaves 37 = .ok (.getfield 27, 3) := by decide +kernel
theorem dX12_leaves_40 : decode cX12_leaves 40 = .ok (.iload_n 3, 1) := by decide +kernel
theorem dX12_leaves_41 : decode cX12_leaves 41 = .ok (.iconst 3, 1) := by decide +kernel
theorem dX12_leaves_42 : decode cX12_leaves 42 = .ok (.invokestatic 59, 3) := by decide +kernel
theorem dX12_leaves_45 : decode cX12_leaves 45 = .ok (.iconst 0, 1) := by decide +kernel
theorem dX12_leaves_46 : decode cX12_leaves 46 = .ok (.iastore, 1) := by decide +kernel
theorem dX12_leaves_47 : decode cX12_leaves 47 = .ok (.iinc 2 1, 3) := by decide +kernel
theorem dX12_leaves_50 : decode cX12_leaves 50 = .ok (.iinc 3 1, 3) := by decide +kernel
theorem dX12_leaves_53 : decode cX12_leaves 53 = .ok (.goto (-49), 3) := by decide +kernel
theorem dX12_leaves_56 : decode cX12_leaves 56 = .ok (.iload_n 2, 1) := by decide +kernel
theorem dX12_leaves_57 : decode cX12_leaves 57 = .ok (.ireturn, 1) := by decide +kernel
noncomputable def E_X12_leaves : mE := (mX12_leaves, [(40, [(0, (.iconst 0, 1, false, false, 0, 0, 0, 0, 0, 0, [])), (1, (.istore_n 2, 2, false, false, 2, 0, 0, 0, 0, 0, [])), (2, (.iconst 0, 3, false, false, 0, 0, 0, 0, 0, 0, [])), (3, (.istore_n 3, 4, true, false, 3, 0, 0, 0, 0, 0, [])), (4, (.iload_n 3, 5, false, false, 3, 0, 0, 0, 0, 0, [])), (5, (.bipush 48, 7, false, false, 0, 0, 0, 0, 48, 0, [])), (7, (.if_icmp .ge 49, 10, false, false, 56, 0, 0, 0, 0, 0, [])), (10, (.aload_n 0, 11, false, false, 0, 0, 0, 0, 0, 0, [])), (11, (.iload_n 3, 12, false, false, 3, 0, 0, 0, 0, 0, [])), (12, (.bipush 10, 14, false, false, 0, 0, 0, 0, 10, 0, [])), (14, (.invokevirtual 79, 17, false, false, 31, 2, 1, 15, 0, 0, [])), (17, (.iload_n 1, 18, false, false, 1, 0, 0, 0, 0, 0, [])), (18, (.if_icmp .eq 6, 21, false, false, 24, 0, 0, 0, 0, 0, [])), (21, (.goto 29, 24, false, false, 50, 0, 0, 0, 0, 0, [])), (24, (.aload_n 0, 25, false, false, 0, 0, 0, 0, 0, 0, [])), (25, (.getfield 27, 28, false, false, 15, 1, 1, 0, 0, 0, [])), (28, (.iload_n 3, 29, false, false, 3, 0, 0, 0, 0, 0, [])), (29, (.bipush 10, 31, false, false, 0, 0, 0, 0, 10, 0, [])), (31, (.invokestatic 59, 34, false, false, 12, 2, 1, 0, 0, 0, [])), (34, (.iconst (-1), 35, false, false, 0, 0, 0, 0, -1, 0, [])), (35, (.iastore, 36, false, false, 0, 0, 0, 0, 0, 0, [])), (36, (.aload_n 0, 37, false, false, 0, 0, 0, 0, 0, 0, [])), (37, (.getfield 27, 40, false, false, 15, 1, 1, 0, 0, 0, [])), (40, (.iload_n 3, 41, false, false, 3, 0, 0, 0, 0, 0, []))]),
  (57, [(41, (.iconst 3, 42, false, false, 0, 0, 0, 0, 3, 0, [])), (42, (.invokestatic 59, 45, false, false, 12, 2, 1, 0, 0, 0, [])), (45, (.iconst 0, 46, false, false, 0, 0, 0, 0, 0, 0, [])), (46, (.iastore, 47, false, false, 0, 0, 0, 0, 0, 0, [])), (47, (.iinc 2 1, 50, false, false, 2, 0, 0, 0, 1, 0, [])), (50, (.iinc 3 1, 53, false, false, 3, 0, 0, 0, 1, 0, [])), (53, (.goto (-49), 56, false, true, 4, 0, 0, 0, 0, 0, [])), (56, (.iload_n 2, 57, false, false, 2, 0, 0, 0, 0, 0, [])), (57, (.ireturn, 58, false, false, 0, 0, 0, 0, 0, 0, []))])], 0, [])
set_option maxRecDepth 100000 in
theorem v_X12_leaves : VE MYT dflT E_X12_leaves := ⟨⟨⟨⟨⟨dX12_leaves_0, rfl⟩, rfl⟩, ⟨⟨dX12_leaves_1, rfl⟩, rfl⟩, ⟨⟨dX12_leaves_2, rfl⟩, rfl⟩, ⟨⟨dX12_leaves_3, rfl⟩, rfl⟩, ⟨⟨dX12_leaves_4, rfl⟩, rfl⟩, ⟨⟨dX12_leaves_5, rfl⟩, rfl⟩, ⟨⟨dX12_leaves_7, rfl⟩, rfl⟩, ⟨⟨dX12_leaves_10, rfl⟩, rfl⟩, ⟨⟨dX12_leaves_11, rfl⟩, rfl⟩, ⟨⟨dX12_leaves_12, rfl⟩, rfl⟩, ⟨⟨dX12_leaves_14, rfl⟩, Or.inr ⟨by decide, ⟨_, my_31, sX12_79⟩, fun q => absurd q (by decide)⟩⟩, ⟨⟨dX12_leaves_17, rfl⟩, rfl⟩, ⟨⟨dX12_leaves_18, rfl⟩, rfl⟩, ⟨⟨dX12_leaves_21, rfl⟩, rfl⟩, ⟨⟨dX12_leaves_24, rfl⟩, rfl⟩, ⟨⟨dX12_leaves_25, rfl⟩, Or.inl ⟨by decide, _, _, fX12_27⟩⟩, ⟨⟨dX12_leaves_28, rfl⟩, rfl⟩, ⟨⟨dX12_leaves_29, rfl⟩, rfl⟩, ⟨⟨dX12_leaves_31, rfl⟩, Or.inl ⟨rfl, _, my_12, sX12_59⟩⟩, ⟨⟨dX12_leaves_34, rfl⟩, rfl⟩, ⟨⟨dX12_leaves_35, rfl⟩, trivial⟩, ⟨⟨dX12_leaves_36, rfl⟩, rfl⟩, ⟨⟨dX12_leaves_37, rfl⟩, Or.inl ⟨by decide, _, _, fX12_27⟩⟩, ⟨⟨dX12_leaves_40, rfl⟩, rfl⟩, trivial⟩,
  ⟨⟨⟨dX12_leaves_41, rfl⟩, rfl⟩, ⟨⟨dX12_leaves_42, rfl⟩, Or.inl ⟨rfl, _, my_12, sX12_59⟩⟩, ⟨⟨dX12_leaves_45, rfl⟩, rfl⟩, ⟨⟨dX12_leaves_46, rfl⟩, trivial⟩, ⟨⟨dX12_leaves_47, rfl⟩, ⟨rfl, rfl⟩⟩, ⟨⟨dX12_leaves_50, rfl⟩, ⟨rfl, rfl⟩⟩, ⟨⟨dX12_leaves_53, rfl⟩, rfl⟩, ⟨⟨dX12_leaves_56, rfl⟩, rfl⟩, ⟨⟨dX12_leaves_57, rfl⟩, Or.inl ⟨rfl, rfl⟩⟩, trivial⟩, trivial⟩, by decide, Or.inl ⟨rfl, by decide, rfl⟩⟩
set_option maxRecDepth 100000 in
theorem g_X12_leaves_0 (S : sT) (call : cT) (n : Nat) (a0 : Nat) (x1 : Int32) (h : pH) : bd S call dflT E_X12_leaves (n + 1) 0 [some (.ref a0), some (.int x1), none, none] [] h = (bd S call dflT E_X12_leaves n 4 [some (.ref a0), some (.int x1), some (.int 0), some (.int 0)] [] h) := rfl
set_option maxRecDepth 100000 in
theorem g_X12_leaves_4 (S : sT) (call : cT) (n : Nat) (a0 : Nat) (x1 : Int32) (x2 : Int32) (x3 : Int32) (h : pH) : bd S call dflT E_X12_leaves (n + 1) 4 [some (.ref a0), some (.int x1), some (.int x2), some (.int x3)] [] h = ((if 48 ≤ x3 then some (.inl (some (.int x2)), h) else rC h (.ref a0) 15 (cI (call 31 [.ref a0, .int x3, .int 10] h) (fun y2 h1 => (if y2 = x1 then gV h1 (.ref a0) 15 1 (fun w3 => cI (call 12 [.int x3, .int 10] h1) (fun y5 h4 => sI h4 w3 0 y5 (-1) (fun h6 => gV h6 (.ref a0) 15 1 (fun w7 => cI (call 12 [.int x3, .int 3] h6) (fun y9 h8 => sI h8 w7 0 y9 0 (fun h10 => bd S call dflT E_X12_leaves n 4 [some (.ref a0), some (.int x1), some (.int (x2 + 1)), some (.int (x3 + 1))] [] h10)))))) else bd S call dflT E_X12_leaves n 4 [some (.ref a0), some (.int x1), some (.int x2), some (.int (x3 + 1))] [] h1))))) := rfl
theorem dX12_give_0 : decode cX12_give 0 = .ok (.aload_n 0, 1) := by decide +kernel
theorem dX12_give_1 : decode cX12_give 1 = .ok (.iconst 0, 1) := by decide +kernel
theorem dX12_give_2 : decode cX12_give 2 = .ok (.putfield 3, 3) := by decide +kernel
theorem dX12_give_5 : decode cX12_give 5 = .ok (.aload_n 0, 1) := by decide +kernel
theorem dX12_give_6 : decode cX12_give 6 = .ok (.aload_n 0, 1) := by decide +kernel
theorem dX12_give_7 : decode cX12_give 7 = .ok (.iload_n 1, 1) := by decide +kernel
theorem dX12_give_8 : decode cX12_give 8 = .ok (.invokevirtual 383, 3) := by decide +kernel
theorem dX12_give_11 : decode cX12_give 11 = .ok (.iconst 1, 1) := by decide +kernel
theorem dX12_give_12 : decode cX12_give 12 = .ok (.invokevirtual 75, 3) := by decide +kernel
theorem dX12_give_15 : decode cX12_give 15 = .ok (.ifCond .ne 16, 3) := by decide +kernel
theorem dX12_give_18 : decode cX12_give 18 = .ok (.aload_n 0, 1) := by decide +kernel
theorem dX12_give_19 : decode cX12_give 19 = .ok (.aload_n 0, 1) := by decide +kernel
theorem dX12_give_20 : decode cX12_give 20 = .ok (.iload_n 1, 1) := by decide +kernel
theorem dX12_give_21 : decode cX12_give 21 = .ok (.invokevirtual 389, 3) := by decide +kernel
theorem dX12_give_24 : decode cX12_give 24 = .ok (.iconst 2, 1) := by decide +kernel
theorem dX12_give_25 : decode cX12_give 25 = .ok (.invokevirtual 75, 3) := by decide +kernel
theorem dX12_give_28 : decode cX12_give 28 = .ok (.ifCond .eq 7, 3) := by decide +kernel
theorem dX12_give_31 : decode cX12_give 31 = .ok (.iconst 0, 1) := by decide +kernel
theorem dX12_give_32 : decode cX12_give 32 = .ok (.goto 8, 3) := by decide +kernel
theorem dX12_give_35 : decode cX12_give 35 = .ok (.aload_n 0, 1) := by decide +kernel
theorem dX12_give_36 : decode cX12_give 36 = .ok (.iload_n 1, 1) := by decide +kernel
theorem dX12_give_37 : decode cX12_give 37 = .ok (.invokevirtual 392, 3) := by decide +kernel
theorem dX12_give_40 : decode cX12_give 40 = .ok (.ireturn, 1) := by decide +kernel
noncomputable def E_X12_give : mE := (mX12_give, [(40, [(0, (.aload_n 0, 1, false, false, 0, 0, 0, 0, 0, 0, [])), (1, (.iconst 0, 2, false, false, 0, 0, 0, 0, 0, 0, [])), (2, (.putfield 3, 5, false, false, 15, 0, 0, 0, 0, 0, [])), (5, (.aload_n 0, 6, false, false, 0, 0, 0, 0, 0, 0, [])), (6, (.aload_n 0, 7, false, false, 0, 0, 0, 0, 0, 0, [])), (7, (.iload_n 1, 8, false, false, 1, 0, 0, 0, 0, 0, [])), (8, (.invokevirtual 383, 11, false, false, 171, 1, 1, 15, 0, 0, [])), (11, (.iconst 1, 12, false, false, 0, 0, 0, 0, 1, 0, [])), (12, (.invokevirtual 75, 15, false, false, 30, 2, 1, 15, 0, 0, [])), (15, (.ifCond .ne 16, 18, false, false, 31, 0, 0, 0, 0, 0, [])), (18, (.aload_n 0, 19, false, false, 0, 0, 0, 0, 0, 0, [])), (19, (.aload_n 0, 20, false, false, 0, 0, 0, 0, 0, 0, [])), (20, (.iload_n 1, 21, false, false, 1, 0, 0, 0, 0, 0, [])), (21, (.invokevirtual 389, 24, false, false, 178, 1, 1, 15, 0, 0, [])), (24, (.iconst 2, 25, false, false, 0, 0, 0, 0, 2, 0, [])), (25, (.invokevirtual 75, 28, false, false, 30, 2, 1, 15, 0, 0, [])), (28, (.ifCond .eq 7, 31, false, false, 35, 0, 0, 0, 0, 0, [])), (31, (.iconst 0, 32, false, false, 0, 0, 0, 0, 0, 0, [])), (32, (.goto 8, 35, false, false, 40, 0, 0, 0, 0, 0, [])), (35, (.aload_n 0, 36, false, false, 0, 0, 0, 0, 0, 0, [])), (36, (.iload_n 1, 37, false, false, 1, 0, 0, 0, 0, 0, [])), (37, (.invokevirtual 392, 40, false, false, 179, 1, 1, 15, 0, 0, [])), (40, (.ireturn, 41, false, false, 0, 0, 0, 0, 0, 0, []))])], 0, [])
set_option maxRecDepth 100000 in
theorem v_X12_give : VE MYT dflT E_X12_give := ⟨⟨⟨⟨⟨dX12_give_0, rfl⟩, rfl⟩, ⟨⟨dX12_give_1, rfl⟩, rfl⟩, ⟨⟨dX12_give_2, rfl⟩, Or.inl ⟨rfl, fX12_3⟩⟩, ⟨⟨dX12_give_5, rfl⟩, rfl⟩, ⟨⟨dX12_give_6, rfl⟩, rfl⟩, ⟨⟨dX12_give_7, rfl⟩, rfl⟩, ⟨⟨dX12_give_8, rfl⟩, Or.inr ⟨by decide, ⟨_, my_171, sX12_383⟩, fun q => absurd q (by decide)⟩⟩, ⟨⟨dX12_give_11, rfl⟩, rfl⟩, ⟨⟨dX12_give_12, rfl⟩, Or.inr ⟨by decide, ⟨_, my_30, sX12_75⟩, fun q => absurd q (by decide)⟩⟩, ⟨⟨dX12_give_15, rfl⟩, rfl⟩, ⟨⟨dX12_give_18, rfl⟩, rfl⟩, ⟨⟨dX12_give_19, rfl⟩, rfl⟩, ⟨⟨dX12_give_20, rfl⟩, rfl⟩, ⟨⟨dX12_give_21, rfl⟩, Or.inr ⟨by decide, ⟨_, my_178, sX12_389⟩, fun q => absurd q (by decide)⟩⟩, ⟨⟨dX12_give_24, rfl⟩, rfl⟩, ⟨⟨dX12_give_25, rfl⟩, Or.inr ⟨by decide, ⟨_, my_30, sX12_75⟩, fun q => absurd q (by decide)⟩⟩, ⟨⟨dX12_give_28, rfl⟩, rfl⟩, ⟨⟨dX12_give_31, rfl⟩, rfl⟩, ⟨⟨dX12_give_32, rfl⟩, rfl⟩, ⟨⟨dX12_give_35, rfl⟩, rfl⟩, ⟨⟨dX12_give_36, rfl⟩, rfl⟩, ⟨⟨dX12_give_37, rfl⟩, Or.inr ⟨by decide, ⟨_, my_179, sX12_392⟩, fun q => absurd q (by decide)⟩⟩, ⟨⟨dX12_give_40, rfl⟩, Or.inl ⟨rfl, rfl⟩⟩, trivial⟩, trivial⟩, by decide, Or.inl ⟨rfl, by decide, rfl⟩⟩
set_option maxRecDepth 100000 in
theorem g_X12_give_0 (S : sT) (call : cT) (n : Nat) (a0 : Nat) (x1 : Int32) (h : pH) : bd S call dflT E_X12_give (n + 1) 0 [some (.ref a0), some (.int x1)] [] h = (pF h (.ref a0) 15 0 (.int 0) (fun h1 => rC h1 (.ref a0) 15 (cI (call 171 [.ref a0, .int x1] h1) (fun y3 h2 => rC h2 (.ref a0) 15 (cI (call 30 [.ref a0, .int y3, .int 1] h2) (fun y5 h4 => (if y5 = 0 then rC h4 (.ref a0) 15 (cI (call 178 [.ref a0, .int x1] h4) (fun y7 h6 => rC h6 (.ref a0) 15 (cI (call 30 [.ref a0, .int y7, .int 2] h6) (fun y9 h8 => (if y9 = 0 then rC h8 (.ref a0) 15 (cI (call 179 [.ref a0, .int x1] h8) (fun y11 h10 => some (.inl (some (.int y11)), h10))) else some (.inl (some (.int 0)), h8)))))) else some (.inl (some (.int 0)), h4)))))))) := rfl
