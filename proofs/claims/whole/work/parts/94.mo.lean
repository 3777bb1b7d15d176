/-- a product, some rows of it and a part of the next -/
def cvp (A B : Nat → Int) (i j t : Nat) : Int := cv A B 5 i t + (if i ≤ t ∧ t - i < j then A i * B (t - i) else 0)
theorem cvp_next (A B : Nat → Int) (i t : Nat) : cvp A B i 6 t = cvp A B (i + 1) 0 t := by
  unfold cvp cv
  rw [if_neg (show ¬ (i + 1 ≤ t ∧ t - (i + 1) < 0) by omega), sm, Int.add_zero]
  congr 1
  by_cases h : i ≤ t ∧ t - i < 6
  · rw [if_pos h, if_pos (by omega)]
  · rw [if_neg h, if_neg (by omega)]
theorem cvp_at (A B : Nat → Int) (i j : Nat) : cvp A B i (j + 1) (i + j) = cvp A B i j (i + j) + A i * B j := by
  unfold cvp
  rw [if_pos (show i ≤ i + j ∧ i + j - i < j + 1 by omega), if_neg (show ¬ (i ≤ i + j ∧ i + j - i < j) by omega), show i + j - i = j by omega, Int.add_zero]
theorem cvp_off (A B : Nat → Int) {i j t : Nat} (h : t ≠ i + j) : cvp A B i (j + 1) t = cvp A B i j t := by
  unfold cvp
  congr 1
  by_cases h2 : i ≤ t ∧ t - i < j
  · rw [if_pos h2, if_pos (by omega)]
  · rw [if_neg h2, if_neg (by omega)]
theorem cvp_last (A B : Nat → Int) (t : Nat) : cvp A B 6 0 t = cv A B 5 6 t := by
  unfold cvp
  rw [if_neg (by omega), Int.add_zero]
theorem d_Mo_making_0 : decode prog_9_method_37_code 0 = .ok (.bipush 6, 2) := by decide +kernel
theorem d_Mo_making_2 : decode prog_9_method_37_code 2 = .ok (.iload_n 2, 1) := by decide +kernel
theorem d_Mo_making_3 : decode prog_9_method_37_code 3 = .ok (.imul, 1) := by decide +kernel
theorem d_Mo_making_4 : decode prog_9_method_37_code 4 = .ok (.istore 5, 2) := by decide +kernel
theorem d_Mo_making_6 : decode prog_9_method_37_code 6 = .ok (.bipush 6, 2) := by decide +kernel
theorem d_Mo_making_8 : decode prog_9_method_37_code 8 = .ok (.iload_n 3, 1) := by decide +kernel
theorem d_Mo_making_9 : decode prog_9_method_37_code 9 = .ok (.imul, 1) := by decide +kernel
theorem d_Mo_making_10 : decode prog_9_method_37_code 10 = .ok (.istore 6, 2) := by decide +kernel
theorem d_Mo_making_12 : decode prog_9_method_37_code 12 = .ok (.iload_n 1, 1) := by decide +kernel
theorem d_Mo_making_64 : decode prog_9_method_37_code 64 = .ok (.iconst 0, 1) := by decide +kernel
theorem d_Mo_making_65 : decode prog_9_method_37_code 65 = .ok (.istore 7, 2) := by decide +kernel
theorem d_Mo_making_67 : decode prog_9_method_37_code 67 = .ok (.iload 7, 2) := by decide +kernel
theorem d_Mo_making_69 : decode prog_9_method_37_code 69 = .ok (.bipush 6, 2) := by decide +kernel
theorem d_Mo_making_71 : decode prog_9_method_37_code 71 = .ok (.if_icmp .ge 56, 3) := by decide +kernel
theorem d_Mo_making_74 : decode prog_9_method_37_code 74 = .ok (.aload_n 0, 1) := by decide +kernel
theorem d_Mo_making_75 : decode prog_9_method_37_code 75 = .ok (.getfield 26, 3) := by decide +kernel
theorem d_Mo_making_78 : decode prog_9_method_37_code 78 = .ok (.iload 7, 2) := by decide +kernel
theorem d_Mo_making_80 : decode prog_9_method_37_code 80 = .ok (.aload_n 0, 1) := by decide +kernel
theorem d_Mo_making_81 : decode prog_9_method_37_code 81 = .ok (.getfield 19, 3) := by decide +kernel
theorem d_Mo_making_84 : decode prog_9_method_37_code 84 = .ok (.iload 5, 2) := by decide +kernel
theorem d_Mo_making_86 : decode prog_9_method_37_code 86 = .ok (.iload 7, 2) := by decide +kernel
theorem d_Mo_making_88 : decode prog_9_method_37_code 88 = .ok (.iadd, 1) := by decide +kernel
theorem d_Mo_making_89 : decode prog_9_method_37_code 89 = .ok (.iaload, 1) := by decide +kernel
theorem d_Mo_making_90 : decode prog_9_method_37_code 90 = .ok (.iload_n 1, 1) := by decide +kernel
theorem d_Mo_making_91 : decode prog_9_method_37_code 91 = .ok (.ifCond .ne 16, 3) := by decide +kernel
theorem d_Mo_making_94 : decode prog_9_method_37_code 94 = .ok (.aload_n 0, 1) := by decide +kernel
theorem d_Mo_making_95 : decode prog_9_method_37_code 95 = .ok (.getfield 19, 3) := by decide +kernel
theorem d_Mo_making_98 : decode prog_9_method_37_code 98 = .ok (.iload 6, 2) := by decide +kernel
theorem d_Mo_making_100 : decode prog_9_method_37_code 100 = .ok (.iload 7, 2) := by decide +kernel
theorem d_Mo_making_102 : decode prog_9_method_37_code 102 = .ok (.iadd, 1) := by decide +kernel
theorem d_Mo_making_103 : decode prog_9_method_37_code 103 = .ok (.iaload, 1) := by decide +kernel
theorem d_Mo_making_104 : decode prog_9_method_37_code 104 = .ok (.goto 14, 3) := by decide +kernel
theorem d_Mo_making_107 : decode prog_9_method_37_code 107 = .ok (.aload_n 0, 1) := by decide +kernel
theorem d_Mo_making_108 : decode prog_9_method_37_code 108 = .ok (.getfield 19, 3) := by decide +kernel
theorem d_Mo_making_111 : decode prog_9_method_37_code 111 = .ok (.iload 6, 2) := by decide +kernel
theorem d_Mo_making_113 : decode prog_9_method_37_code 113 = .ok (.iload 7, 2) := by decide +kernel
theorem d_Mo_making_115 : decode prog_9_method_37_code 115 = .ok (.iadd, 1) := by decide +kernel
theorem d_Mo_making_116 : decode prog_9_method_37_code 116 = .ok (.iaload, 1) := by decide +kernel
theorem d_Mo_making_117 : decode prog_9_method_37_code 117 = .ok (.ineg, 1) := by decide +kernel
theorem d_Mo_making_118 : decode prog_9_method_37_code 118 = .ok (.iadd, 1) := by decide +kernel
theorem d_Mo_making_119 : decode prog_9_method_37_code 119 = .ok (.i2l, 1) := by decide +kernel
theorem d_Mo_making_120 : decode prog_9_method_37_code 120 = .ok (.lastore, 1) := by decide +kernel
theorem d_Mo_making_121 : decode prog_9_method_37_code 121 = .ok (.iinc 7 1, 3) := by decide +kernel
theorem d_Mo_making_124 : decode prog_9_method_37_code 124 = .ok (.goto (-57), 3) := by decide +kernel
theorem d_Mo_making_127 : decode prog_9_method_37_code 127 = .ok (.iconst 1, 1) := by decide +kernel
theorem d_Mo_making_128 : decode prog_9_method_37_code 128 = .ok (.ireturn, 1) := by decide +kernel
theorem d_Mo_making_129 : decode prog_9_method_37_code 129 = .ok (.iconst 0, 1) := by decide +kernel
theorem d_Mo_making_130 : decode prog_9_method_37_code 130 = .ok (.istore 7, 2) := by decide +kernel
theorem d_Mo_making_132 : decode prog_9_method_37_code 132 = .ok (.iload 7, 2) := by decide +kernel
theorem d_Mo_making_134 : decode prog_9_method_37_code 134 = .ok (.bipush 6, 2) := by decide +kernel
theorem d_Mo_making_136 : decode prog_9_method_37_code 136 = .ok (.if_icmp .ge 61, 3) := by decide +kernel
theorem d_Mo_making_139 : decode prog_9_method_37_code 139 = .ok (.iconst 0, 1) := by decide +kernel
theorem d_Mo_making_140 : decode prog_9_method_37_code 140 = .ok (.istore 8, 2) := by decide +kernel
theorem d_Mo_making_142 : decode prog_9_method_37_code 142 = .ok (.iload 8, 2) := by decide +kernel
theorem d_Mo_making_144 : decode prog_9_method_37_code 144 = .ok (.bipush 6, 2) := by decide +kernel
theorem d_Mo_making_146 : decode prog_9_method_37_code 146 = .ok (.if_icmp .ge 45, 3) := by decide +kernel
theorem d_Mo_making_149 : decode prog_9_method_37_code 149 = .ok (.aload_n 0, 1) := by decide +kernel
theorem d_Mo_making_150 : decode prog_9_method_37_code 150 = .ok (.getfield 26, 3) := by decide +kernel
theorem d_Mo_making_153 : decode prog_9_method_37_code 153 = .ok (.iload 7, 2) := by decide +kernel
theorem d_Mo_making_155 : decode prog_9_method_37_code 155 = .ok (.iload 8, 2) := by decide +kernel
theorem d_Mo_making_157 : decode prog_9_method_37_code 157 = .ok (.iadd, 1) := by decide +kernel
theorem d_Mo_making_158 : decode prog_9_method_37_code 158 = .ok (.dup2, 1) := by decide +kernel
theorem d_Mo_making_159 : decode prog_9_method_37_code 159 = .ok (.laload, 1) := by decide +kernel
theorem d_Mo_making_160 : decode prog_9_method_37_code 160 = .ok (.aload_n 0, 1) := by decide +kernel
theorem d_Mo_making_161 : decode prog_9_method_37_code 161 = .ok (.getfield 19, 3) := by decide +kernel
theorem d_Mo_making_164 : decode prog_9_method_37_code 164 = .ok (.iload 5, 2) := by decide +kernel
theorem d_Mo_making_166 : decode prog_9_method_37_code 166 = .ok (.iload 7, 2) := by decide +kernel
theorem d_Mo_making_168 : decode prog_9_method_37_code 168 = .ok (.iadd, 1) := by decide +kernel
theorem d_Mo_making_169 : decode prog_9_method_37_code 169 = .ok (.iaload, 1) := by decide +kernel
theorem d_Mo_making_170 : decode prog_9_method_37_code 170 = .ok (.i2l, 1) := by decide +kernel
theorem d_Mo_making_171 : decode prog_9_method_37_code 171 = .ok (.aload_n 0, 1) := by decide +kernel
theorem d_Mo_making_172 : decode prog_9_method_37_code 172 = .ok (.getfield 19, 3) := by decide +kernel
theorem d_Mo_making_175 : decode prog_9_method_37_code 175 = .ok (.iload 6, 2) := by decide +kernel
theorem d_Mo_making_177 : decode prog_9_method_37_code 177 = .ok (.iload 8, 2) := by decide +kernel
theorem d_Mo_making_179 : decode prog_9_method_37_code 179 = .ok (.iadd, 1) := by decide +kernel
theorem d_Mo_making_180 : decode prog_9_method_37_code 180 = .ok (.iaload, 1) := by decide +kernel
theorem d_Mo_making_181 : decode prog_9_method_37_code 181 = .ok (.i2l, 1) := by decide +kernel
theorem d_Mo_making_182 : decode prog_9_method_37_code 182 = .ok (.lmul, 1) := by decide +kernel
theorem d_Mo_making_183 : decode prog_9_method_37_code 183 = .ok (.ladd, 1) := by decide +kernel
theorem d_Mo_making_184 : decode prog_9_method_37_code 184 = .ok (.lastore, 1) := by decide +kernel
theorem d_Mo_making_185 : decode prog_9_method_37_code 185 = .ok (.iinc 8 1, 3) := by decide +kernel
theorem d_Mo_making_188 : decode prog_9_method_37_code 188 = .ok (.goto (-46), 3) := by decide +kernel
theorem d_Mo_making_191 : decode prog_9_method_37_code 191 = .ok (.iinc 7 1, 3) := by decide +kernel
theorem d_Mo_making_194 : decode prog_9_method_37_code 194 = .ok (.goto (-62), 3) := by decide +kernel
theorem d_Mo_making_197 : decode prog_9_method_37_code 197 = .ok (.iconst 1, 1) := by decide +kernel
theorem d_Mo_making_198 : decode prog_9_method_37_code 198 = .ok (.ireturn, 1) := by decide +kernel
theorem d_Mo_making_199 : decode prog_9_method_37_code 199 = .ok (.iconst 0, 1) := by decide +kernel
theorem d_Mo_making_200 : decode prog_9_method_37_code 200 = .ok (.istore 7, 2) := by decide +kernel
theorem d_Mo_making_202 : decode prog_9_method_37_code 202 = .ok (.iload 7, 2) := by decide +kernel
theorem d_Mo_making_204 : decode prog_9_method_37_code 204 = .ok (.iconst 5, 1) := by decide +kernel
theorem d_Mo_making_205 : decode prog_9_method_37_code 205 = .ok (.if_icmp .ge 35, 3) := by decide +kernel
theorem d_Mo_making_208 : decode prog_9_method_37_code 208 = .ok (.aload_n 0, 1) := by decide +kernel
theorem d_Mo_making_209 : decode prog_9_method_37_code 209 = .ok (.getfield 26, 3) := by decide +kernel
theorem d_Mo_making_212 : decode prog_9_method_37_code 212 = .ok (.iload 7, 2) := by decide +kernel
theorem d_Mo_making_214 : decode prog_9_method_37_code 214 = .ok (.iload 7, 2) := by decide +kernel
theorem d_Mo_making_216 : decode prog_9_method_37_code 216 = .ok (.i2l, 1) := by decide +kernel
theorem d_Mo_making_217 : decode prog_9_method_37_code 217 = .ok (.lconst 1, 1) := by decide +kernel
theorem d_Mo_making_218 : decode prog_9_method_37_code 218 = .ok (.ladd, 1) := by decide +kernel
theorem d_Mo_making_219 : decode prog_9_method_37_code 219 = .ok (.aload_n 0, 1) := by decide +kernel
theorem d_Mo_making_220 : decode prog_9_method_37_code 220 = .ok (.getfield 19, 3) := by decide +kernel
theorem d_Mo_making_223 : decode prog_9_method_37_code 223 = .ok (.iload 5, 2) := by decide +kernel
theorem d_Mo_making_225 : decode prog_9_method_37_code 225 = .ok (.iload 7, 2) := by decide +kernel
theorem d_Mo_making_227 : decode prog_9_method_37_code 227 = .ok (.iadd, 1) := by decide +kernel
theorem d_Mo_making_228 : decode prog_9_method_37_code 228 = .ok (.iconst 1, 1) := by decide +kernel
theorem d_Mo_making_229 : decode prog_9_method_37_code 229 = .ok (.iadd, 1) := by decide +kernel
theorem d_Mo_making_230 : decode prog_9_method_37_code 230 = .ok (.iaload, 1) := by decide +kernel
theorem d_Mo_making_231 : decode prog_9_method_37_code 231 = .ok (.i2l, 1) := by decide +kernel
theorem d_Mo_making_232 : decode prog_9_method_37_code 232 = .ok (.lmul, 1) := by decide +kernel
theorem d_Mo_making_233 : decode prog_9_method_37_code 233 = .ok (.lastore, 1) := by decide +kernel
theorem d_Mo_making_234 : decode prog_9_method_37_code 234 = .ok (.iinc 7 1, 3) := by decide +kernel
theorem d_Mo_making_237 : decode prog_9_method_37_code 237 = .ok (.goto (-35), 3) := by decide +kernel
theorem d_Mo_making_240 : decode prog_9_method_37_code 240 = .ok (.iconst 1, 1) := by decide +kernel
theorem d_Mo_making_241 : decode prog_9_method_37_code 241 = .ok (.ireturn, 1) := by decide +kernel
theorem d_Mo_making_242 : decode prog_9_method_37_code 242 = .ok (.aload_n 0, 1) := by decide +kernel
theorem d_Mo_making_243 : decode prog_9_method_37_code 243 = .ok (.aload_n 0, 1) := by decide +kernel
theorem d_Mo_making_244 : decode prog_9_method_37_code 244 = .ok (.getfield 30, 3) := by decide +kernel
theorem d_Mo_making_247 : decode prog_9_method_37_code 247 = .ok (.iload_n 2, 1) := by decide +kernel
theorem d_Mo_making_248 : decode prog_9_method_37_code 248 = .ok (.invokevirtual 166, 3) := by decide +kernel
theorem d_Mo_making_251 : decode prog_9_method_37_code 251 = .ok (.aload_n 0, 1) := by decide +kernel
theorem d_Mo_making_252 : decode prog_9_method_37_code 252 = .ok (.aload_n 0, 1) := by decide +kernel
theorem d_Mo_making_253 : decode prog_9_method_37_code 253 = .ok (.getfield 33, 3) := by decide +kernel
theorem d_Mo_making_256 : decode prog_9_method_37_code 256 = .ok (.iload_n 3, 1) := by decide +kernel
theorem d_Mo_making_257 : decode prog_9_method_37_code 257 = .ok (.invokevirtual 166, 3) := by decide +kernel
theorem d_Mo_making_260 : decode prog_9_method_37_code 260 = .ok (.aload_n 0, 1) := by decide +kernel
theorem d_Mo_making_261 : decode prog_9_method_37_code 261 = .ok (.iload_n 2, 1) := by decide +kernel
theorem d_Mo_making_262 : decode prog_9_method_37_code 262 = .ok (.invokevirtual 125, 3) := by decide +kernel
theorem d_Mo_making_265 : decode prog_9_method_37_code 265 = .ok (.ifCond .ge 21, 3) := by decide +kernel
theorem d_Mo_making_268 : decode prog_9_method_37_code 268 = .ok (.aload_n 0, 1) := by decide +kernel
theorem d_Mo_making_269 : decode prog_9_method_37_code 269 = .ok (.aload_n 0, 1) := by decide +kernel
theorem d_Mo_making_270 : decode prog_9_method_37_code 270 = .ok (.getfield 30, 3) := by decide +kernel
theorem d_Mo_making_273 : decode prog_9_method_37_code 273 = .ok (.iload_n 3, 1) := by decide +kernel
theorem d_Mo_making_274 : decode prog_9_method_37_code 274 = .ok (.invokevirtual 166, 3) := by decide +kernel
theorem d_Mo_making_277 : decode prog_9_method_37_code 277 = .ok (.aload_n 0, 1) := by decide +kernel
theorem d_Mo_making_278 : decode prog_9_method_37_code 278 = .ok (.aload_n 0, 1) := by decide +kernel
theorem d_Mo_making_279 : decode prog_9_method_37_code 279 = .ok (.getfield 33, 3) := by decide +kernel
theorem d_Mo_making_282 : decode prog_9_method_37_code 282 = .ok (.iload_n 2, 1) := by decide +kernel
theorem d_Mo_making_283 : decode prog_9_method_37_code 283 = .ok (.invokevirtual 166, 3) := by decide +kernel
theorem d_Mo_making_286 : decode prog_9_method_37_code 286 = .ok (.aload_n 0, 1) := by decide +kernel
theorem d_Mo_making_287 : decode prog_9_method_37_code 287 = .ok (.aload_n 0, 1) := by decide +kernel
theorem d_Mo_making_288 : decode prog_9_method_37_code 288 = .ok (.getfield 30, 3) := by decide +kernel
theorem d_Mo_making_291 : decode prog_9_method_37_code 291 = .ok (.aload_n 0, 1) := by decide +kernel
theorem d_Mo_making_292 : decode prog_9_method_37_code 292 = .ok (.getfield 33, 3) := by decide +kernel
theorem d_Mo_making_295 : decode prog_9_method_37_code 295 = .ok (.invokevirtual 149, 3) := by decide +kernel
theorem d_Mo_making_298 : decode prog_9_method_37_code 298 = .ok (.iconst 0, 1) := by decide +kernel
theorem d_Mo_making_299 : decode prog_9_method_37_code 299 = .ok (.istore 7, 2) := by decide +kernel
theorem d_Mo_making_301 : decode prog_9_method_37_code 301 = .ok (.iload 7, 2) := by decide +kernel
theorem d_Mo_making_303 : decode prog_9_method_37_code 303 = .ok (.bipush 6, 2) := by decide +kernel
theorem d_Mo_making_305 : decode prog_9_method_37_code 305 = .ok (.if_icmp .ge 23, 3) := by decide +kernel
theorem d_Mo_making_308 : decode prog_9_method_37_code 308 = .ok (.aload_n 0, 1) := by decide +kernel
theorem d_Mo_making_309 : decode prog_9_method_37_code 309 = .ok (.getfield 26, 3) := by decide +kernel
theorem d_Mo_making_312 : decode prog_9_method_37_code 312 = .ok (.iload 7, 2) := by decide +kernel
theorem d_Mo_making_314 : decode prog_9_method_37_code 314 = .ok (.aload_n 0, 1) := by decide +kernel
theorem d_Mo_making_315 : decode prog_9_method_37_code 315 = .ok (.getfield 30, 3) := by decide +kernel
theorem d_Mo_making_318 : decode prog_9_method_37_code 318 = .ok (.iload 7, 2) := by decide +kernel
theorem d_Mo_making_320 : decode prog_9_method_37_code 320 = .ok (.laload, 1) := by decide +kernel
theorem d_Mo_making_321 : decode prog_9_method_37_code 321 = .ok (.lastore, 1) := by decide +kernel
theorem d_Mo_making_322 : decode prog_9_method_37_code 322 = .ok (.iinc 7 1, 3) := by decide +kernel
theorem d_Mo_making_325 : decode prog_9_method_37_code 325 = .ok (.goto (-24), 3) := by decide +kernel
theorem d_Mo_making_328 : decode prog_9_method_37_code 328 = .ok (.iconst 1, 1) := by decide +kernel
theorem d_Mo_making_329 : decode prog_9_method_37_code 329 = .ok (.ireturn, 1) := by decide +kernel
theorem d_Mo_making_330 : decode prog_9_method_37_code 330 = .ok (.aload_n 0, 1) := by decide +kernel
theorem d_Mo_making_331 : decode prog_9_method_37_code 331 = .ok (.aload_n 0, 1) := by decide +kernel
theorem d_Mo_making_332 : decode prog_9_method_37_code 332 = .ok (.getfield 39, 3) := by decide +kernel
theorem d_Mo_making_335 : decode prog_9_method_37_code 335 = .ok (.iload_n 2, 1) := by decide +kernel
theorem d_Mo_making_336 : decode prog_9_method_37_code 336 = .ok (.invokevirtual 166, 3) := by decide +kernel
theorem d_Mo_making_339 : decode prog_9_method_37_code 339 = .ok (.aload_n 0, 1) := by decide +kernel
theorem d_Mo_making_340 : decode prog_9_method_37_code 340 = .ok (.aload_n 0, 1) := by decide +kernel
theorem d_Mo_making_341 : decode prog_9_method_37_code 341 = .ok (.getfield 39, 3) := by decide +kernel
theorem d_Mo_making_344 : decode prog_9_method_37_code 344 = .ok (.invokevirtual 170, 3) := by decide +kernel
theorem d_Mo_making_347 : decode prog_9_method_37_code 347 = .ok (.iconst 0, 1) := by decide +kernel
theorem d_Mo_making_348 : decode prog_9_method_37_code 348 = .ok (.istore 7, 2) := by decide +kernel
theorem d_Mo_making_350 : decode prog_9_method_37_code 350 = .ok (.iload 7, 2) := by decide +kernel
theorem d_Mo_making_352 : decode prog_9_method_37_code 352 = .ok (.bipush 6, 2) := by decide +kernel
theorem d_Mo_making_354 : decode prog_9_method_37_code 354 = .ok (.if_icmp .ge 23, 3) := by decide +kernel
theorem d_Mo_making_357 : decode prog_9_method_37_code 357 = .ok (.aload_n 0, 1) := by decide +kernel
theorem d_Mo_making_358 : decode prog_9_method_37_code 358 = .ok (.getfield 26, 3) := by decide +kernel
theorem d_Mo_making_361 : decode prog_9_method_37_code 361 = .ok (.iload 7, 2) := by decide +kernel
theorem d_Mo_making_363 : decode prog_9_method_37_code 363 = .ok (.aload_n 0, 1) := by decide +kernel
theorem d_Mo_making_364 : decode prog_9_method_37_code 364 = .ok (.getfield 36, 3) := by decide +kernel
theorem d_Mo_making_367 : decode prog_9_method_37_code 367 = .ok (.iload 7, 2) := by decide +kernel
theorem d_Mo_making_369 : decode prog_9_method_37_code 369 = .ok (.laload, 1) := by decide +kernel
theorem d_Mo_making_370 : decode prog_9_method_37_code 370 = .ok (.lastore, 1) := by decide +kernel
theorem d_Mo_making_371 : decode prog_9_method_37_code 371 = .ok (.iinc 7 1, 3) := by decide +kernel
theorem d_Mo_making_374 : decode prog_9_method_37_code 374 = .ok (.goto (-24), 3) := by decide +kernel
theorem d_Mo_making_377 : decode prog_9_method_37_code 377 = .ok (.iconst 1, 1) := by decide +kernel
theorem d_Mo_making_378 : decode prog_9_method_37_code 378 = .ok (.ireturn, 1) := by decide +kernel
theorem d_Mo_making_379 : decode prog_9_method_37_code 379 = .ok (.aload_n 0, 1) := by decide +kernel
theorem d_Mo_making_380 : decode prog_9_method_37_code 380 = .ok (.iload 5, 2) := by decide +kernel
theorem d_Mo_making_382 : decode prog_9_method_37_code 382 = .ok (.iload_n 3, 1) := by decide +kernel
theorem d_Mo_making_383 : decode prog_9_method_37_code 383 = .ok (.iload 4, 2) := by decide +kernel
theorem d_Mo_making_385 : decode prog_9_method_37_code 385 = .ok (.invokevirtual 173, 3) := by decide +kernel
theorem d_Mo_making_388 : decode prog_9_method_37_code 388 = .ok (.ireturn, 1) := by decide +kernel
theorem d_Mo_making_389 : decode prog_9_method_37_code 389 = .ok (.iconst 0, 1) := by decide +kernel
theorem d_Mo_making_390 : decode prog_9_method_37_code 390 = .ok (.istore 7, 2) := by decide +kernel
theorem d_Mo_making_392 : decode prog_9_method_37_code 392 = .ok (.iload 7, 2) := by decide +kernel
theorem d_Mo_making_394 : decode prog_9_method_37_code 394 = .ok (.bipush 6, 2) := by decide +kernel
theorem d_Mo_making_396 : decode prog_9_method_37_code 396 = .ok (.if_icmp .ge 49, 3) := by decide +kernel
theorem d_Mo_making_399 : decode prog_9_method_37_code 399 = .ok (.aload_n 0, 1) := by decide +kernel
theorem d_Mo_making_400 : decode prog_9_method_37_code 400 = .ok (.getfield 26, 3) := by decide +kernel
theorem d_Mo_making_403 : decode prog_9_method_37_code 403 = .ok (.iload 7, 2) := by decide +kernel
theorem d_Mo_making_405 : decode prog_9_method_37_code 405 = .ok (.iload 7, 2) := by decide +kernel
theorem d_Mo_making_407 : decode prog_9_method_37_code 407 = .ok (.iconst 2, 1) := by decide +kernel
theorem d_Mo_making_408 : decode prog_9_method_37_code 408 = .ok (.irem, 1) := by decide +kernel
theorem d_Mo_making_409 : decode prog_9_method_37_code 409 = .ok (.ifCond .ne 17, 3) := by decide +kernel
theorem d_Mo_making_412 : decode prog_9_method_37_code 412 = .ok (.aload_n 0, 1) := by decide +kernel
theorem d_Mo_making_413 : decode prog_9_method_37_code 413 = .ok (.getfield 19, 3) := by decide +kernel
theorem d_Mo_making_416 : decode prog_9_method_37_code 416 = .ok (.iload 5, 2) := by decide +kernel
theorem d_Mo_making_418 : decode prog_9_method_37_code 418 = .ok (.iload 7, 2) := by decide +kernel
theorem d_Mo_making_420 : decode prog_9_method_37_code 420 = .ok (.iadd, 1) := by decide +kernel
theorem d_Mo_making_421 : decode prog_9_method_37_code 421 = .ok (.iaload, 1) := by decide +kernel
theorem d_Mo_making_422 : decode prog_9_method_37_code 422 = .ok (.i2l, 1) := by decide +kernel
theorem d_Mo_making_423 : decode prog_9_method_37_code 423 = .ok (.goto 15, 3) := by decide +kernel
theorem d_Mo_making_426 : decode prog_9_method_37_code 426 = .ok (.aload_n 0, 1) := by decide +kernel
theorem d_Mo_making_427 : decode prog_9_method_37_code 427 = .ok (.getfield 19, 3) := by decide +kernel
theorem d_Mo_making_430 : decode prog_9_method_37_code 430 = .ok (.iload 5, 2) := by decide +kernel
theorem d_Mo_making_432 : decode prog_9_method_37_code 432 = .ok (.iload 7, 2) := by decide +kernel
theorem d_Mo_making_434 : decode prog_9_method_37_code 434 = .ok (.iadd, 1) := by decide +kernel
theorem d_Mo_making_435 : decode prog_9_method_37_code 435 = .ok (.iaload, 1) := by decide +kernel
theorem d_Mo_making_436 : decode prog_9_method_37_code 436 = .ok (.ineg, 1) := by decide +kernel
theorem d_Mo_making_437 : decode prog_9_method_37_code 437 = .ok (.i2l, 1) := by decide +kernel
theorem d_Mo_making_438 : decode prog_9_method_37_code 438 = .ok (.lastore, 1) := by decide +kernel
theorem d_Mo_making_439 : decode prog_9_method_37_code 439 = .ok (.iinc 7 1, 3) := by decide +kernel
theorem d_Mo_making_442 : decode prog_9_method_37_code 442 = .ok (.goto (-50), 3) := by decide +kernel
theorem d_Mo_making_445 : decode prog_9_method_37_code 445 = .ok (.iconst 1, 1) := by decide +kernel
theorem d_Mo_making_446 : decode prog_9_method_37_code 446 = .ok (.ireturn, 1) := by decide +kernel
theorem d_Mo_making_447 : decode prog_9_method_37_code 447 = .ok (.iconst 0, 1) := by decide +kernel
theorem d_Mo_making_448 : decode prog_9_method_37_code 448 = .ok (.istore 7, 2) := by decide +kernel
theorem d_Mo_making_450 : decode prog_9_method_37_code 450 = .ok (.iload 7, 2) := by decide +kernel
theorem d_Mo_making_452 : decode prog_9_method_37_code 452 = .ok (.iload 4, 2) := by decide +kernel
theorem d_Mo_making_454 : decode prog_9_method_37_code 454 = .ok (.if_icmp .gt 30, 3) := by decide +kernel
theorem d_Mo_making_457 : decode prog_9_method_37_code 457 = .ok (.aload_n 0, 1) := by decide +kernel
theorem d_Mo_making_458 : decode prog_9_method_37_code 458 = .ok (.getfield 26, 3) := by decide +kernel
theorem d_Mo_making_461 : decode prog_9_method_37_code 461 = .ok (.iload 7, 2) := by decide +kernel
theorem d_Mo_making_463 : decode prog_9_method_37_code 463 = .ok (.aload_n 0, 1) := by decide +kernel
theorem d_Mo_making_464 : decode prog_9_method_37_code 464 = .ok (.getfield 19, 3) := by decide +kernel
theorem d_Mo_making_467 : decode prog_9_method_37_code 467 = .ok (.iload 5, 2) := by decide +kernel
theorem d_Mo_making_469 : decode prog_9_method_37_code 469 = .ok (.iload 4, 2) := by decide +kernel
theorem d_Mo_making_471 : decode prog_9_method_37_code 471 = .ok (.iadd, 1) := by decide +kernel
theorem d_Mo_making_472 : decode prog_9_method_37_code 472 = .ok (.iload 7, 2) := by decide +kernel
theorem d_Mo_making_474 : decode prog_9_method_37_code 474 = .ok (.isub, 1) := by decide +kernel
theorem d_Mo_making_475 : decode prog_9_method_37_code 475 = .ok (.iaload, 1) := by decide +kernel
theorem d_Mo_making_476 : decode prog_9_method_37_code 476 = .ok (.i2l, 1) := by decide +kernel
theorem d_Mo_making_477 : decode prog_9_method_37_code 477 = .ok (.lastore, 1) := by decide +kernel
theorem d_Mo_making_478 : decode prog_9_method_37_code 478 = .ok (.iinc 7 1, 3) := by decide +kernel
theorem d_Mo_making_481 : decode prog_9_method_37_code 481 = .ok (.goto (-31), 3) := by decide +kernel
theorem d_Mo_making_484 : decode prog_9_method_37_code 484 = .ok (.iconst 1, 1) := by decide +kernel
theorem d_Mo_making_485 : decode prog_9_method_37_code 485 = .ok (.ireturn, 1) := by decide +kernel
theorem d_Mo_making_486 : decode prog_9_method_37_code 486 = .ok (.lconst 1, 1) := by decide +kernel
theorem d_Mo_making_487 : decode prog_9_method_37_code 487 = .ok (.lstore 7, 2) := by decide +kernel
theorem d_Mo_making_489 : decode prog_9_method_37_code 489 = .ok (.iconst 0, 1) := by decide +kernel
theorem d_Mo_making_490 : decode prog_9_method_37_code 490 = .ok (.istore 9, 2) := by decide +kernel
theorem d_Mo_making_492 : decode prog_9_method_37_code 492 = .ok (.iload 9, 2) := by decide +kernel
theorem d_Mo_making_494 : decode prog_9_method_37_code 494 = .ok (.bipush 6, 2) := by decide +kernel
theorem d_Mo_making_496 : decode prog_9_method_37_code 496 = .ok (.if_icmp .ge 48, 3) := by decide +kernel
theorem d_Mo_making_499 : decode prog_9_method_37_code 499 = .ok (.aload_n 0, 1) := by decide +kernel
theorem d_Mo_making_500 : decode prog_9_method_37_code 500 = .ok (.getfield 26, 3) := by decide +kernel
theorem d_Mo_making_503 : decode prog_9_method_37_code 503 = .ok (.iload 9, 2) := by decide +kernel
theorem d_Mo_making_505 : decode prog_9_method_37_code 505 = .ok (.aload_n 0, 1) := by decide +kernel
theorem d_Mo_making_506 : decode prog_9_method_37_code 506 = .ok (.getfield 19, 3) := by decide +kernel
theorem d_Mo_making_509 : decode prog_9_method_37_code 509 = .ok (.iload 5, 2) := by decide +kernel
theorem d_Mo_making_511 : decode prog_9_method_37_code 511 = .ok (.iload 9, 2) := by decide +kernel
theorem d_Mo_making_513 : decode prog_9_method_37_code 513 = .ok (.iadd, 1) := by decide +kernel
theorem d_Mo_making_514 : decode prog_9_method_37_code 514 = .ok (.iaload, 1) := by decide +kernel
theorem d_Mo_making_515 : decode prog_9_method_37_code 515 = .ok (.i2l, 1) := by decide +kernel
theorem d_Mo_making_516 : decode prog_9_method_37_code 516 = .ok (.lload 7, 2) := by decide +kernel
theorem d_Mo_making_518 : decode prog_9_method_37_code 518 = .ok (.lmul, 1) := by decide +kernel
theorem d_Mo_making_519 : decode prog_9_method_37_code 519 = .ok (.lastore, 1) := by decide +kernel
theorem d_Mo_making_520 : decode prog_9_method_37_code 520 = .ok (.iload 9, 2) := by decide +kernel
theorem d_Mo_making_522 : decode prog_9_method_37_code 522 = .ok (.iconst 5, 1) := by decide +kernel
theorem d_Mo_making_523 : decode prog_9_method_37_code 523 = .ok (.if_icmp .ge 11, 3) := by decide +kernel
theorem d_Mo_making_526 : decode prog_9_method_37_code 526 = .ok (.lload 7, 2) := by decide +kernel
theorem d_Mo_making_528 : decode prog_9_method_37_code 528 = .ok (.iload_n 3, 1) := by decide +kernel
theorem d_Mo_making_529 : decode prog_9_method_37_code 529 = .ok (.i2l, 1) := by decide +kernel
theorem d_Mo_making_530 : decode prog_9_method_37_code 530 = .ok (.lmul, 1) := by decide +kernel
theorem d_Mo_making_531 : decode prog_9_method_37_code 531 = .ok (.goto 5, 3) := by decide +kernel
theorem d_Mo_making_534 : decode prog_9_method_37_code 534 = .ok (.lload 7, 2) := by decide +kernel
theorem d_Mo_making_536 : decode prog_9_method_37_code 536 = .ok (.lstore 7, 2) := by decide +kernel
theorem d_Mo_making_538 : decode prog_9_method_37_code 538 = .ok (.iinc 9 1, 3) := by decide +kernel
theorem d_Mo_making_541 : decode prog_9_method_37_code 541 = .ok (.goto (-49), 3) := by decide +kernel
theorem d_Mo_making_544 : decode prog_9_method_37_code 544 = .ok (.iconst 1, 1) := by decide +kernel
theorem d_Mo_making_545 : decode prog_9_method_37_code 545 = .ok (.ireturn, 1) := by decide +kernel
theorem d_Mo_making_13 : decode prog_9_method_37_code 13 = .ok (.tableswitch 473 0 8 #[51, 51, 116, 186, 229, 317, 366, 376, 434], 51) := by decide +kernel
set_option maxHeartbeats 8000000 in
set_option maxRecDepth 100000 in
theorem c_Mo_making_0 (l : Launch) (D : va_G) (cs : Nat → ClassId) (L : List Nat) (f : Nat → va_E) (sz : Nat) (y m1 m2 m3 m5 m6 m7 m8 m9 m10 m11 m12 m13 m15 : Nat) (th pn rw_ fu fb : Int) (md cv : Nat → Int) (p0 k0 p1 : Nat) (hF : Fc L [y, m7, m5]) (ha : f y = .inr (7, [.int (iI th), .ref m1, .ref m2, .ref m3, .int (iI pn), .ref m5, .ref m6, .ref m7, .ref m8, .ref m9, .ref m10, .ref m11, .ref m12, .ref m13, .int (iI rw_), .ref m15, .long (lI fu), .long (lI fb)])) (hm7 : f m7 = .inl (cs 1, 12, .inr (.inl (al md)))) (hm5 : f m5 = .inl (cs 0, 72, .inl (ai cv))) (hp0 : p0 < 12) (hcv : ∀ j, j < 72 → -1000 ≤ cv j ∧ cv j ≤ 1000) (hmd : ∀ j, j < 12 → md j = 0) (hk6 : k0 ≤ 6) (hz : ∀ j, k0 ≤ j → j < 6 → cv (6 * p0 + j) = 0) (hkl : 0 < k0 → cv (6 * p0 + (k0 - 1)) ≠ 0) (hp1 : p1 < 12) : Met l (⟨"RealRootsModel", "making", "(IIII)Z"⟩ : MethodName) (.code (⟨"RealRootsModel", "making", "(IIII)Z"⟩ : MethodName) prog_9_method_37_code 10 (Option.some Jvm.ClassFile.FieldType.boolean) :: gw) ({ frames := 9, cells := 0, slots := 0, locals := 320 }) (va_Pc [.ref y, .int (iI 0), .int (iI ((p0 : Int))), .int (iI ((p1 : Int))), .int (iI ((k0 : Int) - 1))] (K0 D vwCl (TY cs) L f sz)) (va_Qi (fun (r : Int32) (g : Nat → va_E) => ∃ (md' : Nat → Int), ∃ v : Int, r = iI v ∧ ((v = 1 ∧ MkP 0 (fun j => cv (6 * p0 + j)) (fun j => cv (6 * p1 + j)) 0 md') ∨ (v = 0 ∧ False)) ∧ g = mw f [(m7, .inl (cs 1, 12, .inr (.inl (al (md')))))]) (K1 D vwCl (TY cs) (AL L sz) L) (AL L sz)) 0 0 (AL L sz) := by
  refine Met.ofW (cc := prog_9_method_37_code) (maxL := 10) (ret := (Option.some Jvm.ClassFile.FieldType.boolean)) (by decide) rfl ?_
  intro p e s m args below meth c s₁ Bd hml hv
  obtain ⟨rfl, hk0⟩ := hv
  obtain ⟨hsz, B⟩ := hk0.start
  subst hsz
  have hx := Bd.exec
  have hb := Bd.bytes
  have hr := Bd.returns
  have hlocks := Bd.notSynchronized
  have hts0 := atoms_spec Bd.pre
  have hown : s.vm.findClass RX7 = some m.cls := findClass_of_methodNamed Bd.named
  have hA : ∀ q, s.heap.size ≤ q → AL L s.heap.size q := fun _ h => Or.inr h
  have hl := lv_entry ([.ref y, .int (iI 0), .int (iI ((p0 : Int))), .int (iI ((p1 : Int))), .int (iI ((k0 : Int) - 1))]) (n := 10) (Nat.le_of_ble_eq_true rfl)
  rw [lg_entry_eq]
  generalize (lg_sl ([.ref y, .int (iI 0), .int (iI ((p0 : Int))), .int (iI ((p1 : Int))), .int (iI ((k0 : Int) - 1))]) ++ List.replicate (10 - (lg_sl ([.ref y, .int (iI 0), .int (iI ((p0 : Int))), .int (iI ((p1 : Int))), .int (iI ((k0 : Int) - 1))])).length) Slot.unset).toArray = ls at hl ⊢
  refine absQ (fun Q R av hQ hR hav => ?_)
  have hts : ∀ w ∈ gw, w.before av s = true := by rw [hav]; exact fun w h => hts0 w (List.mem_cons_of_mem _ h)
  have hRf : R.frames = 9 := by rw [hR]; rfl
  have hRl : R.locals = 320 := by rw [hR]; rfl
  have hRc : R.cells = 0 := by rw [hR]; rfl
  have hRs : R.slots = 0 := by rw [hR]; rfl
  clear hR hts0 Bd
  have hl : lv_has ls 10 [(0, .ref y), (1, .int (iI 0)), (2, .int (iI ((p0 : Int)))), (3, .int (iI ((p1 : Int)))), (4, .int (iI ((k0 : Int) - 1)))] := hl
  have hfx : ∀ q ∈ ([(y, .inr (7, [.int (iI th), .ref m1, .ref m2, .ref m3, .int (iI pn), .ref m5, .ref m6, .ref m7, .ref m8, .ref m9, .ref m10, .ref m11, .ref m12, .ref m13, .int (iI rw_), .ref m15, .long (lI fu), .long (lI fb)])), (m7, .inl (cs 1, 12, .inr (.inl (al md)))), (m5, .inl (cs 0, 72, .inl (ai cv)))] : List (Nat × va_E)), f q.1 = q.2 := fun q hq => by
    simp only [List.mem_cons, List.not_mem_nil, or_false] at hq
    rcases hq with rfl | rfl | rfl
    · exact ha
    · exact hm7
    · exact hm5
  have hmw : mw f [(y, .inr (7, [.int (iI th), .ref m1, .ref m2, .ref m3, .int (iI pn), .ref m5, .ref m6, .ref m7, .ref m8, .ref m9, .ref m10, .ref m11, .ref m12, .ref m13, .int (iI rw_), .ref m15, .long (lI fu), .long (lI fb)])), (m7, .inl (cs 1, 12, .inr (.inl (al md)))), (m5, .inl (cs 0, 72, .inl (ai cv)))] = f := mw_self (fun k a e hk => hfx (a, e) (List.mem_of_getElem? hk))
  have B := B.focus [(y, .inr (7, [.int (iI th), .ref m1, .ref m2, .ref m3, .int (iI pn), .ref m5, .ref m6, .ref m7, .ref m8, .ref m9, .ref m10, .ref m11, .ref m12, .ref m13, .int (iI rw_), .ref m15, .long (lI fu), .long (lI fb)])), (m7, .inl (cs 1, 12, .inr (.inl (al md)))), (m5, .inl (cs 0, 72, .inl (ai cv)))] hfx
  refine x_bipush hx hb d_Mo_making_0 (by decide) ?_
  refine lv_iload_n hx hb d_Mo_making_2 rfl (lv_at hl 2 rfl) ?_
  refine x_imul hx hb d_Mo_making_3 ?_
  refine lv_istore (lv' := [(5, .int (iI (6 * ((p0 : Int))))), (0, .ref y), (1, .int (iI 0)), (2, .int (iI ((p0 : Int)))), (3, .int (iI ((p1 : Int)))), (4, .int (iI ((k0 : Int) - 1)))]) hx hb d_Mo_making_4 hl (by decide) rfl (fun ls hl => ?_)
  refine x_bipush hx hb d_Mo_making_6 (by decide) ?_
  refine lv_iload_n hx hb d_Mo_making_8 rfl (lv_at hl 4 rfl) ?_
  refine x_imul hx hb d_Mo_making_9 ?_
  refine lv_istore (lv' := [(6, .int (iI (6 * ((p1 : Int))))), (5, .int (iI (6 * ((p0 : Int))))), (0, .ref y), (1, .int (iI 0)), (2, .int (iI ((p0 : Int)))), (3, .int (iI ((p1 : Int)))), (4, .int (iI ((k0 : Int) - 1)))]) hx hb d_Mo_making_10 hl (by decide) rfl (fun ls hl => ?_)
  refine lv_iload_n hx hb d_Mo_making_12 rfl (lv_at hl 3 rfl) ?_
  refine lv_tableIn (tgt := 64) hx hb d_Mo_making_13 (by decide +kernel) (by decide +kernel) (off := 51) (by decide +kernel) (by decide) ?_
  refine x_iconst hx hb d_Mo_making_64 ?_
  refine lv_istore (lv' := [(7, .int (iI 0)), (6, .int (iI (6 * ((p1 : Int))))), (5, .int (iI (6 * ((p0 : Int))))), (0, .ref y), (1, .int (iI 0)), (2, .int (iI ((p0 : Int)))), (3, .int (iI ((p1 : Int)))), (4, .int (iI ((k0 : Int) - 1)))]) hx hb d_Mo_making_65 hl (by decide) rfl (fun ls hl => ?_)
  have LP : ∀ (fuel : Nat) (k : Nat) (md2 : Nat → Int), 6 - k < fuel → (k ≤ 6) → (∀ j, j < k → md2 j = cv (6 * p0 + j) + cv (6 * p1 + j)) → (∀ j, k ≤ j → j < 12 → md2 j = 0) → ∀ (H : Heap) (locs : List Loc) (ls : Array Slot), Wb D vwCl (TY cs) L (mw f [(y, .inr (7, [.int (iI th), .ref m1, .ref m2, .ref m3, .int (iI pn), .ref m5, .ref m6, .ref m7, .ref m8, .ref m9, .ref m10, .ref m11, .ref m12, .ref m13, .int (iI rw_), .ref m15, .long (lI fu), .long (lI fb)])), (m7, .inl (cs 1, 12, .inr (.inl (al md2)))), (m5, .inl (cs 0, 72, .inl (ai cv)))]) (AL L s.heap.size) s H locs → lv_has ls 10 [(7, .int (iI ((k : Int)))), (6, .int (iI (6 * (p1 : Int)))), (5, .int (iI (6 * (p0 : Int)))), (0, .ref y), (1, .int (iI 0)), (2, .int (iI ((p0 : Int)))), (3, .int (iI ((p1 : Int)))), (4, .int (iI ((k0 : Int) - 1)))] → W p l e R s m av below meth c H locs (0) (0) Q (F0 m 67 ls []) := by
    intro fuel
    induction fuel with
    | zero => intro k md2 hfu; exact absurd hfu (Nat.not_lt_zero _)
    | succ fuel ih_LP =>
      intro k md2 hfu_LP hk hI hJ H locs ls B hl
      refine lv_iload hx hb d_Mo_making_67 (lv_at hl 0 rfl) ?_
      refine x_bipush hx hb d_Mo_making_69 (by decide) ?_
      refine x_icmp_ge (tgt := 127) hx hb d_Mo_making_71 (by decide) (by omega) (by omega) (fun h71 => ?_) (fun h71 => ?_)
      · refine x_iconst hx hb d_Mo_making_127 ?_
        subst hQ hav
        exact x_zret hx hb hr (by decide) hlocks B d_Mo_making_128 (⟨md2, 1, rfl, Or.inl ⟨rfl, ⟨(fun _ => fun j hj => hI j (by omega)), (fun h9 => absurd h9 (by decide)), (fun h9 => absurd h9 (by decide)), (fun h9 => absurd h9 (by decide)), (fun h9 => absurd h9 (by decide)), (fun h9 => absurd h9 (by decide)), (fun h9 => absurd h9 (by decide)), (fun h9 => absurd h9 (by decide)), (fun h9 => absurd h9 (by decide)), (fun h9 => absurd h9 (by decide)), (fun _ => fun j h1 h2 => hJ j (by omega) h2)⟩⟩, Eq.trans (mw_drop (f := f) (X := [(m7, .inl (cs 1, 12, .inr (.inl (al md2)))), (m5, .inl (cs 0, 72, .inl (ai cv)))]) ha (List.nodup_cons.mp hF.1).1) (mw_tail (X := [(m7, .inl (cs 1, 12, .inr (.inl (al md2))))]) (Y := [(m5, .inl (cs 0, 72, .inl (ai cv)))]) (fun p hp => hfx p (List.mem_cons_of_mem _ (List.mem_cons_of_mem _ (hp)))))⟩)
      · have h9a := hcv (6 * p0 + k) (by omega)
        have h9b := hcv (6 * p1 + k) (by omega)
        refine lv_aload_n hx hb d_Mo_making_74 rfl (lv_at hl 3 rfl) ?_
        refine x_get (C := RX7) (T := TX7) (N := 18) hx hb hts inX7 hown B hF 0 rfl rfl 7 (by decide) (hts _ w_684) (fun _ h9 => h9) rfl d_Mo_making_75 ?_
        refine lv_iload hx hb d_Mo_making_78 (lv_at hl 0 rfl) ?_
        refine lv_aload_n hx hb d_Mo_making_80 rfl (lv_at hl 3 rfl) ?_
        refine x_get (C := RX7) (T := TX7) (N := 18) hx hb hts inX7 hown B hF 0 rfl rfl 5 (by decide) (hts _ w_682) (fun _ h9 => h9) rfl d_Mo_making_81 ?_
        refine lv_iload hx hb d_Mo_making_84 (lv_at hl 2 rfl) ?_
        refine lv_iload hx hb d_Mo_making_86 (lv_at hl 0 rfl) ?_
        refine x_iadd hx hb d_Mo_making_88 ?_
        refine x_iald hx hb B hF 2 0 rfl rfl (6 * p0 + k) (by omega) (by omega) (by decide) d_Mo_making_89 ?_
        refine lv_iload_n hx hb d_Mo_making_90 rfl (lv_at hl 4 rfl) ?_
        refine x_if_ne (tgt := 107) hx hb d_Mo_making_91 (by decide) (by omega) (fun h91 => ?_) (fun h91 => ?_)
        · exfalso; omega
        · refine lv_aload_n hx hb d_Mo_making_94 rfl (lv_at hl 3 rfl) ?_
          refine x_get (C := RX7) (T := TX7) (N := 18) hx hb hts inX7 hown B hF 0 rfl rfl 5 (by decide) (hts _ w_682) (fun _ h9 => h9) rfl d_Mo_making_95 ?_
          refine lv_iload hx hb d_Mo_making_98 (lv_at hl 1 rfl) ?_
          refine lv_iload hx hb d_Mo_making_100 (lv_at hl 0 rfl) ?_
          refine x_iadd hx hb d_Mo_making_102 ?_
          refine x_iald hx hb B hF 2 0 rfl rfl (6 * p1 + k) (by omega) (by omega) (by decide) d_Mo_making_103 ?_
          refine lv_goto (tgt := 118) hx hb d_Mo_making_104 (by decide) ?_
          refine x_iadd hx hb d_Mo_making_118 ?_
          refine x_i2l hx hb d_Mo_making_119 (by omega) ?_
          refine x_last hx hb B hF 1 1 rfl rfl k (by omega) (by omega) (by decide) d_Mo_making_120 (fun H locs B => ?_)
          have B : Wb D vwCl (TY cs) L (mw f [(y, .inr (7, [.int (iI th), .ref m1, .ref m2, .ref m3, .int (iI pn), .ref m5, .ref m6, .ref m7, .ref m8, .ref m9, .ref m10, .ref m11, .ref m12, .ref m13, .int (iI rw_), .ref m15, .long (lI fu), .long (lI fb)])), (m7, .inl (cs 1, 12, .inr (.inl (al (up md2 k ((cv (6 * p0 + k)) + (cv (6 * p1 + k)))))))), (m5, .inl (cs 0, 72, .inl (ai cv)))]) (AL L s.heap.size) s H _ := B
          refine x_iinc (lv' := [(7, .int (iI (((k : Int)) + 1))), (6, .int (iI (6 * (p1 : Int)))), (5, .int (iI (6 * (p0 : Int)))), (0, .ref y), (1, .int (iI 0)), (2, .int (iI ((p0 : Int)))), (3, .int (iI ((p1 : Int)))), (4, .int (iI ((k0 : Int) - 1)))]) hx hb d_Mo_making_121 hl (q := 0) rfl rfl (by decide) rfl (fun ls hl => ?_)
          refine lv_goto (tgt := 67) hx hb d_Mo_making_124 (by decide) ?_
          exact ih_LP (k + 1) (up md2 k ((cv (6 * p0 + k)) + (cv (6 * p1 + k)))) (by omega) (by omega) (fun j hj => by
          by_cases hjk : j = k
          · rw [hjk, up_self]
          · rw [up_ne _ _ hjk]; exact hI j (by omega)) (fun j h1 h2 => by rw [up_ne _ _ (by omega)]; exact hJ j (by omega) h2) _ _ _ B (lv_sub hl [0, 1, 2, 3, 4, 5, 6, 7] rfl)
  exact LP _ 0 md (Nat.lt_succ_self _) (by omega) (fun j hj => by omega) (fun j _ hj => hmd j hj) _ _ _ B (lv_sub hl [0, 1, 2, 3, 4, 5, 6, 7] rfl)
set_option maxHeartbeats 8000000 in
set_option maxRecDepth 100000 in
theorem c_Mo_making_1 (l : Launch) (D : va_G) (cs : Nat → ClassId) (L : List Nat) (f : Nat → va_E) (sz : Nat) (y m1 m2 m3 m5 m6 m7 m8 m9 m10 m11 m12 m13 m15 : Nat) (th pn rw_ fu fb : Int) (md cv : Nat → Int) (p0 k0 p1 : Nat) (hF : Fc L [y, m7, m5]) (ha : f y = .inr (7, [.int (iI th), .ref m1, .ref m2, .ref m3, .int (iI pn), .ref m5, .ref m6, .ref m7, .ref m8, .ref m9, .ref m10, .ref m11, .ref m12, .ref m13, .int (iI rw_), .ref m15, .long (lI fu), .long (lI fb)])) (hm7 : f m7 = .inl (cs 1, 12, .inr (.inl (al md)))) (hm5 : f m5 = .inl (cs 0, 72, .inl (ai cv))) (hp0 : p0 < 12) (hcv : ∀ j, j < 72 → -1000 ≤ cv j ∧ cv j ≤ 1000) (hmd : ∀ j, j < 12 → md j = 0) (hk6 : k0 ≤ 6) (hz : ∀ j, k0 ≤ j → j < 6 → cv (6 * p0 + j) = 0) (hkl : 0 < k0 → cv (6 * p0 + (k0 - 1)) ≠ 0) (hp1 : p1 < 12) : Met l (⟨"RealRootsModel", "making", "(IIII)Z"⟩ : MethodName) (.code (⟨"RealRootsModel", "making", "(IIII)Z"⟩ : MethodName) prog_9_method_37_code 10 (Option.some Jvm.ClassFile.FieldType.boolean) :: gw) ({ frames := 9, cells := 0, slots := 0, locals := 320 }) (va_Pc [.ref y, .int (iI 1), .int (iI ((p0 : Int))), .int (iI ((p1 : Int))), .int (iI ((k0 : Int) - 1))] (K0 D vwCl (TY cs) L f sz)) (va_Qi (fun (r : Int32) (g : Nat → va_E) => ∃ (md' : Nat → Int), ∃ v : Int, r = iI v ∧ ((v = 1 ∧ MkP 1 (fun j => cv (6 * p0 + j)) (fun j => cv (6 * p1 + j)) 0 md') ∨ (v = 0 ∧ False)) ∧ g = mw f [(m7, .inl (cs 1, 12, .inr (.inl (al (md')))))]) (K1 D vwCl (TY cs) (AL L sz) L) (AL L sz)) 0 0 (AL L sz) := by
  refine Met.ofW (cc := prog_9_method_37_code) (maxL := 10) (ret := (Option.some Jvm.ClassFile.FieldType.boolean)) (by decide) rfl ?_
  intro p e s m args below meth c s₁ Bd hml hv
  obtain ⟨rfl, hk0⟩ := hv
  obtain ⟨hsz, B⟩ := hk0.start
  subst hsz
  have hx := Bd.exec
  have hb := Bd.bytes
  have hr := Bd.returns
  have hlocks := Bd.notSynchronized
  have hts0 := atoms_spec Bd.pre
  have hown : s.vm.findClass RX7 = some m.cls := findClass_of_methodNamed Bd.named
  have hA : ∀ q, s.heap.size ≤ q → AL L s.heap.size q := fun _ h => Or.inr h
  have hl := lv_entry ([.ref y, .int (iI 1), .int (iI ((p0 : Int))), .int (iI ((p1 : Int))), .int (iI ((k0 : Int) - 1))]) (n := 10) (Nat.le_of_ble_eq_true rfl)
  rw [lg_entry_eq]
  generalize (lg_sl ([.ref y, .int (iI 1), .int (iI ((p0 : Int))), .int (iI ((p1 : Int))), .int (iI ((k0 : Int) - 1))]) ++ List.replicate (10 - (lg_sl ([.ref y, .int (iI 1), .int (iI ((p0 : Int))), .int (iI ((p1 : Int))), .int (iI ((k0 : Int) - 1))])).length) Slot.unset).toArray = ls at hl ⊢
  refine absQ (fun Q R av hQ hR hav => ?_)
  have hts : ∀ w ∈ gw, w.before av s = true := by rw [hav]; exact fun w h => hts0 w (List.mem_cons_of_mem _ h)
  have hRf : R.frames = 9 := by rw [hR]; rfl
  have hRl : R.locals = 320 := by rw [hR]; rfl
  have hRc : R.cells = 0 := by rw [hR]; rfl
  have hRs : R.slots = 0 := by rw [hR]; rfl
  clear hR hts0 Bd
  have hl : lv_has ls 10 [(0, .ref y), (1, .int (iI 1)), (2, .int (iI ((p0 : Int)))), (3, .int (iI ((p1 : Int)))), (4, .int (iI ((k0 : Int) - 1)))] := hl
  have hfx : ∀ q ∈ ([(y, .inr (7, [.int (iI th), .ref m1, .ref m2, .ref m3, .int (iI pn), .ref m5, .ref m6, .ref m7, .ref m8, .ref m9, .ref m10, .ref m11, .ref m12, .ref m13, .int (iI rw_), .ref m15, .long (lI fu), .long (lI fb)])), (m7, .inl (cs 1, 12, .inr (.inl (al md)))), (m5, .inl (cs 0, 72, .inl (ai cv)))] : List (Nat × va_E)), f q.1 = q.2 := fun q hq => by
    simp only [List.mem_cons, List.not_mem_nil, or_false] at hq
    rcases hq with rfl | rfl | rfl
    · exact ha
    · exact hm7
    · exact hm5
  have hmw : mw f [(y, .inr (7, [.int (iI th), .ref m1, .ref m2, .ref m3, .int (iI pn), .ref m5, .ref m6, .ref m7, .ref m8, .ref m9, .ref m10, .ref m11, .ref m12, .ref m13, .int (iI rw_), .ref m15, .long (lI fu), .long (lI fb)])), (m7, .inl (cs 1, 12, .inr (.inl (al md)))), (m5, .inl (cs 0, 72, .inl (ai cv)))] = f := mw_self (fun k a e hk => hfx (a, e) (List.mem_of_getElem? hk))
  have B := B.focus [(y, .inr (7, [.int (iI th), .ref m1, .ref m2, .ref m3, .int (iI pn), .ref m5, .ref m6, .ref m7, .ref m8, .ref m9, .ref m10, .ref m11, .ref m12, .ref m13, .int (iI rw_), .ref m15, .long (lI fu), .long (lI fb)])), (m7, .inl (cs 1, 12, .inr (.inl (al md)))), (m5, .inl (cs 0, 72, .inl (ai cv)))] hfx
  refine x_bipush hx hb d_Mo_making_0 (by decide) ?_
  refine lv_iload_n hx hb d_Mo_making_2 rfl (lv_at hl 2 rfl) ?_
  refine x_imul hx hb d_Mo_making_3 ?_
  refine lv_istore (lv' := [(5, .int (iI (6 * ((p0 : Int))))), (0, .ref y), (1, .int (iI 1)), (2, .int (iI ((p0 : Int)))), (3, .int (iI ((p1 : Int)))), (4, .int (iI ((k0 : Int) - 1)))]) hx hb d_Mo_making_4 hl (by decide) rfl (fun ls hl => ?_)
  refine x_bipush hx hb d_Mo_making_6 (by decide) ?_
  refine lv_iload_n hx hb d_Mo_making_8 rfl (lv_at hl 4 rfl) ?_
  refine x_imul hx hb d_Mo_making_9 ?_
  refine lv_istore (lv' := [(6, .int (iI (6 * ((p1 : Int))))), (5, .int (iI (6 * ((p0 : Int))))), (0, .ref y), (1, .int (iI 1)), (2, .int (iI ((p0 : Int)))), (3, .int (iI ((p1 : Int)))), (4, .int (iI ((k0 : Int) - 1)))]) hx hb d_Mo_making_10 hl (by decide) rfl (fun ls hl => ?_)
  refine lv_iload_n hx hb d_Mo_making_12 rfl (lv_at hl 3 rfl) ?_
  refine lv_tableIn (tgt := 64) hx hb d_Mo_making_13 (by decide +kernel) (by decide +kernel) (off := 51) (by decide +kernel) (by decide) ?_
  refine x_iconst hx hb d_Mo_making_64 ?_
  refine lv_istore (lv' := [(7, .int (iI 0)), (6, .int (iI (6 * ((p1 : Int))))), (5, .int (iI (6 * ((p0 : Int))))), (0, .ref y), (1, .int (iI 1)), (2, .int (iI ((p0 : Int)))), (3, .int (iI ((p1 : Int)))), (4, .int (iI ((k0 : Int) - 1)))]) hx hb d_Mo_making_65 hl (by decide) rfl (fun ls hl => ?_)
  have LP : ∀ (fuel : Nat) (k : Nat) (md2 : Nat → Int), 6 - k < fuel → (k ≤ 6) → (∀ j, j < k → md2 j = cv (6 * p0 + j) + -cv (6 * p1 + j)) → (∀ j, k ≤ j → j < 12 → md2 j = 0) → ∀ (H : Heap) (locs : List Loc) (ls : Array Slot), Wb D vwCl (TY cs) L (mw f [(y, .inr (7, [.int (iI th), .ref m1, .ref m2, .ref m3, .int (iI pn), .ref m5, .ref m6, .ref m7, .ref m8, .ref m9, .ref m10, .ref m11, .ref m12, .ref m13, .int (iI rw_), .ref m15, .long (lI fu), .long (lI fb)])), (m7, .inl (cs 1, 12, .inr (.inl (al md2)))), (m5, .inl (cs 0, 72, .inl (ai cv)))]) (AL L s.heap.size) s H locs → lv_has ls 10 [(7, .int (iI ((k : Int)))), (6, .int (iI (6 * (p1 : Int)))), (5, .int (iI (6 * (p0 : Int)))), (0, .ref y), (1, .int (iI 1)), (2, .int (iI ((p0 : Int)))), (3, .int (iI ((p1 : Int)))), (4, .int (iI ((k0 : Int) - 1)))] → W p l e R s m av below meth c H locs (0) (0) Q (F0 m 67 ls []) := by
    intro fuel
    induction fuel with
    | zero => intro k md2 hfu; exact absurd hfu (Nat.not_lt_zero _)
    | succ fuel ih_LP =>
      intro k md2 hfu_LP hk hI hJ H locs ls B hl
      refine lv_iload hx hb d_Mo_making_67 (lv_at hl 0 rfl) ?_
      refine x_bipush hx hb d_Mo_making_69 (by decide) ?_
      refine x_icmp_ge (tgt := 127) hx hb d_Mo_making_71 (by decide) (by omega) (by omega) (fun h71 => ?_) (fun h71 => ?_)
      · refine x_iconst hx hb d_Mo_making_127 ?_
        subst hQ hav
        exact x_zret hx hb hr (by decide) hlocks B d_Mo_making_128 (⟨md2, 1, rfl, Or.inl ⟨rfl, ⟨(fun h9 => absurd h9 (by decide)), (fun _ => fun j hj => hI j (by omega)), (fun h9 => absurd h9 (by decide)), (fun h9 => absurd h9 (by decide)), (fun h9 => absurd h9 (by decide)), (fun h9 => absurd h9 (by decide)), (fun h9 => absurd h9 (by decide)), (fun h9 => absurd h9 (by decide)), (fun h9 => absurd h9 (by decide)), (fun h9 => absurd h9 (by decide)), (fun _ => fun j h1 h2 => hJ j (by omega) h2)⟩⟩, Eq.trans (mw_drop (f := f) (X := [(m7, .inl (cs 1, 12, .inr (.inl (al md2)))), (m5, .inl (cs 0, 72, .inl (ai cv)))]) ha (List.nodup_cons.mp hF.1).1) (mw_tail (X := [(m7, .inl (cs 1, 12, .inr (.inl (al md2))))]) (Y := [(m5, .inl (cs 0, 72, .inl (ai cv)))]) (fun p hp => hfx p (List.mem_cons_of_mem _ (List.mem_cons_of_mem _ (hp)))))⟩)
      · have h9a := hcv (6 * p0 + k) (by omega)
        have h9b := hcv (6 * p1 + k) (by omega)
        refine lv_aload_n hx hb d_Mo_making_74 rfl (lv_at hl 3 rfl) ?_
        refine x_get (C := RX7) (T := TX7) (N := 18) hx hb hts inX7 hown B hF 0 rfl rfl 7 (by decide) (hts _ w_684) (fun _ h9 => h9) rfl d_Mo_making_75 ?_
        refine lv_iload hx hb d_Mo_making_78 (lv_at hl 0 rfl) ?_
        refine lv_aload_n hx hb d_Mo_making_80 rfl (lv_at hl 3 rfl) ?_
        refine x_get (C := RX7) (T := TX7) (N := 18) hx hb hts inX7 hown B hF 0 rfl rfl 5 (by decide) (hts _ w_682) (fun _ h9 => h9) rfl d_Mo_making_81 ?_
        refine lv_iload hx hb d_Mo_making_84 (lv_at hl 2 rfl) ?_
        refine lv_iload hx hb d_Mo_making_86 (lv_at hl 0 rfl) ?_
        refine x_iadd hx hb d_Mo_making_88 ?_
        refine x_iald hx hb B hF 2 0 rfl rfl (6 * p0 + k) (by omega) (by omega) (by decide) d_Mo_making_89 ?_
        refine lv_iload_n hx hb d_Mo_making_90 rfl (lv_at hl 4 rfl) ?_
        refine x_if_ne (tgt := 107) hx hb d_Mo_making_91 (by decide) (by omega) (fun h91 => ?_) (fun h91 => ?_)
        · refine lv_aload_n hx hb d_Mo_making_107 rfl (lv_at hl 3 rfl) ?_
          refine x_get (C := RX7) (T := TX7) (N := 18) hx hb hts inX7 hown B hF 0 rfl rfl 5 (by decide) (hts _ w_682) (fun _ h9 => h9) rfl d_Mo_making_108 ?_
          refine lv_iload hx hb d_Mo_making_111 (lv_at hl 1 rfl) ?_
          refine lv_iload hx hb d_Mo_making_113 (lv_at hl 0 rfl) ?_
          refine x_iadd hx hb d_Mo_making_115 ?_
          refine x_iald hx hb B hF 2 0 rfl rfl (6 * p1 + k) (by omega) (by omega) (by decide) d_Mo_making_116 ?_
          refine x_ineg hx hb d_Mo_making_117 ?_
          refine x_iadd hx hb d_Mo_making_118 ?_
          refine x_i2l hx hb d_Mo_making_119 (by omega) ?_
          refine x_last hx hb B hF 1 1 rfl rfl k (by omega) (by omega) (by decide) d_Mo_making_120 (fun H locs B => ?_)
          have B : Wb D vwCl (TY cs) L (mw f [(y, .inr (7, [.int (iI th), .ref m1, .ref m2, .ref m3, .int (iI pn), .ref m5, .ref m6, .ref m7, .ref m8, .ref m9, .ref m10, .ref m11, .ref m12, .ref m13, .int (iI rw_), .ref m15, .long (lI fu), .long (lI fb)])), (m7, .inl (cs 1, 12, .inr (.inl (al (up md2 k ((cv (6 * p0 + k)) + (-(cv (6 * p1 + k))))))))), (m5, .inl (cs 0, 72, .inl (ai cv)))]) (AL L s.heap.size) s H _ := B
          refine x_iinc (lv' := [(7, .int (iI (((k : Int)) + 1))), (6, .int (iI (6 * (p1 : Int)))), (5, .int (iI (6 * (p0 : Int)))), (0, .ref y), (1, .int (iI 1)), (2, .int (iI ((p0 : Int)))), (3, .int (iI ((p1 : Int)))), (4, .int (iI ((k0 : Int) - 1)))]) hx hb d_Mo_making_121 hl (q := 0) rfl rfl (by decide) rfl (fun ls hl => ?_)
          refine lv_goto (tgt := 67) hx hb d_Mo_making_124 (by decide) ?_
          exact ih_LP (k + 1) (up md2 k ((cv (6 * p0 + k)) + (-(cv (6 * p1 + k))))) (by omega) (by omega) (fun j hj => by
          by_cases hjk : j = k
          · rw [hjk, up_self]
          · rw [up_ne _ _ hjk]; exact hI j (by omega)) (fun j h1 h2 => by rw [up_ne _ _ (by omega)]; exact hJ j (by omega) h2) _ _ _ B (lv_sub hl [0, 1, 2, 3, 4, 5, 6, 7] rfl)
        · exfalso; omega
  exact LP _ 0 md (Nat.lt_succ_self _) (by omega) (fun j hj => by omega) (fun j _ hj => hmd j hj) _ _ _ B (lv_sub hl [0, 1, 2, 3, 4, 5, 6, 7] rfl)
set_option maxHeartbeats 8000000 in
set_option maxRecDepth 100000 in
theorem c_Mo_making_2 (l : Launch) (D : va_G) (cs : Nat → ClassId) (L : List Nat) (f : Nat → va_E) (sz : Nat) (y m1 m2 m3 m5 m6 m7 m8 m9 m10 m11 m12 m13 m15 : Nat) (th pn rw_ fu fb : Int) (md cv : Nat → Int) (p0 k0 p1 : Nat) (hF : Fc L [y, m7, m5]) (ha : f y = .inr (7, [.int (iI th), .ref m1, .ref m2, .ref m3, .int (iI pn), .ref m5, .ref m6, .ref m7, .ref m8, .ref m9, .ref m10, .ref m11, .ref m12, .ref m13, .int (iI rw_), .ref m15, .long (lI fu), .long (lI fb)])) (hm7 : f m7 = .inl (cs 1, 12, .inr (.inl (al md)))) (hm5 : f m5 = .inl (cs 0, 72, .inl (ai cv))) (hp0 : p0 < 12) (hcv : ∀ j, j < 72 → -1000 ≤ cv j ∧ cv j ≤ 1000) (hmd : ∀ j, j < 12 → md j = 0) (hk6 : k0 ≤ 6) (hz : ∀ j, k0 ≤ j → j < 6 → cv (6 * p0 + j) = 0) (hkl : 0 < k0 → cv (6 * p0 + (k0 - 1)) ≠ 0) (hp1 : p1 < 12) : Met l (⟨"RealRootsModel", "making", "(IIII)Z"⟩ : MethodName) (.code (⟨"RealRootsModel", "making", "(IIII)Z"⟩ : MethodName) prog_9_method_37_code 10 (Option.some Jvm.ClassFile.FieldType.boolean) :: gw) ({ frames := 9, cells := 0, slots := 0, locals := 320 }) (va_Pc [.ref y, .int (iI 2), .int (iI ((p0 : Int))), .int (iI ((p1 : Int))), .int (iI ((k0 : Int) - 1))] (K0 D vwCl (TY cs) L f sz)) (va_Qi (fun (r : Int32) (g : Nat → va_E) => ∃ (md' : Nat → Int), ∃ v : Int, r = iI v ∧ ((v = 1 ∧ MkP 2 (fun j => cv (6 * p0 + j)) (fun j => cv (6 * p1 + j)) 0 md') ∨ (v = 0 ∧ False)) ∧ g = mw f [(m7, .inl (cs 1, 12, .inr (.inl (al (md')))))]) (K1 D vwCl (TY cs) (AL L sz) L) (AL L sz)) 0 0 (AL L sz) := by
  refine Met.ofW (cc := prog_9_method_37_code) (maxL := 10) (ret := (Option.some Jvm.ClassFile.FieldType.boolean)) (by decide) rfl ?_
  intro p e s m args below meth c s₁ Bd hml hv
  obtain ⟨rfl, hk0⟩ := hv
  obtain ⟨hsz, B⟩ := hk0.start
  subst hsz
  have hx := Bd.exec
  have hb := Bd.bytes
  have hr := Bd.returns
  have hlocks := Bd.notSynchronized
  have hts0 := atoms_spec Bd.pre
  have hown : s.vm.findClass RX7 = some m.cls := findClass_of_methodNamed Bd.named
  have hA : ∀ q, s.heap.size ≤ q → AL L s.heap.size q := fun _ h => Or.inr h
  have hl := lv_entry ([.ref y, .int (iI 2), .int (iI ((p0 : Int))), .int (iI ((p1 : Int))), .int (iI ((k0 : Int) - 1))]) (n := 10) (Nat.le_of_ble_eq_true rfl)
  rw [lg_entry_eq]
  generalize (lg_sl ([.ref y, .int (iI 2), .int (iI ((p0 : Int))), .int (iI ((p1 : Int))), .int (iI ((k0 : Int) - 1))]) ++ List.replicate (10 - (lg_sl ([.ref y, .int (iI 2), .int (iI ((p0 : Int))), .int (iI ((p1 : Int))), .int (iI ((k0 : Int) - 1))])).length) Slot.unset).toArray = ls at hl ⊢
  refine absQ (fun Q R av hQ hR hav => ?_)
  have hts : ∀ w ∈ gw, w.before av s = true := by rw [hav]; exact fun w h => hts0 w (List.mem_cons_of_mem _ h)
  have hRf : R.frames = 9 := by rw [hR]; rfl
  have hRl : R.locals = 320 := by rw [hR]; rfl
  have hRc : R.cells = 0 := by rw [hR]; rfl
  have hRs : R.slots = 0 := by rw [hR]; rfl
  clear hR hts0 Bd
  have hl : lv_has ls 10 [(0, .ref y), (1, .int (iI 2)), (2, .int (iI ((p0 : Int)))), (3, .int (iI ((p1 : Int)))), (4, .int (iI ((k0 : Int) - 1)))] := hl
  have hfx : ∀ q ∈ ([(y, .inr (7, [.int (iI th), .ref m1, .ref m2, .ref m3, .int (iI pn), .ref m5, .ref m6, .ref m7, .ref m8, .ref m9, .ref m10, .ref m11, .ref m12, .ref m13, .int (iI rw_), .ref m15, .long (lI fu), .long (lI fb)])), (m7, .inl (cs 1, 12, .inr (.inl (al md)))), (m5, .inl (cs 0, 72, .inl (ai cv)))] : List (Nat × va_E)), f q.1 = q.2 := fun q hq => by
    simp only [List.mem_cons, List.not_mem_nil, or_false] at hq
    rcases hq with rfl | rfl | rfl
    · exact ha
    · exact hm7
    · exact hm5
  have hmw : mw f [(y, .inr (7, [.int (iI th), .ref m1, .ref m2, .ref m3, .int (iI pn), .ref m5, .ref m6, .ref m7, .ref m8, .ref m9, .ref m10, .ref m11, .ref m12, .ref m13, .int (iI rw_), .ref m15, .long (lI fu), .long (lI fb)])), (m7, .inl (cs 1, 12, .inr (.inl (al md)))), (m5, .inl (cs 0, 72, .inl (ai cv)))] = f := mw_self (fun k a e hk => hfx (a, e) (List.mem_of_getElem? hk))
  have B := B.focus [(y, .inr (7, [.int (iI th), .ref m1, .ref m2, .ref m3, .int (iI pn), .ref m5, .ref m6, .ref m7, .ref m8, .ref m9, .ref m10, .ref m11, .ref m12, .ref m13, .int (iI rw_), .ref m15, .long (lI fu), .long (lI fb)])), (m7, .inl (cs 1, 12, .inr (.inl (al md)))), (m5, .inl (cs 0, 72, .inl (ai cv)))] hfx
  refine x_bipush hx hb d_Mo_making_0 (by decide) ?_
  refine lv_iload_n hx hb d_Mo_making_2 rfl (lv_at hl 2 rfl) ?_
  refine x_imul hx hb d_Mo_making_3 ?_
  refine lv_istore (lv' := [(5, .int (iI (6 * ((p0 : Int))))), (0, .ref y), (1, .int (iI 2)), (2, .int (iI ((p0 : Int)))), (3, .int (iI ((p1 : Int)))), (4, .int (iI ((k0 : Int) - 1)))]) hx hb d_Mo_making_4 hl (by decide) rfl (fun ls hl => ?_)
  refine x_bipush hx hb d_Mo_making_6 (by decide) ?_
  refine lv_iload_n hx hb d_Mo_making_8 rfl (lv_at hl 4 rfl) ?_
  refine x_imul hx hb d_Mo_making_9 ?_
  refine lv_istore (lv' := [(6, .int (iI (6 * ((p1 : Int))))), (5, .int (iI (6 * ((p0 : Int))))), (0, .ref y), (1, .int (iI 2)), (2, .int (iI ((p0 : Int)))), (3, .int (iI ((p1 : Int)))), (4, .int (iI ((k0 : Int) - 1)))]) hx hb d_Mo_making_10 hl (by decide) rfl (fun ls hl => ?_)
  refine lv_iload_n hx hb d_Mo_making_12 rfl (lv_at hl 3 rfl) ?_
  refine lv_tableIn (tgt := 129) hx hb d_Mo_making_13 (by decide +kernel) (by decide +kernel) (off := 116) (by decide +kernel) (by decide) ?_
  refine x_iconst hx hb d_Mo_making_129 ?_
  refine lv_istore (lv' := [(7, .int (iI 0)), (6, .int (iI (6 * ((p1 : Int))))), (5, .int (iI (6 * ((p0 : Int))))), (0, .ref y), (1, .int (iI 2)), (2, .int (iI ((p0 : Int)))), (3, .int (iI ((p1 : Int)))), (4, .int (iI ((k0 : Int) - 1)))]) hx hb d_Mo_making_130 hl (by decide) rfl (fun ls hl => ?_)
  have L1 : ∀ (fuel : Nat) (i : Nat) (md2 : Nat → Int), 6 - i < fuel → (i ≤ 6) → (∀ t, t < 12 → md2 t = cvp (fun j => cv (6 * p0 + j)) (fun j => cv (6 * p1 + j)) i 0 t) → ∀ (H : Heap) (locs : List Loc) (ls : Array Slot), Wb D vwCl (TY cs) L (mw f [(y, .inr (7, [.int (iI th), .ref m1, .ref m2, .ref m3, .int (iI pn), .ref m5, .ref m6, .ref m7, .ref m8, .ref m9, .ref m10, .ref m11, .ref m12, .ref m13, .int (iI rw_), .ref m15, .long (lI fu), .long (lI fb)])), (m7, .inl (cs 1, 12, .inr (.inl (al md2)))), (m5, .inl (cs 0, 72, .inl (ai cv)))]) (AL L s.heap.size) s H locs → lv_has ls 10 [(7, .int (iI ((i : Int)))), (6, .int (iI (6 * (p1 : Int)))), (5, .int (iI (6 * (p0 : Int)))), (0, .ref y), (1, .int (iI 2)), (2, .int (iI ((p0 : Int)))), (3, .int (iI ((p1 : Int)))), (4, .int (iI ((k0 : Int) - 1)))] → W p l e R s m av below meth c H locs (0) (0) Q (F0 m 132 ls []) := by
    intro fuel
    induction fuel with
    | zero => intro i md2 hfu; exact absurd hfu (Nat.not_lt_zero _)
    | succ fuel ih_L1 =>
      intro i md2 hfu_L1 hi hI H locs ls B hl
      refine lv_iload hx hb d_Mo_making_132 (lv_at hl 0 rfl) ?_
      refine x_bipush hx hb d_Mo_making_134 (by decide) ?_
      refine x_icmp_ge (tgt := 197) hx hb d_Mo_making_136 (by decide) (by omega) (by omega) (fun h136 => ?_) (fun h136 => ?_)
      · refine x_iconst hx hb d_Mo_making_197 ?_
        subst hQ hav
        exact x_zret hx hb hr (by decide) hlocks B d_Mo_making_198 (⟨md2, 1, rfl, Or.inl ⟨rfl, ⟨(fun h9 => absurd h9 (by decide)), (fun h9 => absurd h9 (by decide)), (fun _ => fun t ht => by rw [hI t ht, show i = 6 by omega]; exact cvp_last _ _ t), (fun h9 => absurd h9 (by decide)), (fun h9 => absurd h9 (by decide)), (fun h9 => absurd h9 (by decide)), (fun h9 => absurd h9 (by decide)), (fun h9 => absurd h9 (by decide)), (fun h9 => absurd h9 (by decide)), (fun h9 => absurd h9 (by decide)), (fun h9 => absurd rfl h9)⟩⟩, Eq.trans (mw_drop (f := f) (X := [(m7, .inl (cs 1, 12, .inr (.inl (al md2)))), (m5, .inl (cs 0, 72, .inl (ai cv)))]) ha (List.nodup_cons.mp hF.1).1) (mw_tail (X := [(m7, .inl (cs 1, 12, .inr (.inl (al md2))))]) (Y := [(m5, .inl (cs 0, 72, .inl (ai cv)))]) (fun p hp => hfx p (List.mem_cons_of_mem _ (List.mem_cons_of_mem _ (hp)))))⟩)
      · refine x_iconst hx hb d_Mo_making_139 ?_
        refine lv_istore (lv' := [(8, .int (iI 0)), (7, .int (iI ((i : Int)))), (6, .int (iI (6 * (p1 : Int)))), (5, .int (iI (6 * (p0 : Int)))), (0, .ref y), (1, .int (iI 2)), (2, .int (iI ((p0 : Int)))), (3, .int (iI ((p1 : Int)))), (4, .int (iI ((k0 : Int) - 1)))]) hx hb d_Mo_making_140 hl (by decide) rfl (fun ls hl => ?_)
        have L2 : ∀ (fuel : Nat) (j : Nat) (md3 : Nat → Int), 6 - j < fuel → (j ≤ 6) → (∀ t, t < 12 → md3 t = cvp (fun j => cv (6 * p0 + j)) (fun j => cv (6 * p1 + j)) i j t) → ∀ (H : Heap) (locs : List Loc) (ls : Array Slot), Wb D vwCl (TY cs) L (mw f [(y, .inr (7, [.int (iI th), .ref m1, .ref m2, .ref m3, .int (iI pn), .ref m5, .ref m6, .ref m7, .ref m8, .ref m9, .ref m10, .ref m11, .ref m12, .ref m13, .int (iI rw_), .ref m15, .long (lI fu), .long (lI fb)])), (m7, .inl (cs 1, 12, .inr (.inl (al md3)))), (m5, .inl (cs 0, 72, .inl (ai cv)))]) (AL L s.heap.size) s H locs → lv_has ls 10 [(8, .int (iI ((j : Int)))), (7, .int (iI ((i : Int)))), (6, .int (iI (6 * (p1 : Int)))), (5, .int (iI (6 * (p0 : Int)))), (0, .ref y), (1, .int (iI 2)), (2, .int (iI ((p0 : Int)))), (3, .int (iI ((p1 : Int)))), (4, .int (iI ((k0 : Int) - 1)))] → W p l e R s m av below meth c H locs (0) (0) Q (F0 m 142 ls []) := by
          intro fuel
          induction fuel with
          | zero => intro j md3 hfu; exact absurd hfu (Nat.not_lt_zero _)
          | succ fuel ih_L2 =>
            intro j md3 hfu_L2 hj hJ H locs ls B hl
            refine lv_iload hx hb d_Mo_making_142 (lv_at hl 0 rfl) ?_
            refine x_bipush hx hb d_Mo_making_144 (by decide) ?_
            refine x_icmp_ge (tgt := 191) hx hb d_Mo_making_146 (by decide) (by omega) (by omega) (fun h146 => ?_) (fun h146 => ?_)
            · refine x_iinc (lv' := [(7, .int (iI (((i : Int)) + 1))), (8, .int (iI ((j : Int)))), (6, .int (iI (6 * (p1 : Int)))), (5, .int (iI (6 * (p0 : Int)))), (0, .ref y), (1, .int (iI 2)), (2, .int (iI ((p0 : Int)))), (3, .int (iI ((p1 : Int)))), (4, .int (iI ((k0 : Int) - 1)))]) hx hb d_Mo_making_191 hl (q := 1) rfl rfl (by decide) rfl (fun ls hl => ?_)
              refine lv_goto (tgt := 132) hx hb d_Mo_making_194 (by decide) ?_
              exact ih_L1 (i + 1) md3 (by omega) (by omega) (fun t ht => by rw [hJ t ht, show j = 6 by omega]; exact cvp_next _ _ _ _) _ _ _ B (lv_sub hl [0, 2, 3, 4, 5, 6, 7, 8] rfl)
            · have h9a := hcv (6 * p0 + i) (by omega)
              have h9b := hcv (6 * p1 + j) (by omega)
              refine lv_aload_n hx hb d_Mo_making_149 rfl (lv_at hl 4 rfl) ?_
              refine x_get (C := RX7) (T := TX7) (N := 18) hx hb hts inX7 hown B hF 0 rfl rfl 7 (by decide) (hts _ w_684) (fun _ h9 => h9) rfl d_Mo_making_150 ?_
              refine lv_iload hx hb d_Mo_making_153 (lv_at hl 1 rfl) ?_
              refine lv_iload hx hb d_Mo_making_155 (lv_at hl 0 rfl) ?_
              refine x_iadd hx hb d_Mo_making_157 ?_
              refine lv_dup2_11 hx hb d_Mo_making_158 rfl rfl ?_
              refine x_lald hx hb B hF 1 1 rfl rfl (i + j) (by omega) (by omega) (by decide) d_Mo_making_159 ?_
              refine lv_aload_n hx hb d_Mo_making_160 rfl (lv_at hl 4 rfl) ?_
              refine x_get (C := RX7) (T := TX7) (N := 18) hx hb hts inX7 hown B hF 0 rfl rfl 5 (by decide) (hts _ w_682) (fun _ h9 => h9) rfl d_Mo_making_161 ?_
              refine lv_iload hx hb d_Mo_making_164 (lv_at hl 3 rfl) ?_
              refine lv_iload hx hb d_Mo_making_166 (lv_at hl 1 rfl) ?_
              refine x_iadd hx hb d_Mo_making_168 ?_
              refine x_iald hx hb B hF 2 0 rfl rfl (6 * p0 + i) (by omega) (by omega) (by decide) d_Mo_making_169 ?_
              refine x_i2l hx hb d_Mo_making_170 (by omega) ?_
              refine lv_aload_n hx hb d_Mo_making_171 rfl (lv_at hl 4 rfl) ?_
              refine x_get (C := RX7) (T := TX7) (N := 18) hx hb hts inX7 hown B hF 0 rfl rfl 5 (by decide) (hts _ w_682) (fun _ h9 => h9) rfl d_Mo_making_172 ?_
              refine lv_iload hx hb d_Mo_making_175 (lv_at hl 2 rfl) ?_
              refine lv_iload hx hb d_Mo_making_177 (lv_at hl 0 rfl) ?_
              refine x_iadd hx hb d_Mo_making_179 ?_
              refine x_iald hx hb B hF 2 0 rfl rfl (6 * p1 + j) (by omega) (by omega) (by decide) d_Mo_making_180 ?_
              refine x_i2l hx hb d_Mo_making_181 (by omega) ?_
              refine x_lmul hx hb d_Mo_making_182 ?_
              refine x_ladd hx hb d_Mo_making_183 ?_
              refine x_last hx hb B hF 1 1 rfl rfl (i + j) (by omega) (by omega) (by decide) d_Mo_making_184 (fun H locs B => ?_)
              have B : Wb D vwCl (TY cs) L (mw f [(y, .inr (7, [.int (iI th), .ref m1, .ref m2, .ref m3, .int (iI pn), .ref m5, .ref m6, .ref m7, .ref m8, .ref m9, .ref m10, .ref m11, .ref m12, .ref m13, .int (iI rw_), .ref m15, .long (lI fu), .long (lI fb)])), (m7, .inl (cs 1, 12, .inr (.inl (al (up md3 (i + j) ((md3 (i + j)) + ((cv (6 * p0 + i)) * (cv (6 * p1 + j))))))))), (m5, .inl (cs 0, 72, .inl (ai cv)))]) (AL L s.heap.size) s H _ := B
              refine x_iinc (lv' := [(8, .int (iI (((j : Int)) + 1))), (7, .int (iI ((i : Int)))), (6, .int (iI (6 * (p1 : Int)))), (5, .int (iI (6 * (p0 : Int)))), (0, .ref y), (1, .int (iI 2)), (2, .int (iI ((p0 : Int)))), (3, .int (iI ((p1 : Int)))), (4, .int (iI ((k0 : Int) - 1)))]) hx hb d_Mo_making_185 hl (q := 0) rfl rfl (by decide) rfl (fun ls hl => ?_)
              refine lv_goto (tgt := 142) hx hb d_Mo_making_188 (by decide) ?_
              exact ih_L2 (j + 1) (up md3 (i + j) ((md3 (i + j)) + ((cv (6 * p0 + i)) * (cv (6 * p1 + j))))) (by omega) (by omega) (fun t ht => by
          by_cases htj : t = i + j
          · rw [htj, up_self, hJ (i + j) (by omega)]; exact (cvp_at _ _ _ _).symm
          · rw [up_ne _ _ htj, hJ t ht]; exact (cvp_off _ _ htj).symm) _ _ _ B (lv_sub hl [0, 1, 2, 3, 4, 5, 6, 7, 8] rfl)
        exact L2 _ 0 md2 (Nat.lt_succ_self _) (by omega) hI _ _ _ B (lv_sub hl [0, 1, 2, 3, 4, 5, 6, 7, 8] rfl)
  exact L1 _ 0 md (Nat.lt_succ_self _) (by omega) (fun t ht => by rw [hmd t ht]; rfl) _ _ _ B (lv_sub hl [0, 1, 2, 3, 4, 5, 6, 7] rfl)
set_option maxHeartbeats 8000000 in
set_option maxRecDepth 100000 in
theorem c_Mo_making_3 (l : Launch) (D : va_G) (cs : Nat → ClassId) (L : List Nat) (f : Nat → va_E) (sz : Nat) (y m1 m2 m3 m5 m6 m7 m8 m9 m10 m11 m12 m13 m15 : Nat) (th pn rw_ fu fb : Int) (md cv : Nat → Int) (p0 k0 : Nat) (b : Int) (hF : Fc L [y, m7, m5]) (ha : f y = .inr (7, [.int (iI th), .ref m1, .ref m2, .ref m3, .int (iI pn), .ref m5, .ref m6, .ref m7, .ref m8, .ref m9, .ref m10, .ref m11, .ref m12, .ref m13, .int (iI rw_), .ref m15, .long (lI fu), .long (lI fb)])) (hm7 : f m7 = .inl (cs 1, 12, .inr (.inl (al md)))) (hm5 : f m5 = .inl (cs 0, 72, .inl (ai cv))) (hp0 : p0 < 12) (hcv : ∀ j, j < 72 → -1000 ≤ cv j ∧ cv j ≤ 1000) (hmd : ∀ j, j < 12 → md j = 0) (hk6 : k0 ≤ 6) (hz : ∀ j, k0 ≤ j → j < 6 → cv (6 * p0 + j) = 0) (hkl : 0 < k0 → cv (6 * p0 + (k0 - 1)) ≠ 0) (hb0 : -2147483648 ≤ b ∧ b < 2147483648) : Met l (⟨"RealRootsModel", "making", "(IIII)Z"⟩ : MethodName) (.code (⟨"RealRootsModel", "making", "(IIII)Z"⟩ : MethodName) prog_9_method_37_code 10 (Option.some Jvm.ClassFile.FieldType.boolean) :: gw) ({ frames := 9, cells := 0, slots := 0, locals := 320 }) (va_Pc [.ref y, .int (iI 3), .int (iI ((p0 : Int))), .int (iI b), .int (iI ((k0 : Int) - 1))] (K0 D vwCl (TY cs) L f sz)) (va_Qi (fun (r : Int32) (g : Nat → va_E) => ∃ (md' : Nat → Int), ∃ v : Int, r = iI v ∧ ((v = 1 ∧ MkP 3 (fun j => cv (6 * p0 + j)) (fun _ => 0) b md') ∨ (v = 0 ∧ False)) ∧ g = mw f [(m7, .inl (cs 1, 12, .inr (.inl (al (md')))))]) (K1 D vwCl (TY cs) (AL L sz) L) (AL L sz)) 0 0 (AL L sz) := by
  refine Met.ofW (cc := prog_9_method_37_code) (maxL := 10) (ret := (Option.some Jvm.ClassFile.FieldType.boolean)) (by decide) rfl ?_
  intro p e s m args below meth c s₁ Bd hml hv
  obtain ⟨rfl, hk0⟩ := hv
  obtain ⟨hsz, B⟩ := hk0.start
  subst hsz
  have hx := Bd.exec
  have hb := Bd.bytes
  have hr := Bd.returns
  have hlocks := Bd.notSynchronized
  have hts0 := atoms_spec Bd.pre
  have hown : s.vm.findClass RX7 = some m.cls := findClass_of_methodNamed Bd.named
  have hA : ∀ q, s.heap.size ≤ q → AL L s.heap.size q := fun _ h => Or.inr h
  have hl := lv_entry ([.ref y, .int (iI 3), .int (iI ((p0 : Int))), .int (iI b), .int (iI ((k0 : Int) - 1))]) (n := 10) (Nat.le_of_ble_eq_true rfl)
  rw [lg_entry_eq]
  generalize (lg_sl ([.ref y, .int (iI 3), .int (iI ((p0 : Int))), .int (iI b), .int (iI ((k0 : Int) - 1))]) ++ List.replicate (10 - (lg_sl ([.ref y, .int (iI 3), .int (iI ((p0 : Int))), .int (iI b), .int (iI ((k0 : Int) - 1))])).length) Slot.unset).toArray = ls at hl ⊢
  refine absQ (fun Q R av hQ hR hav => ?_)
  have hts : ∀ w ∈ gw, w.before av s = true := by rw [hav]; exact fun w h => hts0 w (List.mem_cons_of_mem _ h)
  have hRf : R.frames = 9 := by rw [hR]; rfl
  have hRl : R.locals = 320 := by rw [hR]; rfl
  have hRc : R.cells = 0 := by rw [hR]; rfl
  have hRs : R.slots = 0 := by rw [hR]; rfl
  clear hR hts0 Bd
  have hl : lv_has ls 10 [(0, .ref y), (1, .int (iI 3)), (2, .int (iI ((p0 : Int)))), (3, .int (iI b)), (4, .int (iI ((k0 : Int) - 1)))] := hl
  have hfx : ∀ q ∈ ([(y, .inr (7, [.int (iI th), .ref m1, .ref m2, .ref m3, .int (iI pn), .ref m5, .ref m6, .ref m7, .ref m8, .ref m9, .ref m10, .ref m11, .ref m12, .ref m13, .int (iI rw_), .ref m15, .long (lI fu), .long (lI fb)])), (m7, .inl (cs 1, 12, .inr (.inl (al md)))), (m5, .inl (cs 0, 72, .inl (ai cv)))] : List (Nat × va_E)), f q.1 = q.2 := fun q hq => by
    simp only [List.mem_cons, List.not_mem_nil, or_false] at hq
    rcases hq with rfl | rfl | rfl
    · exact ha
    · exact hm7
    · exact hm5
  have hmw : mw f [(y, .inr (7, [.int (iI th), .ref m1, .ref m2, .ref m3, .int (iI pn), .ref m5, .ref m6, .ref m7, .ref m8, .ref m9, .ref m10, .ref m11, .ref m12, .ref m13, .int (iI rw_), .ref m15, .long (lI fu), .long (lI fb)])), (m7, .inl (cs 1, 12, .inr (.inl (al md)))), (m5, .inl (cs 0, 72, .inl (ai cv)))] = f := mw_self (fun k a e hk => hfx (a, e) (List.mem_of_getElem? hk))
  have B := B.focus [(y, .inr (7, [.int (iI th), .ref m1, .ref m2, .ref m3, .int (iI pn), .ref m5, .ref m6, .ref m7, .ref m8, .ref m9, .ref m10, .ref m11, .ref m12, .ref m13, .int (iI rw_), .ref m15, .long (lI fu), .long (lI fb)])), (m7, .inl (cs 1, 12, .inr (.inl (al md)))), (m5, .inl (cs 0, 72, .inl (ai cv)))] hfx
  refine x_bipush hx hb d_Mo_making_0 (by decide) ?_
  refine lv_iload_n hx hb d_Mo_making_2 rfl (lv_at hl 2 rfl) ?_
  refine x_imul hx hb d_Mo_making_3 ?_
  refine lv_istore (lv' := [(5, .int (iI (6 * ((p0 : Int))))), (0, .ref y), (1, .int (iI 3)), (2, .int (iI ((p0 : Int)))), (3, .int (iI b)), (4, .int (iI ((k0 : Int) - 1)))]) hx hb d_Mo_making_4 hl (by decide) rfl (fun ls hl => ?_)
  refine x_bipush hx hb d_Mo_making_6 (by decide) ?_
  refine lv_iload_n hx hb d_Mo_making_8 rfl (lv_at hl 4 rfl) ?_
  refine x_imul hx hb d_Mo_making_9 ?_
  refine lv_istore (lv' := [(6, .int (iI (6 * b))), (5, .int (iI (6 * ((p0 : Int))))), (0, .ref y), (1, .int (iI 3)), (2, .int (iI ((p0 : Int)))), (3, .int (iI b)), (4, .int (iI ((k0 : Int) - 1)))]) hx hb d_Mo_making_10 hl (by decide) rfl (fun ls hl => ?_)
  refine lv_iload_n hx hb d_Mo_making_12 rfl (lv_at hl 3 rfl) ?_
  refine lv_tableIn (tgt := 199) hx hb d_Mo_making_13 (by decide +kernel) (by decide +kernel) (off := 186) (by decide +kernel) (by decide) ?_
  refine x_iconst hx hb d_Mo_making_199 ?_
  refine lv_istore (lv' := [(7, .int (iI 0)), (6, .int (iI (6 * b))), (5, .int (iI (6 * ((p0 : Int))))), (0, .ref y), (1, .int (iI 3)), (2, .int (iI ((p0 : Int)))), (3, .int (iI b)), (4, .int (iI ((k0 : Int) - 1)))]) hx hb d_Mo_making_200 hl (by decide) rfl (fun ls hl => ?_)
  have LP : ∀ (fuel : Nat) (k : Nat) (md2 : Nat → Int), 5 - k < fuel → (k ≤ 5) → (∀ j, j < k → md2 j = ((j : Int) + 1) * cv (6 * p0 + (j + 1))) → (∀ j, k ≤ j → j < 12 → md2 j = 0) → ∀ (H : Heap) (locs : List Loc) (ls : Array Slot), Wb D vwCl (TY cs) L (mw f [(y, .inr (7, [.int (iI th), .ref m1, .ref m2, .ref m3, .int (iI pn), .ref m5, .ref m6, .ref m7, .ref m8, .ref m9, .ref m10, .ref m11, .ref m12, .ref m13, .int (iI rw_), .ref m15, .long (lI fu), .long (lI fb)])), (m7, .inl (cs 1, 12, .inr (.inl (al md2)))), (m5, .inl (cs 0, 72, .inl (ai cv)))]) (AL L s.heap.size) s H locs → lv_has ls 10 [(7, .int (iI ((k : Int)))), (6, .int (iI (6 * b))), (5, .int (iI (6 * (p0 : Int)))), (0, .ref y), (1, .int (iI 3)), (2, .int (iI ((p0 : Int)))), (3, .int (iI b)), (4, .int (iI ((k0 : Int) - 1)))] → W p l e R s m av below meth c H locs (0) (0) Q (F0 m 202 ls []) := by
    intro fuel
    induction fuel with
    | zero => intro k md2 hfu; exact absurd hfu (Nat.not_lt_zero _)
    | succ fuel ih_LP =>
      intro k md2 hfu_LP hk hI hJ H locs ls B hl
      refine lv_iload hx hb d_Mo_making_202 (lv_at hl 0 rfl) ?_
      refine x_iconst hx hb d_Mo_making_204 ?_
      refine x_icmp_ge (tgt := 240) hx hb d_Mo_making_205 (by decide) (by omega) (by omega) (fun h205 => ?_) (fun h205 => ?_)
      · refine x_iconst hx hb d_Mo_making_240 ?_
        subst hQ hav
        exact x_zret hx hb hr (by decide) hlocks B d_Mo_making_241 (⟨md2, 1, rfl, Or.inl ⟨rfl, ⟨(fun h9 => absurd h9 (by decide)), (fun h9 => absurd h9 (by decide)), (fun h9 => absurd h9 (by decide)), (fun _ => fun j hj => by
          unfold dva
          by_cases h5 : j < 5
          · rw [if_pos h5]; exact hI j (by omega)
          · rw [if_neg h5]; exact hJ j (by omega) (by omega)), (fun h9 => absurd h9 (by decide)), (fun h9 => absurd h9 (by decide)), (fun h9 => absurd h9 (by decide)), (fun h9 => absurd h9 (by decide)), (fun h9 => absurd h9 (by decide)), (fun h9 => absurd h9 (by decide)), (fun _ => fun j h1 h2 => hJ j (by omega) h2)⟩⟩, Eq.trans (mw_drop (f := f) (X := [(m7, .inl (cs 1, 12, .inr (.inl (al md2)))), (m5, .inl (cs 0, 72, .inl (ai cv)))]) ha (List.nodup_cons.mp hF.1).1) (mw_tail (X := [(m7, .inl (cs 1, 12, .inr (.inl (al md2))))]) (Y := [(m5, .inl (cs 0, 72, .inl (ai cv)))]) (fun p hp => hfx p (List.mem_cons_of_mem _ (List.mem_cons_of_mem _ (hp)))))⟩)
      · have h9a := hcv (6 * p0 + (k + 1)) (by omega)
        refine lv_aload_n hx hb d_Mo_making_208 rfl (lv_at hl 3 rfl) ?_
        refine x_get (C := RX7) (T := TX7) (N := 18) hx hb hts inX7 hown B hF 0 rfl rfl 7 (by decide) (hts _ w_684) (fun _ h9 => h9) rfl d_Mo_making_209 ?_
        refine lv_iload hx hb d_Mo_making_212 (lv_at hl 0 rfl) ?_
        refine lv_iload hx hb d_Mo_making_214 (lv_at hl 0 rfl) ?_
        refine x_i2l hx hb d_Mo_making_216 (by omega) ?_
        refine x_lconst (z := 1) hx hb d_Mo_making_217 (by decide) ?_
        refine x_ladd hx hb d_Mo_making_218 ?_
        refine lv_aload_n hx hb d_Mo_making_219 rfl (lv_at hl 3 rfl) ?_
        refine x_get (C := RX7) (T := TX7) (N := 18) hx hb hts inX7 hown B hF 0 rfl rfl 5 (by decide) (hts _ w_682) (fun _ h9 => h9) rfl d_Mo_making_220 ?_
        refine lv_iload hx hb d_Mo_making_223 (lv_at hl 2 rfl) ?_
        refine lv_iload hx hb d_Mo_making_225 (lv_at hl 0 rfl) ?_
        refine x_iadd hx hb d_Mo_making_227 ?_
        refine x_iconst hx hb d_Mo_making_228 ?_
        refine x_iadd hx hb d_Mo_making_229 ?_
        refine x_iald hx hb B hF 2 0 rfl rfl (6 * p0 + (k + 1)) (by omega) (by omega) (by decide) d_Mo_making_230 ?_
        refine x_i2l hx hb d_Mo_making_231 (by omega) ?_
        refine x_lmul hx hb d_Mo_making_232 ?_
        refine x_last hx hb B hF 1 1 rfl rfl k (by omega) (by omega) (by decide) d_Mo_making_233 (fun H locs B => ?_)
        have B : Wb D vwCl (TY cs) L (mw f [(y, .inr (7, [.int (iI th), .ref m1, .ref m2, .ref m3, .int (iI pn), .ref m5, .ref m6, .ref m7, .ref m8, .ref m9, .ref m10, .ref m11, .ref m12, .ref m13, .int (iI rw_), .ref m15, .long (lI fu), .long (lI fb)])), (m7, .inl (cs 1, 12, .inr (.inl (al (up md2 k ((((k : Int)) + 1) * (cv (6 * p0 + (k + 1))))))))), (m5, .inl (cs 0, 72, .inl (ai cv)))]) (AL L s.heap.size) s H _ := B
        refine x_iinc (lv' := [(7, .int (iI (((k : Int)) + 1))), (6, .int (iI (6 * b))), (5, .int (iI (6 * (p0 : Int)))), (0, .ref y), (1, .int (iI 3)), (2, .int (iI ((p0 : Int)))), (3, .int (iI b)), (4, .int (iI ((k0 : Int) - 1)))]) hx hb d_Mo_making_234 hl (q := 0) rfl rfl (by decide) rfl (fun ls hl => ?_)
        refine lv_goto (tgt := 202) hx hb d_Mo_making_237 (by decide) ?_
        exact ih_LP (k + 1) (up md2 k ((((k : Int)) + 1) * (cv (6 * p0 + (k + 1))))) (by omega) (by omega) (fun j hj => by
          by_cases hjk : j = k
          · rw [hjk, up_self]
          · rw [up_ne _ _ hjk]; exact hI j (by omega)) (fun j h1 h2 => by rw [up_ne _ _ (by omega)]; exact hJ j (by omega) h2) _ _ _ B (lv_sub hl [0, 1, 2, 3, 4, 5, 6, 7] rfl)
  exact LP _ 0 md (Nat.lt_succ_self _) (by omega) (fun j hj => by omega) (fun j _ hj => hmd j hj) _ _ _ B (lv_sub hl [0, 1, 2, 3, 4, 5, 6, 7] rfl)
set_option maxHeartbeats 8000000 in
set_option maxRecDepth 100000 in
theorem c_Mo_making_4 (l : Launch) (D : va_G) (cs : Nat → ClassId) (L : List Nat) (f : Nat → va_E) (sz : Nat) (y m1 m2 m3 m5 m6 m7 m8 m9 m10 m11 m12 m13 m15 : Nat) (th pn rw_ fu fb : Int) (lm mn sn Z w8 w9 : Nat → Int) (md cv : Nat → Int) (p0 k0 p1 : Nat) (hF : Fc L [y, m1, m2, m3, m8, m9, m7, m5]) (ha : f y = .inr (7, [.int (iI th), .ref m1, .ref m2, .ref m3, .int (iI pn), .ref m5, .ref m6, .ref m7, .ref m8, .ref m9, .ref m10, .ref m11, .ref m12, .ref m13, .int (iI rw_), .ref m15, .long (lI fu), .long (lI fb)])) (hm1 : f m1 = .inl (cs 0, 11520, .inl (ai lm))) (hm2 : f m2 = .inl (cs 0, 180, .inl (ai mn))) (hm3 : f m3 = .inl (cs 0, 180, .inl (ai sn))) (hm8 : f m8 = .inl (cs 1, 6, .inr (.inl (al w8)))) (hm9 : f m9 = .inl (cs 1, 6, .inr (.inl (al w9)))) (hm7 : f m7 = .inl (cs 1, 12, .inr (.inl (al md)))) (hm5 : f m5 = .inl (cs 0, 72, .inl (ai cv))) (hRS : RS lm mn sn Z) (hp0 : p0 < 12) (hcv : ∀ j, j < 72 → -1000 ≤ cv j ∧ cv j ≤ 1000) (hmd : ∀ j, j < 12 → md j = 0) (hk6 : k0 ≤ 6) (hz : ∀ j, k0 ≤ j → j < 6 → cv (6 * p0 + j) = 0) (hkl : 0 < k0 → cv (6 * p0 + (k0 - 1)) ≠ 0) (hp1 : p1 < 12) : Met l (⟨"RealRootsModel", "making", "(IIII)Z"⟩ : MethodName) (.code (⟨"RealRootsModel", "making", "(IIII)Z"⟩ : MethodName) prog_9_method_37_code 10 (Option.some Jvm.ClassFile.FieldType.boolean) :: gw) ({ frames := 9, cells := 0, slots := 0, locals := 320 }) (va_Pc [.ref y, .int (iI 4), .int (iI ((p0 : Int))), .int (iI ((p1 : Int))), .int (iI ((k0 : Int) - 1))] (K0 D vwCl (TY cs) L f sz)) (va_Qi (fun (r : Int32) (g : Nat → va_E) => ∃ (lm' mn' sn' Z' w8' w9' md' : Nat → Int) , RS lm' mn' sn' Z' ∧ (∀ w, w < 60 → Z' w = Z w) ∧ ∃ v : Int, r = iI v ∧ ((v = 1 ∧ MkP 4 (fun j => cv (6 * p0 + j)) (fun j => cv (6 * p1 + j)) 0 md') ∨ (v = 0 ∧ False)) ∧ g = mw f [(m1, .inl (cs 0, 11520, .inl (ai (lm')))), (m2, .inl (cs 0, 180, .inl (ai (mn')))), (m3, .inl (cs 0, 180, .inl (ai (sn')))), (m8, .inl (cs 1, 6, .inr (.inl (al (w8'))))), (m9, .inl (cs 1, 6, .inr (.inl (al (w9'))))), (m7, .inl (cs 1, 12, .inr (.inl (al (md')))))]) (K1 D vwCl (TY cs) (AL L sz) L) (AL L sz)) 0 0 (AL L sz) := by
  refine Met.ofW (cc := prog_9_method_37_code) (maxL := 10) (ret := (Option.some Jvm.ClassFile.FieldType.boolean)) (by decide) rfl ?_
  intro p e s m args below meth c s₁ Bd hml hv
  obtain ⟨rfl, hk0⟩ := hv
  obtain ⟨hsz, B⟩ := hk0.start
  subst hsz
  have hx := Bd.exec
  have hb := Bd.bytes
  have hr := Bd.returns
  have hlocks := Bd.notSynchronized
  have hts0 := atoms_spec Bd.pre
  have hown : s.vm.findClass RX7 = some m.cls := findClass_of_methodNamed Bd.named
  have hA : ∀ q, s.heap.size ≤ q → AL L s.heap.size q := fun _ h => Or.inr h
  have hl := lv_entry ([.ref y, .int (iI 4), .int (iI ((p0 : Int))), .int (iI ((p1 : Int))), .int (iI ((k0 : Int) - 1))]) (n := 10) (Nat.le_of_ble_eq_true rfl)
  rw [lg_entry_eq]
  generalize (lg_sl ([.ref y, .int (iI 4), .int (iI ((p0 : Int))), .int (iI ((p1 : Int))), .int (iI ((k0 : Int) - 1))]) ++ List.replicate (10 - (lg_sl ([.ref y, .int (iI 4), .int (iI ((p0 : Int))), .int (iI ((p1 : Int))), .int (iI ((k0 : Int) - 1))])).length) Slot.unset).toArray = ls at hl ⊢
  refine absQ (fun Q R av hQ hR hav => ?_)
  have hts : ∀ w ∈ gw, w.before av s = true := by rw [hav]; exact fun w h => hts0 w (List.mem_cons_of_mem _ h)
  have hRf : R.frames = 9 := by rw [hR]; rfl
  have hRl : R.locals = 320 := by rw [hR]; rfl
  have hRc : R.cells = 0 := by rw [hR]; rfl
  have hRs : R.slots = 0 := by rw [hR]; rfl
  clear hR hts0 Bd
  have hl : lv_has ls 10 [(0, .ref y), (1, .int (iI 4)), (2, .int (iI ((p0 : Int)))), (3, .int (iI ((p1 : Int)))), (4, .int (iI ((k0 : Int) - 1)))] := hl
  have hfx : ∀ q ∈ ([(y, .inr (7, [.int (iI th), .ref m1, .ref m2, .ref m3, .int (iI pn), .ref m5, .ref m6, .ref m7, .ref m8, .ref m9, .ref m10, .ref m11, .ref m12, .ref m13, .int (iI rw_), .ref m15, .long (lI fu), .long (lI fb)])), (m1, .inl (cs 0, 11520, .inl (ai lm))), (m2, .inl (cs 0, 180, .inl (ai mn))), (m3, .inl (cs 0, 180, .inl (ai sn))), (m8, .inl (cs 1, 6, .inr (.inl (al w8)))), (m9, .inl (cs 1, 6, .inr (.inl (al w9)))), (m7, .inl (cs 1, 12, .inr (.inl (al md)))), (m5, .inl (cs 0, 72, .inl (ai cv)))] : List (Nat × va_E)), f q.1 = q.2 := fun q hq => by
    simp only [List.mem_cons, List.not_mem_nil, or_false] at hq
    rcases hq with rfl | rfl | rfl | rfl | rfl | rfl | rfl | rfl
    · exact ha
    · exact hm1
    · exact hm2
    · exact hm3
    · exact hm8
    · exact hm9
    · exact hm7
    · exact hm5
  have hmw : mw f [(y, .inr (7, [.int (iI th), .ref m1, .ref m2, .ref m3, .int (iI pn), .ref m5, .ref m6, .ref m7, .ref m8, .ref m9, .ref m10, .ref m11, .ref m12, .ref m13, .int (iI rw_), .ref m15, .long (lI fu), .long (lI fb)])), (m1, .inl (cs 0, 11520, .inl (ai lm))), (m2, .inl (cs 0, 180, .inl (ai mn))), (m3, .inl (cs 0, 180, .inl (ai sn))), (m8, .inl (cs 1, 6, .inr (.inl (al w8)))), (m9, .inl (cs 1, 6, .inr (.inl (al w9)))), (m7, .inl (cs 1, 12, .inr (.inl (al md)))), (m5, .inl (cs 0, 72, .inl (ai cv)))] = f := mw_self (fun k a e hk => hfx (a, e) (List.mem_of_getElem? hk))
  have B := B.focus [(y, .inr (7, [.int (iI th), .ref m1, .ref m2, .ref m3, .int (iI pn), .ref m5, .ref m6, .ref m7, .ref m8, .ref m9, .ref m10, .ref m11, .ref m12, .ref m13, .int (iI rw_), .ref m15, .long (lI fu), .long (lI fb)])), (m1, .inl (cs 0, 11520, .inl (ai lm))), (m2, .inl (cs 0, 180, .inl (ai mn))), (m3, .inl (cs 0, 180, .inl (ai sn))), (m8, .inl (cs 1, 6, .inr (.inl (al w8)))), (m9, .inl (cs 1, 6, .inr (.inl (al w9)))), (m7, .inl (cs 1, 12, .inr (.inl (al md)))), (m5, .inl (cs 0, 72, .inl (ai cv)))] hfx
  refine x_bipush hx hb d_Mo_making_0 (by decide) ?_
  refine lv_iload_n hx hb d_Mo_making_2 rfl (lv_at hl 2 rfl) ?_
  refine x_imul hx hb d_Mo_making_3 ?_
  refine lv_istore (lv' := [(5, .int (iI (6 * ((p0 : Int))))), (0, .ref y), (1, .int (iI 4)), (2, .int (iI ((p0 : Int)))), (3, .int (iI ((p1 : Int)))), (4, .int (iI ((k0 : Int) - 1)))]) hx hb d_Mo_making_4 hl (by decide) rfl (fun ls hl => ?_)
  refine x_bipush hx hb d_Mo_making_6 (by decide) ?_
  refine lv_iload_n hx hb d_Mo_making_8 rfl (lv_at hl 4 rfl) ?_
  refine x_imul hx hb d_Mo_making_9 ?_
  refine lv_istore (lv' := [(6, .int (iI (6 * ((p1 : Int))))), (5, .int (iI (6 * ((p0 : Int))))), (0, .ref y), (1, .int (iI 4)), (2, .int (iI ((p0 : Int)))), (3, .int (iI ((p1 : Int)))), (4, .int (iI ((k0 : Int) - 1)))]) hx hb d_Mo_making_10 hl (by decide) rfl (fun ls hl => ?_)
  refine lv_iload_n hx hb d_Mo_making_12 rfl (lv_at hl 3 rfl) ?_
  refine lv_tableIn (tgt := 242) hx hb d_Mo_making_13 (by decide +kernel) (by decide +kernel) (off := 229) (by decide +kernel) (by decide) ?_
  refine lv_aload_n hx hb d_Mo_making_242 rfl (lv_at hl 2 rfl) ?_
  refine lv_aload_n hx hb d_Mo_making_243 rfl (lv_at hl 2 rfl) ?_
  refine x_get (C := RX7) (T := TX7) (N := 18) hx hb hts inX7 hown B hF 0 rfl rfl 8 (by decide) (hts _ w_685) (fun _ h9 => h9) rfl d_Mo_making_244 ?_
  refine lv_iload_n hx hb d_Mo_making_247 rfl (lv_at hl 4 rfl) ?_
  refine x_callv B hA (va_runV (As := [.ref m8, .int (iI ((p0 : Int)))]) (rest := []) ⟨hx, hb, hml, hown, hts⟩ (c_Mo_load l D cs _ _ _ y m1 m2 m3 m5 m6 m7 m8 m9 m10 m11 m12 m13 m15 th pn rw_ fu fb m8 p0 w8 cv (hF.pick [0, 4, 7] rfl rfl) (mw_get (X := [(y, .inr (7, [.int (iI th), .ref m1, .ref m2, .ref m3, .int (iI pn), .ref m5, .ref m6, .ref m7, .ref m8, .ref m9, .ref m10, .ref m11, .ref m12, .ref m13, .int (iI rw_), .ref m15, .long (lI fu), .long (lI fb)])), (m1, .inl (cs 0, 11520, .inl (ai lm))), (m2, .inl (cs 0, 180, .inl (ai mn))), (m3, .inl (cs 0, 180, .inl (ai sn))), (m8, .inl (cs 1, 6, .inr (.inl (al w8)))), (m9, .inl (cs 1, 6, .inr (.inl (al w9)))), (m7, .inl (cs 1, 12, .inr (.inl (al md)))), (m5, .inl (cs 0, 72, .inl (ai cv)))]) hF.1 (k := 0) rfl) (mw_get (X := [(y, .inr (7, [.int (iI th), .ref m1, .ref m2, .ref m3, .int (iI pn), .ref m5, .ref m6, .ref m7, .ref m8, .ref m9, .ref m10, .ref m11, .ref m12, .ref m13, .int (iI rw_), .ref m15, .long (lI fu), .long (lI fb)])), (m1, .inl (cs 0, 11520, .inl (ai lm))), (m2, .inl (cs 0, 180, .inl (ai mn))), (m3, .inl (cs 0, 180, .inl (ai sn))), (m8, .inl (cs 1, 6, .inr (.inl (al w8)))), (m9, .inl (cs 1, 6, .inr (.inl (al w9)))), (m7, .inl (cs 1, 12, .inr (.inl (al md)))), (m5, .inl (cs 0, 72, .inl (ai cv)))]) hF.1 (k := 4) rfl) (mw_get (X := [(y, .inr (7, [.int (iI th), .ref m1, .ref m2, .ref m3, .int (iI pn), .ref m5, .ref m6, .ref m7, .ref m8, .ref m9, .ref m10, .ref m11, .ref m12, .ref m13, .int (iI rw_), .ref m15, .long (lI fu), .long (lI fb)])), (m1, .inl (cs 0, 11520, .inl (ai lm))), (m2, .inl (cs 0, 180, .inl (ai mn))), (m3, .inl (cs 0, 180, .inl (ai sn))), (m8, .inl (cs 1, 6, .inr (.inl (al w8)))), (m9, .inl (cs 1, 6, .inr (.inl (al w9)))), (m7, .inl (cs 1, 12, .inr (.inl (al md)))), (m5, .inl (cs 0, 72, .inl (ai cv)))]) hF.1 (k := 7) rfl) hp0 hcv) (cwV 2 hts (gw_V w_780 w_782 s_32 w_8 w_783) rfl rfl rfl (by decide +kernel) ⟨by rw [hRf]; exact Nat.le_of_ble_eq_true rfl, by rw [hRl]; exact Nat.le_of_ble_eq_true rfl⟩) ⟨K0.blind, B.recv (hF.2 _ (mw_key (k := 0) (X := [(y, .inr (7, [.int (iI th), .ref m1, .ref m2, .ref m3, .int (iI pn), .ref m5, .ref m6, .ref m7, .ref m8, .ref m9, .ref m10, .ref m11, .ref m12, .ref m13, .int (iI rw_), .ref m15, .long (lI fu), .long (lI fb)])), (m1, .inl (cs 0, 11520, .inl (ai lm))), (m2, .inl (cs 0, 180, .inl (ai mn))), (m3, .inl (cs 0, 180, .inl (ai sn))), (m8, .inl (cs 1, 6, .inr (.inl (al w8)))), (m9, .inl (cs 1, 6, .inr (.inl (al w9)))), (m7, .inl (cs 1, 12, .inr (.inl (al md)))), (m5, .inl (cs 0, 72, .inl (ai cv)))]) rfl)) (mw_get (X := [(y, .inr (7, [.int (iI th), .ref m1, .ref m2, .ref m3, .int (iI pn), .ref m5, .ref m6, .ref m7, .ref m8, .ref m9, .ref m10, .ref m11, .ref m12, .ref m13, .int (iI rw_), .ref m15, .long (lI fu), .long (lI fb)])), (m1, .inl (cs 0, 11520, .inl (ai lm))), (m2, .inl (cs 0, 180, .inl (ai mn))), (m3, .inl (cs 0, 180, .inl (ai sn))), (m8, .inl (cs 1, 6, .inr (.inl (al w8)))), (m9, .inl (cs 1, 6, .inr (.inl (al w9)))), (m7, .inl (cs 1, 12, .inr (.inl (al md)))), (m5, .inl (cs 0, 72, .inl (ai cv)))]) hF.1 (k := 0) rfl) rfl, B.pre _⟩ rfl rfl hl.1 rfl (lv_room (Nat.le_of_ble_eq_true rfl)) d_Mo_making_248 ⟨by rw [hRc]; omega, by rw [hRs]; omega⟩) (fun g248 H locs hw B => ?_)
  obtain ⟨a1, ha1, rfl⟩ := hw
  have B := B.of_eq (mw_put (X := [(y, .inr (7, [.int (iI th), .ref m1, .ref m2, .ref m3, .int (iI pn), .ref m5, .ref m6, .ref m7, .ref m8, .ref m9, .ref m10, .ref m11, .ref m12, .ref m13, .int (iI rw_), .ref m15, .long (lI fu), .long (lI fb)])), (m1, .inl (cs 0, 11520, .inl (ai lm))), (m2, .inl (cs 0, 180, .inl (ai mn))), (m3, .inl (cs 0, 180, .inl (ai sn))), (m8, .inl (cs 1, 6, .inr (.inl (al w8)))), (m9, .inl (cs 1, 6, .inr (.inl (al w9)))), (m7, .inl (cs 1, 12, .inr (.inl (al md)))), (m5, .inl (cs 0, 72, .inl (ai cv)))]) hF.1 (k := 4) rfl)
  have B : Wb D vwCl (TY cs) L (mw f [(y, .inr (7, [.int (iI th), .ref m1, .ref m2, .ref m3, .int (iI pn), .ref m5, .ref m6, .ref m7, .ref m8, .ref m9, .ref m10, .ref m11, .ref m12, .ref m13, .int (iI rw_), .ref m15, .long (lI fu), .long (lI fb)])), (m1, .inl (cs 0, 11520, .inl (ai lm))), (m2, .inl (cs 0, 180, .inl (ai mn))), (m3, .inl (cs 0, 180, .inl (ai sn))), (m8, .inl (cs 1, 6, .inr (.inl (al a1)))), (m9, .inl (cs 1, 6, .inr (.inl (al w9)))), (m7, .inl (cs 1, 12, .inr (.inl (al md)))), (m5, .inl (cs 0, 72, .inl (ai cv)))]) (AL L s.heap.size) s H _ := B
  refine lv_aload_n hx hb d_Mo_making_251 rfl (lv_at hl 2 rfl) ?_
  refine lv_aload_n hx hb d_Mo_making_252 rfl (lv_at hl 2 rfl) ?_
  refine x_get (C := RX7) (T := TX7) (N := 18) hx hb hts inX7 hown B hF 0 rfl rfl 9 (by decide) (hts _ w_686) (fun _ h9 => h9) rfl d_Mo_making_253 ?_
  refine lv_iload_n hx hb d_Mo_making_256 rfl (lv_at hl 5 rfl) ?_
  refine x_callv B hA (va_runV (As := [.ref m9, .int (iI ((p1 : Int)))]) (rest := []) ⟨hx, hb, hml, hown, hts⟩ (c_Mo_load l D cs _ _ _ y m1 m2 m3 m5 m6 m7 m8 m9 m10 m11 m12 m13 m15 th pn rw_ fu fb m9 p1 w9 cv (hF.pick [0, 5, 7] rfl rfl) (mw_get (X := [(y, .inr (7, [.int (iI th), .ref m1, .ref m2, .ref m3, .int (iI pn), .ref m5, .ref m6, .ref m7, .ref m8, .ref m9, .ref m10, .ref m11, .ref m12, .ref m13, .int (iI rw_), .ref m15, .long (lI fu), .long (lI fb)])), (m1, .inl (cs 0, 11520, .inl (ai lm))), (m2, .inl (cs 0, 180, .inl (ai mn))), (m3, .inl (cs 0, 180, .inl (ai sn))), (m8, .inl (cs 1, 6, .inr (.inl (al a1)))), (m9, .inl (cs 1, 6, .inr (.inl (al w9)))), (m7, .inl (cs 1, 12, .inr (.inl (al md)))), (m5, .inl (cs 0, 72, .inl (ai cv)))]) hF.1 (k := 0) rfl) (mw_get (X := [(y, .inr (7, [.int (iI th), .ref m1, .ref m2, .ref m3, .int (iI pn), .ref m5, .ref m6, .ref m7, .ref m8, .ref m9, .ref m10, .ref m11, .ref m12, .ref m13, .int (iI rw_), .ref m15, .long (lI fu), .long (lI fb)])), (m1, .inl (cs 0, 11520, .inl (ai lm))), (m2, .inl (cs 0, 180, .inl (ai mn))), (m3, .inl (cs 0, 180, .inl (ai sn))), (m8, .inl (cs 1, 6, .inr (.inl (al a1)))), (m9, .inl (cs 1, 6, .inr (.inl (al w9)))), (m7, .inl (cs 1, 12, .inr (.inl (al md)))), (m5, .inl (cs 0, 72, .inl (ai cv)))]) hF.1 (k := 5) rfl) (mw_get (X := [(y, .inr (7, [.int (iI th), .ref m1, .ref m2, .ref m3, .int (iI pn), .ref m5, .ref m6, .ref m7, .ref m8, .ref m9, .ref m10, .ref m11, .ref m12, .ref m13, .int (iI rw_), .ref m15, .long (lI fu), .long (lI fb)])), (m1, .inl (cs 0, 11520, .inl (ai lm))), (m2, .inl (cs 0, 180, .inl (ai mn))), (m3, .inl (cs 0, 180, .inl (ai sn))), (m8, .inl (cs 1, 6, .inr (.inl (al a1)))), (m9, .inl (cs 1, 6, .inr (.inl (al w9)))), (m7, .inl (cs 1, 12, .inr (.inl (al md)))), (m5, .inl (cs 0, 72, .inl (ai cv)))]) hF.1 (k := 7) rfl) hp1 hcv) (cwV 2 hts (gw_V w_780 w_782 s_32 w_8 w_783) rfl rfl rfl (by decide +kernel) ⟨by rw [hRf]; exact Nat.le_of_ble_eq_true rfl, by rw [hRl]; exact Nat.le_of_ble_eq_true rfl⟩) ⟨K0.blind, B.recv (hF.2 _ (mw_key (k := 0) (X := [(y, .inr (7, [.int (iI th), .ref m1, .ref m2, .ref m3, .int (iI pn), .ref m5, .ref m6, .ref m7, .ref m8, .ref m9, .ref m10, .ref m11, .ref m12, .ref m13, .int (iI rw_), .ref m15, .long (lI fu), .long (lI fb)])), (m1, .inl (cs 0, 11520, .inl (ai lm))), (m2, .inl (cs 0, 180, .inl (ai mn))), (m3, .inl (cs 0, 180, .inl (ai sn))), (m8, .inl (cs 1, 6, .inr (.inl (al a1)))), (m9, .inl (cs 1, 6, .inr (.inl (al w9)))), (m7, .inl (cs 1, 12, .inr (.inl (al md)))), (m5, .inl (cs 0, 72, .inl (ai cv)))]) rfl)) (mw_get (X := [(y, .inr (7, [.int (iI th), .ref m1, .ref m2, .ref m3, .int (iI pn), .ref m5, .ref m6, .ref m7, .ref m8, .ref m9, .ref m10, .ref m11, .ref m12, .ref m13, .int (iI rw_), .ref m15, .long (lI fu), .long (lI fb)])), (m1, .inl (cs 0, 11520, .inl (ai lm))), (m2, .inl (cs 0, 180, .inl (ai mn))), (m3, .inl (cs 0, 180, .inl (ai sn))), (m8, .inl (cs 1, 6, .inr (.inl (al a1)))), (m9, .inl (cs 1, 6, .inr (.inl (al w9)))), (m7, .inl (cs 1, 12, .inr (.inl (al md)))), (m5, .inl (cs 0, 72, .inl (ai cv)))]) hF.1 (k := 0) rfl) rfl, B.pre _⟩ rfl rfl hl.1 rfl (lv_room (Nat.le_of_ble_eq_true rfl)) d_Mo_making_257 ⟨by rw [hRc]; omega, by rw [hRs]; omega⟩) (fun g257 H locs hw B => ?_)
  obtain ⟨a2, ha2, rfl⟩ := hw
  have B := B.of_eq (mw_put (X := [(y, .inr (7, [.int (iI th), .ref m1, .ref m2, .ref m3, .int (iI pn), .ref m5, .ref m6, .ref m7, .ref m8, .ref m9, .ref m10, .ref m11, .ref m12, .ref m13, .int (iI rw_), .ref m15, .long (lI fu), .long (lI fb)])), (m1, .inl (cs 0, 11520, .inl (ai lm))), (m2, .inl (cs 0, 180, .inl (ai mn))), (m3, .inl (cs 0, 180, .inl (ai sn))), (m8, .inl (cs 1, 6, .inr (.inl (al a1)))), (m9, .inl (cs 1, 6, .inr (.inl (al w9)))), (m7, .inl (cs 1, 12, .inr (.inl (al md)))), (m5, .inl (cs 0, 72, .inl (ai cv)))]) hF.1 (k := 5) rfl)
  have B : Wb D vwCl (TY cs) L (mw f [(y, .inr (7, [.int (iI th), .ref m1, .ref m2, .ref m3, .int (iI pn), .ref m5, .ref m6, .ref m7, .ref m8, .ref m9, .ref m10, .ref m11, .ref m12, .ref m13, .int (iI rw_), .ref m15, .long (lI fu), .long (lI fb)])), (m1, .inl (cs 0, 11520, .inl (ai lm))), (m2, .inl (cs 0, 180, .inl (ai mn))), (m3, .inl (cs 0, 180, .inl (ai sn))), (m8, .inl (cs 1, 6, .inr (.inl (al a1)))), (m9, .inl (cs 1, 6, .inr (.inl (al a2)))), (m7, .inl (cs 1, 12, .inr (.inl (al md)))), (m5, .inl (cs 0, 72, .inl (ai cv)))]) (AL L s.heap.size) s H _ := B
  have JC : ∀ (u8 : Nat → Int) (u9 : Nat → Int), (((∀ j, j < 6 → u8 j = cv (6 * p0 + j)) ∧ ∀ j, j < 6 → u9 j = cv (6 * p1 + j)) ∨ ((∀ j, j < 6 → u8 j = cv (6 * p1 + j)) ∧ ∀ j, j < 6 → u9 j = cv (6 * p0 + j))) → ∀ (H : Heap) (locs : List Loc) (ls : Array Slot), Wb D vwCl (TY cs) L (mw f [(y, .inr (7, [.int (iI th), .ref m1, .ref m2, .ref m3, .int (iI pn), .ref m5, .ref m6, .ref m7, .ref m8, .ref m9, .ref m10, .ref m11, .ref m12, .ref m13, .int (iI rw_), .ref m15, .long (lI fu), .long (lI fb)])), (m1, .inl (cs 0, 11520, .inl (ai lm))), (m2, .inl (cs 0, 180, .inl (ai mn))), (m3, .inl (cs 0, 180, .inl (ai sn))), (m8, .inl (cs 1, 6, .inr (.inl (al u8)))), (m9, .inl (cs 1, 6, .inr (.inl (al u9)))), (m7, .inl (cs 1, 12, .inr (.inl (al md)))), (m5, .inl (cs 0, 72, .inl (ai cv)))]) (AL L s.heap.size) s H locs → lv_has ls 10 [(6, .int (iI (6 * ((p1 : Int))))), (5, .int (iI (6 * ((p0 : Int))))), (0, .ref y), (1, .int (iI 4)), (2, .int (iI ((p0 : Int)))), (3, .int (iI ((p1 : Int)))), (4, .int (iI ((k0 : Int) - 1)))] → W p l e R s m av below meth c H locs (0) (0) Q (F0 m 286 ls []) := by
    intro u8 u9 hu H locs ls B hl
    have hu8 : ∀ j, j < 6 → -1000 ≤ u8 j ∧ u8 j ≤ 1000 := fun j hj => by rcases hu with h | h <;> rw [h.1 j hj] <;> exact hcv _ (by omega)
    have hu9 : ∀ j, j < 6 → -1000 ≤ u9 j ∧ u9 j ≤ 1000 := fun j hj => by rcases hu with h | h <;> rw [h.2 j hj] <;> exact hcv _ (by omega)
    refine lv_aload_n hx hb d_Mo_making_286 rfl (lv_at hl 2 rfl) ?_
    refine lv_aload_n hx hb d_Mo_making_287 rfl (lv_at hl 2 rfl) ?_
    refine x_get (C := RX7) (T := TX7) (N := 18) hx hb hts inX7 hown B hF 0 rfl rfl 8 (by decide) (hts _ w_685) (fun _ h9 => h9) rfl d_Mo_making_288 ?_
    refine lv_aload_n hx hb d_Mo_making_291 rfl (lv_at hl 2 rfl) ?_
    refine x_get (C := RX7) (T := TX7) (N := 18) hx hb hts inX7 hown B hF 0 rfl rfl 9 (by decide) (hts _ w_686) (fun _ h9 => h9) rfl d_Mo_making_292 ?_
    refine x_callv B hA (va_runV (As := [.ref m8, .ref m9]) (rest := []) ⟨hx, hb, hml, hown, hts⟩ (c_Mo_common l D cs _ _ _ y m1 m2 m3 m5 m6 m7 m8 m9 m10 m11 m12 m13 m15 th pn rw_ fu fb lm mn sn Z m8 m9 u8 u9 1000 10 10 6 (hF.pick [0, 1, 2, 3, 4, 5] rfl rfl) (mw_get (X := [(y, .inr (7, [.int (iI th), .ref m1, .ref m2, .ref m3, .int (iI pn), .ref m5, .ref m6, .ref m7, .ref m8, .ref m9, .ref m10, .ref m11, .ref m12, .ref m13, .int (iI rw_), .ref m15, .long (lI fu), .long (lI fb)])), (m1, .inl (cs 0, 11520, .inl (ai lm))), (m2, .inl (cs 0, 180, .inl (ai mn))), (m3, .inl (cs 0, 180, .inl (ai sn))), (m8, .inl (cs 1, 6, .inr (.inl (al u8)))), (m9, .inl (cs 1, 6, .inr (.inl (al u9)))), (m7, .inl (cs 1, 12, .inr (.inl (al md)))), (m5, .inl (cs 0, 72, .inl (ai cv)))]) hF.1 (k := 0) rfl) (mw_get (X := [(y, .inr (7, [.int (iI th), .ref m1, .ref m2, .ref m3, .int (iI pn), .ref m5, .ref m6, .ref m7, .ref m8, .ref m9, .ref m10, .ref m11, .ref m12, .ref m13, .int (iI rw_), .ref m15, .long (lI fu), .long (lI fb)])), (m1, .inl (cs 0, 11520, .inl (ai lm))), (m2, .inl (cs 0, 180, .inl (ai mn))), (m3, .inl (cs 0, 180, .inl (ai sn))), (m8, .inl (cs 1, 6, .inr (.inl (al u8)))), (m9, .inl (cs 1, 6, .inr (.inl (al u9)))), (m7, .inl (cs 1, 12, .inr (.inl (al md)))), (m5, .inl (cs 0, 72, .inl (ai cv)))]) hF.1 (k := 1) rfl) (mw_get (X := [(y, .inr (7, [.int (iI th), .ref m1, .ref m2, .ref m3, .int (iI pn), .ref m5, .ref m6, .ref m7, .ref m8, .ref m9, .ref m10, .ref m11, .ref m12, .ref m13, .int (iI rw_), .ref m15, .long (lI fu), .long (lI fb)])), (m1, .inl (cs 0, 11520, .inl (ai lm))), (m2, .inl (cs 0, 180, .inl (ai mn))), (m3, .inl (cs 0, 180, .inl (ai sn))), (m8, .inl (cs 1, 6, .inr (.inl (al u8)))), (m9, .inl (cs 1, 6, .inr (.inl (al u9)))), (m7, .inl (cs 1, 12, .inr (.inl (al md)))), (m5, .inl (cs 0, 72, .inl (ai cv)))]) hF.1 (k := 2) rfl) (mw_get (X := [(y, .inr (7, [.int (iI th), .ref m1, .ref m2, .ref m3, .int (iI pn), .ref m5, .ref m6, .ref m7, .ref m8, .ref m9, .ref m10, .ref m11, .ref m12, .ref m13, .int (iI rw_), .ref m15, .long (lI fu), .long (lI fb)])), (m1, .inl (cs 0, 11520, .inl (ai lm))), (m2, .inl (cs 0, 180, .inl (ai mn))), (m3, .inl (cs 0, 180, .inl (ai sn))), (m8, .inl (cs 1, 6, .inr (.inl (al u8)))), (m9, .inl (cs 1, 6, .inr (.inl (al u9)))), (m7, .inl (cs 1, 12, .inr (.inl (al md)))), (m5, .inl (cs 0, 72, .inl (ai cv)))]) hF.1 (k := 3) rfl) hRS (mw_get (X := [(y, .inr (7, [.int (iI th), .ref m1, .ref m2, .ref m3, .int (iI pn), .ref m5, .ref m6, .ref m7, .ref m8, .ref m9, .ref m10, .ref m11, .ref m12, .ref m13, .int (iI rw_), .ref m15, .long (lI fu), .long (lI fb)])), (m1, .inl (cs 0, 11520, .inl (ai lm))), (m2, .inl (cs 0, 180, .inl (ai mn))), (m3, .inl (cs 0, 180, .inl (ai sn))), (m8, .inl (cs 1, 6, .inr (.inl (al u8)))), (m9, .inl (cs 1, 6, .inr (.inl (al u9)))), (m7, .inl (cs 1, 12, .inr (.inl (al md)))), (m5, .inl (cs 0, 72, .inl (ai cv)))]) hF.1 (k := 4) rfl) (mw_get (X := [(y, .inr (7, [.int (iI th), .ref m1, .ref m2, .ref m3, .int (iI pn), .ref m5, .ref m6, .ref m7, .ref m8, .ref m9, .ref m10, .ref m11, .ref m12, .ref m13, .int (iI rw_), .ref m15, .long (lI fu), .long (lI fb)])), (m1, .inl (cs 0, 11520, .inl (ai lm))), (m2, .inl (cs 0, 180, .inl (ai mn))), (m3, .inl (cs 0, 180, .inl (ai sn))), (m8, .inl (cs 1, 6, .inr (.inl (al u8)))), (m9, .inl (cs 1, 6, .inr (.inl (al u9)))), (m7, .inl (cs 1, 12, .inr (.inl (al md)))), (m5, .inl (cs 0, 72, .inl (ai cv)))]) hF.1 (k := 5) rfl) (by decide) (by decide) hu8 hu9 (fun j hj => by have h9 := hu8 j hj; have h8 : (2 : Int) ^ 10 = 1024 := rfl; omega) (fun j hj => by have h9 := hu9 j hj; have h8 : (2 : Int) ^ 10 = 1024 := rfl; omega) (by decide) (fun j h1 h2 => by omega) (by decide +kernel) (by decide) (by decide)) (cwV 2 hts (gw_V w_784 w_786 s_33 w_8 w_787) rfl rfl rfl (by decide +kernel) ⟨by rw [hRf]; exact Nat.le_of_ble_eq_true rfl, by rw [hRl]; exact Nat.le_of_ble_eq_true rfl⟩) ⟨K0.blind, B.recv (hF.2 _ (mw_key (k := 0) (X := [(y, .inr (7, [.int (iI th), .ref m1, .ref m2, .ref m3, .int (iI pn), .ref m5, .ref m6, .ref m7, .ref m8, .ref m9, .ref m10, .ref m11, .ref m12, .ref m13, .int (iI rw_), .ref m15, .long (lI fu), .long (lI fb)])), (m1, .inl (cs 0, 11520, .inl (ai lm))), (m2, .inl (cs 0, 180, .inl (ai mn))), (m3, .inl (cs 0, 180, .inl (ai sn))), (m8, .inl (cs 1, 6, .inr (.inl (al u8)))), (m9, .inl (cs 1, 6, .inr (.inl (al u9)))), (m7, .inl (cs 1, 12, .inr (.inl (al md)))), (m5, .inl (cs 0, 72, .inl (ai cv)))]) rfl)) (mw_get (X := [(y, .inr (7, [.int (iI th), .ref m1, .ref m2, .ref m3, .int (iI pn), .ref m5, .ref m6, .ref m7, .ref m8, .ref m9, .ref m10, .ref m11, .ref m12, .ref m13, .int (iI rw_), .ref m15, .long (lI fu), .long (lI fb)])), (m1, .inl (cs 0, 11520, .inl (ai lm))), (m2, .inl (cs 0, 180, .inl (ai mn))), (m3, .inl (cs 0, 180, .inl (ai sn))), (m8, .inl (cs 1, 6, .inr (.inl (al u8)))), (m9, .inl (cs 1, 6, .inr (.inl (al u9)))), (m7, .inl (cs 1, 12, .inr (.inl (al md)))), (m5, .inl (cs 0, 72, .inl (ai cv)))]) hF.1 (k := 0) rfl) rfl, B.pre _⟩ rfl rfl hl.1 rfl (lv_room (Nat.le_of_ble_eq_true rfl)) d_Mo_making_295 ⟨by rw [hRc]; omega, by rw [hRs]; omega⟩) (fun g295 H locs hw B => ?_)
    obtain ⟨lm295, mn295, sn295, Z5, gg, hR5, hG0, h5o, rfl⟩ := hw
    have B := B.of_eq (mw_put4 (X := [(y, .inr (7, [.int (iI th), .ref m1, .ref m2, .ref m3, .int (iI pn), .ref m5, .ref m6, .ref m7, .ref m8, .ref m9, .ref m10, .ref m11, .ref m12, .ref m13, .int (iI rw_), .ref m15, .long (lI fu), .long (lI fb)])), (m1, .inl (cs 0, 11520, .inl (ai lm))), (m2, .inl (cs 0, 180, .inl (ai mn))), (m3, .inl (cs 0, 180, .inl (ai sn))), (m8, .inl (cs 1, 6, .inr (.inl (al u8)))), (m9, .inl (cs 1, 6, .inr (.inl (al u9)))), (m7, .inl (cs 1, 12, .inr (.inl (al md)))), (m5, .inl (cs 0, 72, .inl (ai cv)))]) hF.1 (k1 := 1) (k2 := 2) (k3 := 3) (k4 := 4) rfl rfl rfl rfl)
    have B : Wb D vwCl (TY cs) L (mw f [(y, .inr (7, [.int (iI th), .ref m1, .ref m2, .ref m3, .int (iI pn), .ref m5, .ref m6, .ref m7, .ref m8, .ref m9, .ref m10, .ref m11, .ref m12, .ref m13, .int (iI rw_), .ref m15, .long (lI fu), .long (lI fb)])), (m1, .inl (cs 0, 11520, .inl (ai lm295))), (m2, .inl (cs 0, 180, .inl (ai mn295))), (m3, .inl (cs 0, 180, .inl (ai sn295))), (m8, .inl (cs 1, 6, .inr (.inl (al gg)))), (m9, .inl (cs 1, 6, .inr (.inl (al u9)))), (m7, .inl (cs 1, 12, .inr (.inl (al md)))), (m5, .inl (cs 0, 72, .inl (ai cv)))]) (AL L s.heap.size) s H _ := B
    have hG : Gcd (fun j => cv (6 * p0 + j)) (fun j => cv (6 * p1 + j)) gg := by rcases hu with h | h; exact hG0.congr (fun j hj => (h.1 j hj).symm) (fun j hj => (h.2 j hj).symm); exact (hG0.congr (fun j hj => (h.1 j hj).symm) (fun j hj => (h.2 j hj).symm)).symm
    refine x_iconst hx hb d_Mo_making_298 ?_
    refine lv_istore (lv' := [(7, .int (iI 0)), (6, .int (iI (6 * ((p1 : Int))))), (5, .int (iI (6 * ((p0 : Int))))), (0, .ref y), (1, .int (iI 4)), (2, .int (iI ((p0 : Int)))), (3, .int (iI ((p1 : Int)))), (4, .int (iI ((k0 : Int) - 1)))]) hx hb d_Mo_making_299 hl (by decide) rfl (fun ls hl => ?_)
    have LP : ∀ (fuel : Nat) (k : Nat) (md2 : Nat → Int), 6 - k < fuel → (k ≤ 6) → (∀ j, j < k → md2 j = gg j) → (∀ j, k ≤ j → j < 12 → md2 j = 0) → ∀ (H : Heap) (locs : List Loc) (ls : Array Slot), Wb D vwCl (TY cs) L (mw f [(y, .inr (7, [.int (iI th), .ref m1, .ref m2, .ref m3, .int (iI pn), .ref m5, .ref m6, .ref m7, .ref m8, .ref m9, .ref m10, .ref m11, .ref m12, .ref m13, .int (iI rw_), .ref m15, .long (lI fu), .long (lI fb)])), (m1, .inl (cs 0, 11520, .inl (ai lm295))), (m2, .inl (cs 0, 180, .inl (ai mn295))), (m3, .inl (cs 0, 180, .inl (ai sn295))), (m8, .inl (cs 1, 6, .inr (.inl (al gg)))), (m9, .inl (cs 1, 6, .inr (.inl (al u9)))), (m7, .inl (cs 1, 12, .inr (.inl (al md2)))), (m5, .inl (cs 0, 72, .inl (ai cv)))]) (AL L s.heap.size) s H locs → lv_has ls 10 [(7, .int (iI ((k : Int)))), (6, .int (iI (6 * (p1 : Int)))), (5, .int (iI (6 * (p0 : Int)))), (0, .ref y), (1, .int (iI 4)), (2, .int (iI ((p0 : Int)))), (3, .int (iI ((p1 : Int)))), (4, .int (iI ((k0 : Int) - 1)))] → W p l e R s m av below meth c H locs (0) (0) Q (F0 m 301 ls []) := by
      intro fuel
      induction fuel with
      | zero => intro k md2 hfu; exact absurd hfu (Nat.not_lt_zero _)
      | succ fuel ih_LP =>
        intro k md2 hfu_LP hk hI hJ H locs ls B hl
        refine lv_iload hx hb d_Mo_making_301 (lv_at hl 0 rfl) ?_
        refine x_bipush hx hb d_Mo_making_303 (by decide) ?_
        refine x_icmp_ge (tgt := 328) hx hb d_Mo_making_305 (by decide) (by omega) (by omega) (fun h305 => ?_) (fun h305 => ?_)
        · refine x_iconst hx hb d_Mo_making_328 ?_
          subst hQ hav
          exact x_zret hx hb hr (by decide) hlocks B d_Mo_making_329 (⟨_, _, _, Z5, _, _, md2, hR5, (fun v hv => h5o v (by omega) (by omega)), 1, rfl, Or.inl ⟨rfl, ⟨(fun h9 => absurd h9 (by decide)), (fun h9 => absurd h9 (by decide)), (fun h9 => absurd h9 (by decide)), (fun h9 => absurd h9 (by decide)), (fun _ => hG.congr2 (fun j hj => hI j (by omega))), (fun h9 => absurd h9 (by decide)), (fun h9 => absurd h9 (by decide)), (fun h9 => absurd h9 (by decide)), (fun h9 => absurd h9 (by decide)), (fun h9 => absurd h9 (by decide)), (fun _ => fun j h1 h2 => hJ j (by omega) h2)⟩⟩, Eq.trans (mw_drop (f := f) (X := [(m1, .inl (cs 0, 11520, .inl (ai lm295))), (m2, .inl (cs 0, 180, .inl (ai mn295))), (m3, .inl (cs 0, 180, .inl (ai sn295))), (m8, .inl (cs 1, 6, .inr (.inl (al gg)))), (m9, .inl (cs 1, 6, .inr (.inl (al u9)))), (m7, .inl (cs 1, 12, .inr (.inl (al md2)))), (m5, .inl (cs 0, 72, .inl (ai cv)))]) ha (List.nodup_cons.mp hF.1).1) (mw_tail (X := [(m1, .inl (cs 0, 11520, .inl (ai lm295))), (m2, .inl (cs 0, 180, .inl (ai mn295))), (m3, .inl (cs 0, 180, .inl (ai sn295))), (m8, .inl (cs 1, 6, .inr (.inl (al gg)))), (m9, .inl (cs 1, 6, .inr (.inl (al u9)))), (m7, .inl (cs 1, 12, .inr (.inl (al md2))))]) (Y := [(m5, .inl (cs 0, 72, .inl (ai cv)))]) (fun p hp => hfx p (List.mem_cons_of_mem _ (List.mem_cons_of_mem _ (List.mem_cons_of_mem _ (List.mem_cons_of_mem _ (List.mem_cons_of_mem _ (List.mem_cons_of_mem _ (List.mem_cons_of_mem _ (hp))))))))))⟩)
        · refine lv_aload_n hx hb d_Mo_making_308 rfl (lv_at hl 3 rfl) ?_
          refine x_get (C := RX7) (T := TX7) (N := 18) hx hb hts inX7 hown B hF 0 rfl rfl 7 (by decide) (hts _ w_684) (fun _ h9 => h9) rfl d_Mo_making_309 ?_
          refine lv_iload hx hb d_Mo_making_312 (lv_at hl 0 rfl) ?_
          refine lv_aload_n hx hb d_Mo_making_314 rfl (lv_at hl 3 rfl) ?_
          refine x_get (C := RX7) (T := TX7) (N := 18) hx hb hts inX7 hown B hF 0 rfl rfl 8 (by decide) (hts _ w_685) (fun _ h9 => h9) rfl d_Mo_making_315 ?_
          refine lv_iload hx hb d_Mo_making_318 (lv_at hl 0 rfl) ?_
          refine x_lald hx hb B hF 4 1 rfl rfl k (by omega) (by omega) (by decide) d_Mo_making_320 ?_
          refine x_last hx hb B hF 6 1 rfl rfl k (by omega) (by omega) (by decide) d_Mo_making_321 (fun H locs B => ?_)
          have B : Wb D vwCl (TY cs) L (mw f [(y, .inr (7, [.int (iI th), .ref m1, .ref m2, .ref m3, .int (iI pn), .ref m5, .ref m6, .ref m7, .ref m8, .ref m9, .ref m10, .ref m11, .ref m12, .ref m13, .int (iI rw_), .ref m15, .long (lI fu), .long (lI fb)])), (m1, .inl (cs 0, 11520, .inl (ai lm295))), (m2, .inl (cs 0, 180, .inl (ai mn295))), (m3, .inl (cs 0, 180, .inl (ai sn295))), (m8, .inl (cs 1, 6, .inr (.inl (al gg)))), (m9, .inl (cs 1, 6, .inr (.inl (al u9)))), (m7, .inl (cs 1, 12, .inr (.inl (al (up md2 k (gg k)))))), (m5, .inl (cs 0, 72, .inl (ai cv)))]) (AL L s.heap.size) s H _ := B
          refine x_iinc (lv' := [(7, .int (iI (((k : Int)) + 1))), (6, .int (iI (6 * (p1 : Int)))), (5, .int (iI (6 * (p0 : Int)))), (0, .ref y), (1, .int (iI 4)), (2, .int (iI ((p0 : Int)))), (3, .int (iI ((p1 : Int)))), (4, .int (iI ((k0 : Int) - 1)))]) hx hb d_Mo_making_322 hl (q := 0) rfl rfl (by decide) rfl (fun ls hl => ?_)
          refine lv_goto (tgt := 301) hx hb d_Mo_making_325 (by decide) ?_
          exact ih_LP (k + 1) (up md2 k (gg k)) (by omega) (by omega) (fun j hj => by
          by_cases hjk : j = k
          · rw [hjk, up_self]
          · rw [up_ne _ _ hjk]; exact hI j (by omega)) (fun j h1 h2 => by rw [up_ne _ _ (by omega)]; exact hJ j (by omega) h2) _ _ _ B (lv_sub hl [0, 1, 2, 3, 4, 5, 6, 7] rfl)
    exact LP _ 0 md (Nat.lt_succ_self _) (by omega) (fun j hj => by omega) (fun j _ hj => hmd j hj) _ _ _ B (lv_sub hl [0, 1, 2, 3, 4, 5, 6, 7] rfl)
  refine lv_aload_n hx hb d_Mo_making_260 rfl (lv_at hl 2 rfl) ?_
  refine lv_iload_n hx hb d_Mo_making_261 rfl (lv_at hl 4 rfl) ?_
  refine x_calli B hA (va_runV (As := [.int (iI ((p0 : Int)))]) (rest := []) ⟨hx, hb, hml, hown, hts⟩ (c_Mo_degreeOf l D cs _ _ _ y m1 m2 m3 m5 m6 m7 m8 m9 m10 m11 m12 m13 m15 th pn rw_ fu fb p0 cv (hF.pick [0, 7] rfl rfl) (mw_get (X := [(y, .inr (7, [.int (iI th), .ref m1, .ref m2, .ref m3, .int (iI pn), .ref m5, .ref m6, .ref m7, .ref m8, .ref m9, .ref m10, .ref m11, .ref m12, .ref m13, .int (iI rw_), .ref m15, .long (lI fu), .long (lI fb)])), (m1, .inl (cs 0, 11520, .inl (ai lm))), (m2, .inl (cs 0, 180, .inl (ai mn))), (m3, .inl (cs 0, 180, .inl (ai sn))), (m8, .inl (cs 1, 6, .inr (.inl (al a1)))), (m9, .inl (cs 1, 6, .inr (.inl (al a2)))), (m7, .inl (cs 1, 12, .inr (.inl (al md)))), (m5, .inl (cs 0, 72, .inl (ai cv)))]) hF.1 (k := 0) rfl) (by omega) (mw_get (X := [(y, .inr (7, [.int (iI th), .ref m1, .ref m2, .ref m3, .int (iI pn), .ref m5, .ref m6, .ref m7, .ref m8, .ref m9, .ref m10, .ref m11, .ref m12, .ref m13, .int (iI rw_), .ref m15, .long (lI fu), .long (lI fb)])), (m1, .inl (cs 0, 11520, .inl (ai lm))), (m2, .inl (cs 0, 180, .inl (ai mn))), (m3, .inl (cs 0, 180, .inl (ai sn))), (m8, .inl (cs 1, 6, .inr (.inl (al a1)))), (m9, .inl (cs 1, 6, .inr (.inl (al a2)))), (m7, .inl (cs 1, 12, .inr (.inl (al md)))), (m5, .inl (cs 0, 72, .inl (ai cv)))]) hF.1 (k := 7) rfl) hcv) (cwV 1 hts (gw_V w_763 w_765 s_30 w_8 w_766) rfl rfl rfl (by decide +kernel) ⟨by rw [hRf]; exact Nat.le_of_ble_eq_true rfl, by rw [hRl]; exact Nat.le_of_ble_eq_true rfl⟩) ⟨K0.blind, B.recv (hF.2 _ (mw_key (k := 0) (X := [(y, .inr (7, [.int (iI th), .ref m1, .ref m2, .ref m3, .int (iI pn), .ref m5, .ref m6, .ref m7, .ref m8, .ref m9, .ref m10, .ref m11, .ref m12, .ref m13, .int (iI rw_), .ref m15, .long (lI fu), .long (lI fb)])), (m1, .inl (cs 0, 11520, .inl (ai lm))), (m2, .inl (cs 0, 180, .inl (ai mn))), (m3, .inl (cs 0, 180, .inl (ai sn))), (m8, .inl (cs 1, 6, .inr (.inl (al a1)))), (m9, .inl (cs 1, 6, .inr (.inl (al a2)))), (m7, .inl (cs 1, 12, .inr (.inl (al md)))), (m5, .inl (cs 0, 72, .inl (ai cv)))]) rfl)) (mw_get (X := [(y, .inr (7, [.int (iI th), .ref m1, .ref m2, .ref m3, .int (iI pn), .ref m5, .ref m6, .ref m7, .ref m8, .ref m9, .ref m10, .ref m11, .ref m12, .ref m13, .int (iI rw_), .ref m15, .long (lI fu), .long (lI fb)])), (m1, .inl (cs 0, 11520, .inl (ai lm))), (m2, .inl (cs 0, 180, .inl (ai mn))), (m3, .inl (cs 0, 180, .inl (ai sn))), (m8, .inl (cs 1, 6, .inr (.inl (al a1)))), (m9, .inl (cs 1, 6, .inr (.inl (al a2)))), (m7, .inl (cs 1, 12, .inr (.inl (al md)))), (m5, .inl (cs 0, 72, .inl (ai cv)))]) hF.1 (k := 0) rfl) rfl, B.pre _⟩ rfl rfl hl.1 rfl (lv_room (Nat.le_of_ble_eq_true rfl)) d_Mo_making_262 ⟨by rw [hRc]; omega, by rw [hRs]; omega⟩) (fun r262 g262 H locs hw B => ?_)
  obtain ⟨k0, rfl, hk06, hk0z, hk0l, rfl⟩ := hw
  have B : Wb D vwCl (TY cs) L (mw f [(y, .inr (7, [.int (iI th), .ref m1, .ref m2, .ref m3, .int (iI pn), .ref m5, .ref m6, .ref m7, .ref m8, .ref m9, .ref m10, .ref m11, .ref m12, .ref m13, .int (iI rw_), .ref m15, .long (lI fu), .long (lI fb)])), (m1, .inl (cs 0, 11520, .inl (ai lm))), (m2, .inl (cs 0, 180, .inl (ai mn))), (m3, .inl (cs 0, 180, .inl (ai sn))), (m8, .inl (cs 1, 6, .inr (.inl (al a1)))), (m9, .inl (cs 1, 6, .inr (.inl (al a2)))), (m7, .inl (cs 1, 12, .inr (.inl (al md)))), (m5, .inl (cs 0, 72, .inl (ai cv)))]) (AL L s.heap.size) s H _ := B
  refine x_if_ge (tgt := 286) hx hb d_Mo_making_265 (by decide) (by omega) (fun h265 => ?_) (fun h265 => ?_)
  · exact JC a1 a2 (Or.inl ⟨ha1, ha2⟩) _ _ _ B (lv_sub hl [0, 1, 2, 3, 4, 5, 6] rfl)
  · refine lv_aload_n hx hb d_Mo_making_268 rfl (lv_at hl 2 rfl) ?_
    refine lv_aload_n hx hb d_Mo_making_269 rfl (lv_at hl 2 rfl) ?_
    refine x_get (C := RX7) (T := TX7) (N := 18) hx hb hts inX7 hown B hF 0 rfl rfl 8 (by decide) (hts _ w_685) (fun _ h9 => h9) rfl d_Mo_making_270 ?_
    refine lv_iload_n hx hb d_Mo_making_273 rfl (lv_at hl 5 rfl) ?_
    refine x_callv B hA (va_runV (As := [.ref m8, .int (iI ((p1 : Int)))]) (rest := []) ⟨hx, hb, hml, hown, hts⟩ (c_Mo_load l D cs _ _ _ y m1 m2 m3 m5 m6 m7 m8 m9 m10 m11 m12 m13 m15 th pn rw_ fu fb m8 p1 a1 cv (hF.pick [0, 4, 7] rfl rfl) (mw_get (X := [(y, .inr (7, [.int (iI th), .ref m1, .ref m2, .ref m3, .int (iI pn), .ref m5, .ref m6, .ref m7, .ref m8, .ref m9, .ref m10, .ref m11, .ref m12, .ref m13, .int (iI rw_), .ref m15, .long (lI fu), .long (lI fb)])), (m1, .inl (cs 0, 11520, .inl (ai lm))), (m2, .inl (cs 0, 180, .inl (ai mn))), (m3, .inl (cs 0, 180, .inl (ai sn))), (m8, .inl (cs 1, 6, .inr (.inl (al a1)))), (m9, .inl (cs 1, 6, .inr (.inl (al a2)))), (m7, .inl (cs 1, 12, .inr (.inl (al md)))), (m5, .inl (cs 0, 72, .inl (ai cv)))]) hF.1 (k := 0) rfl) (mw_get (X := [(y, .inr (7, [.int (iI th), .ref m1, .ref m2, .ref m3, .int (iI pn), .ref m5, .ref m6, .ref m7, .ref m8, .ref m9, .ref m10, .ref m11, .ref m12, .ref m13, .int (iI rw_), .ref m15, .long (lI fu), .long (lI fb)])), (m1, .inl (cs 0, 11520, .inl (ai lm))), (m2, .inl (cs 0, 180, .inl (ai mn))), (m3, .inl (cs 0, 180, .inl (ai sn))), (m8, .inl (cs 1, 6, .inr (.inl (al a1)))), (m9, .inl (cs 1, 6, .inr (.inl (al a2)))), (m7, .inl (cs 1, 12, .inr (.inl (al md)))), (m5, .inl (cs 0, 72, .inl (ai cv)))]) hF.1 (k := 4) rfl) (mw_get (X := [(y, .inr (7, [.int (iI th), .ref m1, .ref m2, .ref m3, .int (iI pn), .ref m5, .ref m6, .ref m7, .ref m8, .ref m9, .ref m10, .ref m11, .ref m12, .ref m13, .int (iI rw_), .ref m15, .long (lI fu), .long (lI fb)])), (m1, .inl (cs 0, 11520, .inl (ai lm))), (m2, .inl (cs 0, 180, .inl (ai mn))), (m3, .inl (cs 0, 180, .inl (ai sn))), (m8, .inl (cs 1, 6, .inr (.inl (al a1)))), (m9, .inl (cs 1, 6, .inr (.inl (al a2)))), (m7, .inl (cs 1, 12, .inr (.inl (al md)))), (m5, .inl (cs 0, 72, .inl (ai cv)))]) hF.1 (k := 7) rfl) hp1 hcv) (cwV 2 hts (gw_V w_780 w_782 s_32 w_8 w_783) rfl rfl rfl (by decide +kernel) ⟨by rw [hRf]; exact Nat.le_of_ble_eq_true rfl, by rw [hRl]; exact Nat.le_of_ble_eq_true rfl⟩) ⟨K0.blind, B.recv (hF.2 _ (mw_key (k := 0) (X := [(y, .inr (7, [.int (iI th), .ref m1, .ref m2, .ref m3, .int (iI pn), .ref m5, .ref m6, .ref m7, .ref m8, .ref m9, .ref m10, .ref m11, .ref m12, .ref m13, .int (iI rw_), .ref m15, .long (lI fu), .long (lI fb)])), (m1, .inl (cs 0, 11520, .inl (ai lm))), (m2, .inl (cs 0, 180, .inl (ai mn))), (m3, .inl (cs 0, 180, .inl (ai sn))), (m8, .inl (cs 1, 6, .inr (.inl (al a1)))), (m9, .inl (cs 1, 6, .inr (.inl (al a2)))), (m7, .inl (cs 1, 12, .inr (.inl (al md)))), (m5, .inl (cs 0, 72, .inl (ai cv)))]) rfl)) (mw_get (X := [(y, .inr (7, [.int (iI th), .ref m1, .ref m2, .ref m3, .int (iI pn), .ref m5, .ref m6, .ref m7, .ref m8, .ref m9, .ref m10, .ref m11, .ref m12, .ref m13, .int (iI rw_), .ref m15, .long (lI fu), .long (lI fb)])), (m1, .inl (cs 0, 11520, .inl (ai lm))), (m2, .inl (cs 0, 180, .inl (ai mn))), (m3, .inl (cs 0, 180, .inl (ai sn))), (m8, .inl (cs 1, 6, .inr (.inl (al a1)))), (m9, .inl (cs 1, 6, .inr (.inl (al a2)))), (m7, .inl (cs 1, 12, .inr (.inl (al md)))), (m5, .inl (cs 0, 72, .inl (ai cv)))]) hF.1 (k := 0) rfl) rfl, B.pre _⟩ rfl rfl hl.1 rfl (lv_room (Nat.le_of_ble_eq_true rfl)) d_Mo_making_274 ⟨by rw [hRc]; omega, by rw [hRs]; omega⟩) (fun g274 H locs hw B => ?_)
    obtain ⟨a3, ha3, rfl⟩ := hw
    have B := B.of_eq (mw_put (X := [(y, .inr (7, [.int (iI th), .ref m1, .ref m2, .ref m3, .int (iI pn), .ref m5, .ref m6, .ref m7, .ref m8, .ref m9, .ref m10, .ref m11, .ref m12, .ref m13, .int (iI rw_), .ref m15, .long (lI fu), .long (lI fb)])), (m1, .inl (cs 0, 11520, .inl (ai lm))), (m2, .inl (cs 0, 180, .inl (ai mn))), (m3, .inl (cs 0, 180, .inl (ai sn))), (m8, .inl (cs 1, 6, .inr (.inl (al a1)))), (m9, .inl (cs 1, 6, .inr (.inl (al a2)))), (m7, .inl (cs 1, 12, .inr (.inl (al md)))), (m5, .inl (cs 0, 72, .inl (ai cv)))]) hF.1 (k := 4) rfl)
    have B : Wb D vwCl (TY cs) L (mw f [(y, .inr (7, [.int (iI th), .ref m1, .ref m2, .ref m3, .int (iI pn), .ref m5, .ref m6, .ref m7, .ref m8, .ref m9, .ref m10, .ref m11, .ref m12, .ref m13, .int (iI rw_), .ref m15, .long (lI fu), .long (lI fb)])), (m1, .inl (cs 0, 11520, .inl (ai lm))), (m2, .inl (cs 0, 180, .inl (ai mn))), (m3, .inl (cs 0, 180, .inl (ai sn))), (m8, .inl (cs 1, 6, .inr (.inl (al a3)))), (m9, .inl (cs 1, 6, .inr (.inl (al a2)))), (m7, .inl (cs 1, 12, .inr (.inl (al md)))), (m5, .inl (cs 0, 72, .inl (ai cv)))]) (AL L s.heap.size) s H _ := B
    refine lv_aload_n hx hb d_Mo_making_277 rfl (lv_at hl 2 rfl) ?_
    refine lv_aload_n hx hb d_Mo_making_278 rfl (lv_at hl 2 rfl) ?_
    refine x_get (C := RX7) (T := TX7) (N := 18) hx hb hts inX7 hown B hF 0 rfl rfl 9 (by decide) (hts _ w_686) (fun _ h9 => h9) rfl d_Mo_making_279 ?_
    refine lv_iload_n hx hb d_Mo_making_282 rfl (lv_at hl 4 rfl) ?_
    refine x_callv B hA (va_runV (As := [.ref m9, .int (iI ((p0 : Int)))]) (rest := []) ⟨hx, hb, hml, hown, hts⟩ (c_Mo_load l D cs _ _ _ y m1 m2 m3 m5 m6 m7 m8 m9 m10 m11 m12 m13 m15 th pn rw_ fu fb m9 p0 a2 cv (hF.pick [0, 5, 7] rfl rfl) (mw_get (X := [(y, .inr (7, [.int (iI th), .ref m1, .ref m2, .ref m3, .int (iI pn), .ref m5, .ref m6, .ref m7, .ref m8, .ref m9, .ref m10, .ref m11, .ref m12, .ref m13, .int (iI rw_), .ref m15, .long (lI fu), .long (lI fb)])), (m1, .inl (cs 0, 11520, .inl (ai lm))), (m2, .inl (cs 0, 180, .inl (ai mn))), (m3, .inl (cs 0, 180, .inl (ai sn))), (m8, .inl (cs 1, 6, .inr (.inl (al a3)))), (m9, .inl (cs 1, 6, .inr (.inl (al a2)))), (m7, .inl (cs 1, 12, .inr (.inl (al md)))), (m5, .inl (cs 0, 72, .inl (ai cv)))]) hF.1 (k := 0) rfl) (mw_get (X := [(y, .inr (7, [.int (iI th), .ref m1, .ref m2, .ref m3, .int (iI pn), .ref m5, .ref m6, .ref m7, .ref m8, .ref m9, .ref m10, .ref m11, .ref m12, .ref m13, .int (iI rw_), .ref m15, .long (lI fu), .long (lI fb)])), (m1, .inl (cs 0, 11520, .inl (ai lm))), (m2, .inl (cs 0, 180, .inl (ai mn))), (m3, .inl (cs 0, 180, .inl (ai sn))), (m8, .inl (cs 1, 6, .inr (.inl (al a3)))), (m9, .inl (cs 1, 6, .inr (.inl (al a2)))), (m7, .inl (cs 1, 12, .inr (.inl (al md)))), (m5, .inl (cs 0, 72, .inl (ai cv)))]) hF.1 (k := 5) rfl) (mw_get (X := [(y, .inr (7, [.int (iI th), .ref m1, .ref m2, .ref m3, .int (iI pn), .ref m5, .ref m6, .ref m7, .ref m8, .ref m9, .ref m10, .ref m11, .ref m12, .ref m13, .int (iI rw_), .ref m15, .long (lI fu), .long (lI fb)])), (m1, .inl (cs 0, 11520, .inl (ai lm))), (m2, .inl (cs 0, 180, .inl (ai mn))), (m3, .inl (cs 0, 180, .inl (ai sn))), (m8, .inl (cs 1, 6, .inr (.inl (al a3)))), (m9, .inl (cs 1, 6, .inr (.inl (al a2)))), (m7, .inl (cs 1, 12, .inr (.inl (al md)))), (m5, .inl (cs 0, 72, .inl (ai cv)))]) hF.1 (k := 7) rfl) hp0 hcv) (cwV 2 hts (gw_V w_780 w_782 s_32 w_8 w_783) rfl rfl rfl (by decide +kernel) ⟨by rw [hRf]; exact Nat.le_of_ble_eq_true rfl, by rw [hRl]; exact Nat.le_of_ble_eq_true rfl⟩) ⟨K0.blind, B.recv (hF.2 _ (mw_key (k := 0) (X := [(y, .inr (7, [.int (iI th), .ref m1, .ref m2, .ref m3, .int (iI pn), .ref m5, .ref m6, .ref m7, .ref m8, .ref m9, .ref m10, .ref m11, .ref m12, .ref m13, .int (iI rw_), .ref m15, .long (lI fu), .long (lI fb)])), (m1, .inl (cs 0, 11520, .inl (ai lm))), (m2, .inl (cs 0, 180, .inl (ai mn))), (m3, .inl (cs 0, 180, .inl (ai sn))), (m8, .inl (cs 1, 6, .inr (.inl (al a3)))), (m9, .inl (cs 1, 6, .inr (.inl (al a2)))), (m7, .inl (cs 1, 12, .inr (.inl (al md)))), (m5, .inl (cs 0, 72, .inl (ai cv)))]) rfl)) (mw_get (X := [(y, .inr (7, [.int (iI th), .ref m1, .ref m2, .ref m3, .int (iI pn), .ref m5, .ref m6, .ref m7, .ref m8, .ref m9, .ref m10, .ref m11, .ref m12, .ref m13, .int (iI rw_), .ref m15, .long (lI fu), .long (lI fb)])), (m1, .inl (cs 0, 11520, .inl (ai lm))), (m2, .inl (cs 0, 180, .inl (ai mn))), (m3, .inl (cs 0, 180, .inl (ai sn))), (m8, .inl (cs 1, 6, .inr (.inl (al a3)))), (m9, .inl (cs 1, 6, .inr (.inl (al a2)))), (m7, .inl (cs 1, 12, .inr (.inl (al md)))), (m5, .inl (cs 0, 72, .inl (ai cv)))]) hF.1 (k := 0) rfl) rfl, B.pre _⟩ rfl rfl hl.1 rfl (lv_room (Nat.le_of_ble_eq_true rfl)) d_Mo_making_283 ⟨by rw [hRc]; omega, by rw [hRs]; omega⟩) (fun g283 H locs hw B => ?_)
    obtain ⟨a4, ha4, rfl⟩ := hw
    have B := B.of_eq (mw_put (X := [(y, .inr (7, [.int (iI th), .ref m1, .ref m2, .ref m3, .int (iI pn), .ref m5, .ref m6, .ref m7, .ref m8, .ref m9, .ref m10, .ref m11, .ref m12, .ref m13, .int (iI rw_), .ref m15, .long (lI fu), .long (lI fb)])), (m1, .inl (cs 0, 11520, .inl (ai lm))), (m2, .inl (cs 0, 180, .inl (ai mn))), (m3, .inl (cs 0, 180, .inl (ai sn))), (m8, .inl (cs 1, 6, .inr (.inl (al a3)))), (m9, .inl (cs 1, 6, .inr (.inl (al a2)))), (m7, .inl (cs 1, 12, .inr (.inl (al md)))), (m5, .inl (cs 0, 72, .inl (ai cv)))]) hF.1 (k := 5) rfl)
    have B : Wb D vwCl (TY cs) L (mw f [(y, .inr (7, [.int (iI th), .ref m1, .ref m2, .ref m3, .int (iI pn), .ref m5, .ref m6, .ref m7, .ref m8, .ref m9, .ref m10, .ref m11, .ref m12, .ref m13, .int (iI rw_), .ref m15, .long (lI fu), .long (lI fb)])), (m1, .inl (cs 0, 11520, .inl (ai lm))), (m2, .inl (cs 0, 180, .inl (ai mn))), (m3, .inl (cs 0, 180, .inl (ai sn))), (m8, .inl (cs 1, 6, .inr (.inl (al a3)))), (m9, .inl (cs 1, 6, .inr (.inl (al a4)))), (m7, .inl (cs 1, 12, .inr (.inl (al md)))), (m5, .inl (cs 0, 72, .inl (ai cv)))]) (AL L s.heap.size) s H _ := B
    exact JC a3 a4 (Or.inr ⟨ha3, ha4⟩) _ _ _ B (lv_sub hl [0, 1, 2, 3, 4, 5, 6] rfl)
set_option maxHeartbeats 8000000 in
set_option maxRecDepth 100000 in
theorem c_Mo_making_5 (l : Launch) (D : va_G) (cs : Nat → ClassId) (L : List Nat) (f : Nat → va_E) (sz : Nat) (y m1 m2 m3 m5 m6 m7 m8 m9 m10 m11 m12 m13 m15 : Nat) (th pn rw_ fu fb : Int) (lm mn sn Z w8 w9 w10 w11 : Nat → Int) (md cv : Nat → Int) (p0 k0 : Nat) (b : Int) (hF : Fc L [y, m1, m2, m3, m8, m9, m10, m11, m7, m5]) (ha : f y = .inr (7, [.int (iI th), .ref m1, .ref m2, .ref m3, .int (iI pn), .ref m5, .ref m6, .ref m7, .ref m8, .ref m9, .ref m10, .ref m11, .ref m12, .ref m13, .int (iI rw_), .ref m15, .long (lI fu), .long (lI fb)])) (hm1 : f m1 = .inl (cs 0, 11520, .inl (ai lm))) (hm2 : f m2 = .inl (cs 0, 180, .inl (ai mn))) (hm3 : f m3 = .inl (cs 0, 180, .inl (ai sn))) (hm8 : f m8 = .inl (cs 1, 6, .inr (.inl (al w8)))) (hm9 : f m9 = .inl (cs 1, 6, .inr (.inl (al w9)))) (hm10 : f m10 = .inl (cs 1, 6, .inr (.inl (al w10)))) (hm11 : f m11 = .inl (cs 1, 6, .inr (.inl (al w11)))) (hm7 : f m7 = .inl (cs 1, 12, .inr (.inl (al md)))) (hm5 : f m5 = .inl (cs 0, 72, .inl (ai cv))) (hRS : RS lm mn sn Z) (hp0 : p0 < 12) (hcv : ∀ j, j < 72 → -1000 ≤ cv j ∧ cv j ≤ 1000) (hmd : ∀ j, j < 12 → md j = 0) (hk6 : k0 ≤ 6) (hz : ∀ j, k0 ≤ j → j < 6 → cv (6 * p0 + j) = 0) (hkl : 0 < k0 → cv (6 * p0 + (k0 - 1)) ≠ 0) (hb0 : -2147483648 ≤ b ∧ b < 2147483648) (hAN : Nz (fun j => cv (6 * p0 + j))) : Met l (⟨"RealRootsModel", "making", "(IIII)Z"⟩ : MethodName) (.code (⟨"RealRootsModel", "making", "(IIII)Z"⟩ : MethodName) prog_9_method_37_code 10 (Option.some Jvm.ClassFile.FieldType.boolean) :: gw) ({ frames := 9, cells := 0, slots := 0, locals := 320 }) (va_Pc [.ref y, .int (iI 5), .int (iI ((p0 : Int))), .int (iI b), .int (iI ((k0 : Int) - 1))] (K0 D vwCl (TY cs) L f sz)) (va_Qi (fun (r : Int32) (g : Nat → va_E) => ∃ (lm' mn' sn' Z' w8' w9' w10' w11' md' : Nat → Int) , RS lm' mn' sn' Z' ∧ (∀ w, w < 60 → Z' w = Z w) ∧ ∃ v : Int, r = iI v ∧ ((v = 1 ∧ MkP 5 (fun j => cv (6 * p0 + j)) (fun _ => 0) b md') ∨ (v = 0 ∧ False)) ∧ g = mw f [(m1, .inl (cs 0, 11520, .inl (ai (lm')))), (m2, .inl (cs 0, 180, .inl (ai (mn')))), (m3, .inl (cs 0, 180, .inl (ai (sn')))), (m8, .inl (cs 1, 6, .inr (.inl (al (w8'))))), (m9, .inl (cs 1, 6, .inr (.inl (al (w9'))))), (m10, .inl (cs 1, 6, .inr (.inl (al (w10'))))), (m11, .inl (cs 1, 6, .inr (.inl (al (w11'))))), (m7, .inl (cs 1, 12, .inr (.inl (al (md')))))]) (K1 D vwCl (TY cs) (AL L sz) L) (AL L sz)) 0 0 (AL L sz) := by
  refine Met.ofW (cc := prog_9_method_37_code) (maxL := 10) (ret := (Option.some Jvm.ClassFile.FieldType.boolean)) (by decide) rfl ?_
  intro p e s m args below meth c s₁ Bd hml hv
  obtain ⟨rfl, hk0⟩ := hv
  obtain ⟨hsz, B⟩ := hk0.start
  subst hsz
  have hx := Bd.exec
  have hb := Bd.bytes
  have hr := Bd.returns
  have hlocks := Bd.notSynchronized
  have hts0 := atoms_spec Bd.pre
  have hown : s.vm.findClass RX7 = some m.cls := findClass_of_methodNamed Bd.named
  have hA : ∀ q, s.heap.size ≤ q → AL L s.heap.size q := fun _ h => Or.inr h
  have hl := lv_entry ([.ref y, .int (iI 5), .int (iI ((p0 : Int))), .int (iI b), .int (iI ((k0 : Int) - 1))]) (n := 10) (Nat.le_of_ble_eq_true rfl)
  rw [lg_entry_eq]
  generalize (lg_sl ([.ref y, .int (iI 5), .int (iI ((p0 : Int))), .int (iI b), .int (iI ((k0 : Int) - 1))]) ++ List.replicate (10 - (lg_sl ([.ref y, .int (iI 5), .int (iI ((p0 : Int))), .int (iI b), .int (iI ((k0 : Int) - 1))])).length) Slot.unset).toArray = ls at hl ⊢
  refine absQ (fun Q R av hQ hR hav => ?_)
  have hts : ∀ w ∈ gw, w.before av s = true := by rw [hav]; exact fun w h => hts0 w (List.mem_cons_of_mem _ h)
  have hRf : R.frames = 9 := by rw [hR]; rfl
  have hRl : R.locals = 320 := by rw [hR]; rfl
  have hRc : R.cells = 0 := by rw [hR]; rfl
  have hRs : R.slots = 0 := by rw [hR]; rfl
  clear hR hts0 Bd
  have hl : lv_has ls 10 [(0, .ref y), (1, .int (iI 5)), (2, .int (iI ((p0 : Int)))), (3, .int (iI b)), (4, .int (iI ((k0 : Int) - 1)))] := hl
  have hfx : ∀ q ∈ ([(y, .inr (7, [.int (iI th), .ref m1, .ref m2, .ref m3, .int (iI pn), .ref m5, .ref m6, .ref m7, .ref m8, .ref m9, .ref m10, .ref m11, .ref m12, .ref m13, .int (iI rw_), .ref m15, .long (lI fu), .long (lI fb)])), (m1, .inl (cs 0, 11520, .inl (ai lm))), (m2, .inl (cs 0, 180, .inl (ai mn))), (m3, .inl (cs 0, 180, .inl (ai sn))), (m8, .inl (cs 1, 6, .inr (.inl (al w8)))), (m9, .inl (cs 1, 6, .inr (.inl (al w9)))), (m10, .inl (cs 1, 6, .inr (.inl (al w10)))), (m11, .inl (cs 1, 6, .inr (.inl (al w11)))), (m7, .inl (cs 1, 12, .inr (.inl (al md)))), (m5, .inl (cs 0, 72, .inl (ai cv)))] : List (Nat × va_E)), f q.1 = q.2 := fun q hq => by
    simp only [List.mem_cons, List.not_mem_nil, or_false] at hq
    rcases hq with rfl | rfl | rfl | rfl | rfl | rfl | rfl | rfl | rfl | rfl
    · exact ha
    · exact hm1
    · exact hm2
    · exact hm3
    · exact hm8
    · exact hm9
    · exact hm10
    · exact hm11
    · exact hm7
    · exact hm5
  have hmw : mw f [(y, .inr (7, [.int (iI th), .ref m1, .ref m2, .ref m3, .int (iI pn), .ref m5, .ref m6, .ref m7, .ref m8, .ref m9, .ref m10, .ref m11, .ref m12, .ref m13, .int (iI rw_), .ref m15, .long (lI fu), .long (lI fb)])), (m1, .inl (cs 0, 11520, .inl (ai lm))), (m2, .inl (cs 0, 180, .inl (ai mn))), (m3, .inl (cs 0, 180, .inl (ai sn))), (m8, .inl (cs 1, 6, .inr (.inl (al w8)))), (m9, .inl (cs 1, 6, .inr (.inl (al w9)))), (m10, .inl (cs 1, 6, .inr (.inl (al w10)))), (m11, .inl (cs 1, 6, .inr (.inl (al w11)))), (m7, .inl (cs 1, 12, .inr (.inl (al md)))), (m5, .inl (cs 0, 72, .inl (ai cv)))] = f := mw_self (fun k a e hk => hfx (a, e) (List.mem_of_getElem? hk))
  have B := B.focus [(y, .inr (7, [.int (iI th), .ref m1, .ref m2, .ref m3, .int (iI pn), .ref m5, .ref m6, .ref m7, .ref m8, .ref m9, .ref m10, .ref m11, .ref m12, .ref m13, .int (iI rw_), .ref m15, .long (lI fu), .long (lI fb)])), (m1, .inl (cs 0, 11520, .inl (ai lm))), (m2, .inl (cs 0, 180, .inl (ai mn))), (m3, .inl (cs 0, 180, .inl (ai sn))), (m8, .inl (cs 1, 6, .inr (.inl (al w8)))), (m9, .inl (cs 1, 6, .inr (.inl (al w9)))), (m10, .inl (cs 1, 6, .inr (.inl (al w10)))), (m11, .inl (cs 1, 6, .inr (.inl (al w11)))), (m7, .inl (cs 1, 12, .inr (.inl (al md)))), (m5, .inl (cs 0, 72, .inl (ai cv)))] hfx
  refine x_bipush hx hb d_Mo_making_0 (by decide) ?_
  refine lv_iload_n hx hb d_Mo_making_2 rfl (lv_at hl 2 rfl) ?_
  refine x_imul hx hb d_Mo_making_3 ?_
  refine lv_istore (lv' := [(5, .int (iI (6 * ((p0 : Int))))), (0, .ref y), (1, .int (iI 5)), (2, .int (iI ((p0 : Int)))), (3, .int (iI b)), (4, .int (iI ((k0 : Int) - 1)))]) hx hb d_Mo_making_4 hl (by decide) rfl (fun ls hl => ?_)
  refine x_bipush hx hb d_Mo_making_6 (by decide) ?_
  refine lv_iload_n hx hb d_Mo_making_8 rfl (lv_at hl 4 rfl) ?_
  refine x_imul hx hb d_Mo_making_9 ?_
  refine lv_istore (lv' := [(6, .int (iI (6 * b))), (5, .int (iI (6 * ((p0 : Int))))), (0, .ref y), (1, .int (iI 5)), (2, .int (iI ((p0 : Int)))), (3, .int (iI b)), (4, .int (iI ((k0 : Int) - 1)))]) hx hb d_Mo_making_10 hl (by decide) rfl (fun ls hl => ?_)
  refine lv_iload_n hx hb d_Mo_making_12 rfl (lv_at hl 3 rfl) ?_
  refine lv_tableIn (tgt := 330) hx hb d_Mo_making_13 (by decide +kernel) (by decide +kernel) (off := 317) (by decide +kernel) (by decide) ?_
  refine lv_aload_n hx hb d_Mo_making_330 rfl (lv_at hl 2 rfl) ?_
  refine lv_aload_n hx hb d_Mo_making_331 rfl (lv_at hl 2 rfl) ?_
  refine x_get (C := RX7) (T := TX7) (N := 18) hx hb hts inX7 hown B hF 0 rfl rfl 11 (by decide) (hts _ w_688) (fun _ h9 => h9) rfl d_Mo_making_332 ?_
  refine lv_iload_n hx hb d_Mo_making_335 rfl (lv_at hl 4 rfl) ?_
  refine x_callv B hA (va_runV (As := [.ref m11, .int (iI ((p0 : Int)))]) (rest := []) ⟨hx, hb, hml, hown, hts⟩ (c_Mo_load l D cs _ _ _ y m1 m2 m3 m5 m6 m7 m8 m9 m10 m11 m12 m13 m15 th pn rw_ fu fb m11 p0 w11 cv (hF.pick [0, 7, 9] rfl rfl) (mw_get (X := [(y, .inr (7, [.int (iI th), .ref m1, .ref m2, .ref m3, .int (iI pn), .ref m5, .ref m6, .ref m7, .ref m8, .ref m9, .ref m10, .ref m11, .ref m12, .ref m13, .int (iI rw_), .ref m15, .long (lI fu), .long (lI fb)])), (m1, .inl (cs 0, 11520, .inl (ai lm))), (m2, .inl (cs 0, 180, .inl (ai mn))), (m3, .inl (cs 0, 180, .inl (ai sn))), (m8, .inl (cs 1, 6, .inr (.inl (al w8)))), (m9, .inl (cs 1, 6, .inr (.inl (al w9)))), (m10, .inl (cs 1, 6, .inr (.inl (al w10)))), (m11, .inl (cs 1, 6, .inr (.inl (al w11)))), (m7, .inl (cs 1, 12, .inr (.inl (al md)))), (m5, .inl (cs 0, 72, .inl (ai cv)))]) hF.1 (k := 0) rfl) (mw_get (X := [(y, .inr (7, [.int (iI th), .ref m1, .ref m2, .ref m3, .int (iI pn), .ref m5, .ref m6, .ref m7, .ref m8, .ref m9, .ref m10, .ref m11, .ref m12, .ref m13, .int (iI rw_), .ref m15, .long (lI fu), .long (lI fb)])), (m1, .inl (cs 0, 11520, .inl (ai lm))), (m2, .inl (cs 0, 180, .inl (ai mn))), (m3, .inl (cs 0, 180, .inl (ai sn))), (m8, .inl (cs 1, 6, .inr (.inl (al w8)))), (m9, .inl (cs 1, 6, .inr (.inl (al w9)))), (m10, .inl (cs 1, 6, .inr (.inl (al w10)))), (m11, .inl (cs 1, 6, .inr (.inl (al w11)))), (m7, .inl (cs 1, 12, .inr (.inl (al md)))), (m5, .inl (cs 0, 72, .inl (ai cv)))]) hF.1 (k := 7) rfl) (mw_get (X := [(y, .inr (7, [.int (iI th), .ref m1, .ref m2, .ref m3, .int (iI pn), .ref m5, .ref m6, .ref m7, .ref m8, .ref m9, .ref m10, .ref m11, .ref m12, .ref m13, .int (iI rw_), .ref m15, .long (lI fu), .long (lI fb)])), (m1, .inl (cs 0, 11520, .inl (ai lm))), (m2, .inl (cs 0, 180, .inl (ai mn))), (m3, .inl (cs 0, 180, .inl (ai sn))), (m8, .inl (cs 1, 6, .inr (.inl (al w8)))), (m9, .inl (cs 1, 6, .inr (.inl (al w9)))), (m10, .inl (cs 1, 6, .inr (.inl (al w10)))), (m11, .inl (cs 1, 6, .inr (.inl (al w11)))), (m7, .inl (cs 1, 12, .inr (.inl (al md)))), (m5, .inl (cs 0, 72, .inl (ai cv)))]) hF.1 (k := 9) rfl) hp0 hcv) (cwV 2 hts (gw_V w_780 w_782 s_32 w_8 w_783) rfl rfl rfl (by decide +kernel) ⟨by rw [hRf]; exact Nat.le_of_ble_eq_true rfl, by rw [hRl]; exact Nat.le_of_ble_eq_true rfl⟩) ⟨K0.blind, B.recv (hF.2 _ (mw_key (k := 0) (X := [(y, .inr (7, [.int (iI th), .ref m1, .ref m2, .ref m3, .int (iI pn), .ref m5, .ref m6, .ref m7, .ref m8, .ref m9, .ref m10, .ref m11, .ref m12, .ref m13, .int (iI rw_), .ref m15, .long (lI fu), .long (lI fb)])), (m1, .inl (cs 0, 11520, .inl (ai lm))), (m2, .inl (cs 0, 180, .inl (ai mn))), (m3, .inl (cs 0, 180, .inl (ai sn))), (m8, .inl (cs 1, 6, .inr (.inl (al w8)))), (m9, .inl (cs 1, 6, .inr (.inl (al w9)))), (m10, .inl (cs 1, 6, .inr (.inl (al w10)))), (m11, .inl (cs 1, 6, .inr (.inl (al w11)))), (m7, .inl (cs 1, 12, .inr (.inl (al md)))), (m5, .inl (cs 0, 72, .inl (ai cv)))]) rfl)) (mw_get (X := [(y, .inr (7, [.int (iI th), .ref m1, .ref m2, .ref m3, .int (iI pn), .ref m5, .ref m6, .ref m7, .ref m8, .ref m9, .ref m10, .ref m11, .ref m12, .ref m13, .int (iI rw_), .ref m15, .long (lI fu), .long (lI fb)])), (m1, .inl (cs 0, 11520, .inl (ai lm))), (m2, .inl (cs 0, 180, .inl (ai mn))), (m3, .inl (cs 0, 180, .inl (ai sn))), (m8, .inl (cs 1, 6, .inr (.inl (al w8)))), (m9, .inl (cs 1, 6, .inr (.inl (al w9)))), (m10, .inl (cs 1, 6, .inr (.inl (al w10)))), (m11, .inl (cs 1, 6, .inr (.inl (al w11)))), (m7, .inl (cs 1, 12, .inr (.inl (al md)))), (m5, .inl (cs 0, 72, .inl (ai cv)))]) hF.1 (k := 0) rfl) rfl, B.pre _⟩ rfl rfl hl.1 rfl (lv_room (Nat.le_of_ble_eq_true rfl)) d_Mo_making_336 ⟨by rw [hRc]; omega, by rw [hRs]; omega⟩) (fun g336 H locs hw B => ?_)
  obtain ⟨a1, ha1, rfl⟩ := hw
  have B := B.of_eq (mw_put (X := [(y, .inr (7, [.int (iI th), .ref m1, .ref m2, .ref m3, .int (iI pn), .ref m5, .ref m6, .ref m7, .ref m8, .ref m9, .ref m10, .ref m11, .ref m12, .ref m13, .int (iI rw_), .ref m15, .long (lI fu), .long (lI fb)])), (m1, .inl (cs 0, 11520, .inl (ai lm))), (m2, .inl (cs 0, 180, .inl (ai mn))), (m3, .inl (cs 0, 180, .inl (ai sn))), (m8, .inl (cs 1, 6, .inr (.inl (al w8)))), (m9, .inl (cs 1, 6, .inr (.inl (al w9)))), (m10, .inl (cs 1, 6, .inr (.inl (al w10)))), (m11, .inl (cs 1, 6, .inr (.inl (al w11)))), (m7, .inl (cs 1, 12, .inr (.inl (al md)))), (m5, .inl (cs 0, 72, .inl (ai cv)))]) hF.1 (k := 7) rfl)
  have B : Wb D vwCl (TY cs) L (mw f [(y, .inr (7, [.int (iI th), .ref m1, .ref m2, .ref m3, .int (iI pn), .ref m5, .ref m6, .ref m7, .ref m8, .ref m9, .ref m10, .ref m11, .ref m12, .ref m13, .int (iI rw_), .ref m15, .long (lI fu), .long (lI fb)])), (m1, .inl (cs 0, 11520, .inl (ai lm))), (m2, .inl (cs 0, 180, .inl (ai mn))), (m3, .inl (cs 0, 180, .inl (ai sn))), (m8, .inl (cs 1, 6, .inr (.inl (al w8)))), (m9, .inl (cs 1, 6, .inr (.inl (al w9)))), (m10, .inl (cs 1, 6, .inr (.inl (al w10)))), (m11, .inl (cs 1, 6, .inr (.inl (al a1)))), (m7, .inl (cs 1, 12, .inr (.inl (al md)))), (m5, .inl (cs 0, 72, .inl (ai cv)))]) (AL L s.heap.size) s H _ := B
  have haM : ∀ j, j < 6 → -1000 ≤ a1 j ∧ a1 j ≤ 1000 := fun j hj => by rw [ha1 j hj]; exact hcv _ (by omega)
  have haD := dva_bd (by decide) haM
  refine lv_aload_n hx hb d_Mo_making_339 rfl (lv_at hl 2 rfl) ?_
  refine lv_aload_n hx hb d_Mo_making_340 rfl (lv_at hl 2 rfl) ?_
  refine x_get (C := RX7) (T := TX7) (N := 18) hx hb hts inX7 hown B hF 0 rfl rfl 11 (by decide) (hts _ w_688) (fun _ h9 => h9) rfl d_Mo_making_341 ?_
  refine x_callv B hA (va_runV (As := [.ref m11]) (rest := []) ⟨hx, hb, hml, hown, hts⟩ (c_Mo_squareFree l D cs _ _ _ y m1 m2 m3 m5 m6 m7 m8 m9 m10 m11 m12 m13 m15 th pn rw_ fu fb lm mn sn Z m11 w8 w9 w10 a1 5000 10 13 (hF.pick [0, 1, 2, 3, 4, 5, 6, 7] rfl rfl) (mw_get (X := [(y, .inr (7, [.int (iI th), .ref m1, .ref m2, .ref m3, .int (iI pn), .ref m5, .ref m6, .ref m7, .ref m8, .ref m9, .ref m10, .ref m11, .ref m12, .ref m13, .int (iI rw_), .ref m15, .long (lI fu), .long (lI fb)])), (m1, .inl (cs 0, 11520, .inl (ai lm))), (m2, .inl (cs 0, 180, .inl (ai mn))), (m3, .inl (cs 0, 180, .inl (ai sn))), (m8, .inl (cs 1, 6, .inr (.inl (al w8)))), (m9, .inl (cs 1, 6, .inr (.inl (al w9)))), (m10, .inl (cs 1, 6, .inr (.inl (al w10)))), (m11, .inl (cs 1, 6, .inr (.inl (al a1)))), (m7, .inl (cs 1, 12, .inr (.inl (al md)))), (m5, .inl (cs 0, 72, .inl (ai cv)))]) hF.1 (k := 0) rfl) (mw_get (X := [(y, .inr (7, [.int (iI th), .ref m1, .ref m2, .ref m3, .int (iI pn), .ref m5, .ref m6, .ref m7, .ref m8, .ref m9, .ref m10, .ref m11, .ref m12, .ref m13, .int (iI rw_), .ref m15, .long (lI fu), .long (lI fb)])), (m1, .inl (cs 0, 11520, .inl (ai lm))), (m2, .inl (cs 0, 180, .inl (ai mn))), (m3, .inl (cs 0, 180, .inl (ai sn))), (m8, .inl (cs 1, 6, .inr (.inl (al w8)))), (m9, .inl (cs 1, 6, .inr (.inl (al w9)))), (m10, .inl (cs 1, 6, .inr (.inl (al w10)))), (m11, .inl (cs 1, 6, .inr (.inl (al a1)))), (m7, .inl (cs 1, 12, .inr (.inl (al md)))), (m5, .inl (cs 0, 72, .inl (ai cv)))]) hF.1 (k := 1) rfl) (mw_get (X := [(y, .inr (7, [.int (iI th), .ref m1, .ref m2, .ref m3, .int (iI pn), .ref m5, .ref m6, .ref m7, .ref m8, .ref m9, .ref m10, .ref m11, .ref m12, .ref m13, .int (iI rw_), .ref m15, .long (lI fu), .long (lI fb)])), (m1, .inl (cs 0, 11520, .inl (ai lm))), (m2, .inl (cs 0, 180, .inl (ai mn))), (m3, .inl (cs 0, 180, .inl (ai sn))), (m8, .inl (cs 1, 6, .inr (.inl (al w8)))), (m9, .inl (cs 1, 6, .inr (.inl (al w9)))), (m10, .inl (cs 1, 6, .inr (.inl (al w10)))), (m11, .inl (cs 1, 6, .inr (.inl (al a1)))), (m7, .inl (cs 1, 12, .inr (.inl (al md)))), (m5, .inl (cs 0, 72, .inl (ai cv)))]) hF.1 (k := 2) rfl) (mw_get (X := [(y, .inr (7, [.int (iI th), .ref m1, .ref m2, .ref m3, .int (iI pn), .ref m5, .ref m6, .ref m7, .ref m8, .ref m9, .ref m10, .ref m11, .ref m12, .ref m13, .int (iI rw_), .ref m15, .long (lI fu), .long (lI fb)])), (m1, .inl (cs 0, 11520, .inl (ai lm))), (m2, .inl (cs 0, 180, .inl (ai mn))), (m3, .inl (cs 0, 180, .inl (ai sn))), (m8, .inl (cs 1, 6, .inr (.inl (al w8)))), (m9, .inl (cs 1, 6, .inr (.inl (al w9)))), (m10, .inl (cs 1, 6, .inr (.inl (al w10)))), (m11, .inl (cs 1, 6, .inr (.inl (al a1)))), (m7, .inl (cs 1, 12, .inr (.inl (al md)))), (m5, .inl (cs 0, 72, .inl (ai cv)))]) hF.1 (k := 3) rfl) hRS (mw_get (X := [(y, .inr (7, [.int (iI th), .ref m1, .ref m2, .ref m3, .int (iI pn), .ref m5, .ref m6, .ref m7, .ref m8, .ref m9, .ref m10, .ref m11, .ref m12, .ref m13, .int (iI rw_), .ref m15, .long (lI fu), .long (lI fb)])), (m1, .inl (cs 0, 11520, .inl (ai lm))), (m2, .inl (cs 0, 180, .inl (ai mn))), (m3, .inl (cs 0, 180, .inl (ai sn))), (m8, .inl (cs 1, 6, .inr (.inl (al w8)))), (m9, .inl (cs 1, 6, .inr (.inl (al w9)))), (m10, .inl (cs 1, 6, .inr (.inl (al w10)))), (m11, .inl (cs 1, 6, .inr (.inl (al a1)))), (m7, .inl (cs 1, 12, .inr (.inl (al md)))), (m5, .inl (cs 0, 72, .inl (ai cv)))]) hF.1 (k := 4) rfl) (mw_get (X := [(y, .inr (7, [.int (iI th), .ref m1, .ref m2, .ref m3, .int (iI pn), .ref m5, .ref m6, .ref m7, .ref m8, .ref m9, .ref m10, .ref m11, .ref m12, .ref m13, .int (iI rw_), .ref m15, .long (lI fu), .long (lI fb)])), (m1, .inl (cs 0, 11520, .inl (ai lm))), (m2, .inl (cs 0, 180, .inl (ai mn))), (m3, .inl (cs 0, 180, .inl (ai sn))), (m8, .inl (cs 1, 6, .inr (.inl (al w8)))), (m9, .inl (cs 1, 6, .inr (.inl (al w9)))), (m10, .inl (cs 1, 6, .inr (.inl (al w10)))), (m11, .inl (cs 1, 6, .inr (.inl (al a1)))), (m7, .inl (cs 1, 12, .inr (.inl (al md)))), (m5, .inl (cs 0, 72, .inl (ai cv)))]) hF.1 (k := 5) rfl) (mw_get (X := [(y, .inr (7, [.int (iI th), .ref m1, .ref m2, .ref m3, .int (iI pn), .ref m5, .ref m6, .ref m7, .ref m8, .ref m9, .ref m10, .ref m11, .ref m12, .ref m13, .int (iI rw_), .ref m15, .long (lI fu), .long (lI fb)])), (m1, .inl (cs 0, 11520, .inl (ai lm))), (m2, .inl (cs 0, 180, .inl (ai mn))), (m3, .inl (cs 0, 180, .inl (ai sn))), (m8, .inl (cs 1, 6, .inr (.inl (al w8)))), (m9, .inl (cs 1, 6, .inr (.inl (al w9)))), (m10, .inl (cs 1, 6, .inr (.inl (al w10)))), (m11, .inl (cs 1, 6, .inr (.inl (al a1)))), (m7, .inl (cs 1, 12, .inr (.inl (al md)))), (m5, .inl (cs 0, 72, .inl (ai cv)))]) hF.1 (k := 6) rfl) (mw_get (X := [(y, .inr (7, [.int (iI th), .ref m1, .ref m2, .ref m3, .int (iI pn), .ref m5, .ref m6, .ref m7, .ref m8, .ref m9, .ref m10, .ref m11, .ref m12, .ref m13, .int (iI rw_), .ref m15, .long (lI fu), .long (lI fb)])), (m1, .inl (cs 0, 11520, .inl (ai lm))), (m2, .inl (cs 0, 180, .inl (ai mn))), (m3, .inl (cs 0, 180, .inl (ai sn))), (m8, .inl (cs 1, 6, .inr (.inl (al w8)))), (m9, .inl (cs 1, 6, .inr (.inl (al w9)))), (m10, .inl (cs 1, 6, .inr (.inl (al w10)))), (m11, .inl (cs 1, 6, .inr (.inl (al a1)))), (m7, .inl (cs 1, 12, .inr (.inl (al md)))), (m5, .inl (cs 0, 72, .inl (ai cv)))]) hF.1 (k := 7) rfl) (by decide) (by decide) (hAN.congr ha1) (fun j hj => by have h9 := haM j hj; omega) (fun j hj => by have h9 := haD j hj; omega) (fun j hj => by have h9 := haM j hj; have h8 : (2 : Int) ^ 10 = 1024 := rfl; omega) (fun j hj => by have h9 := haD j hj; have h8 : (2 : Int) ^ 13 = 8192 := rfl; omega) (by decide +kernel) (by decide) (by decide)) (cwV 1 hts (gw_V w_862 w_864 s_50 w_8 w_865) rfl rfl rfl (by decide +kernel) ⟨by rw [hRf]; exact Nat.le_of_ble_eq_true rfl, by rw [hRl]; exact Nat.le_of_ble_eq_true rfl⟩) ⟨K0.blind, B.recv (hF.2 _ (mw_key (k := 0) (X := [(y, .inr (7, [.int (iI th), .ref m1, .ref m2, .ref m3, .int (iI pn), .ref m5, .ref m6, .ref m7, .ref m8, .ref m9, .ref m10, .ref m11, .ref m12, .ref m13, .int (iI rw_), .ref m15, .long (lI fu), .long (lI fb)])), (m1, .inl (cs 0, 11520, .inl (ai lm))), (m2, .inl (cs 0, 180, .inl (ai mn))), (m3, .inl (cs 0, 180, .inl (ai sn))), (m8, .inl (cs 1, 6, .inr (.inl (al w8)))), (m9, .inl (cs 1, 6, .inr (.inl (al w9)))), (m10, .inl (cs 1, 6, .inr (.inl (al w10)))), (m11, .inl (cs 1, 6, .inr (.inl (al a1)))), (m7, .inl (cs 1, 12, .inr (.inl (al md)))), (m5, .inl (cs 0, 72, .inl (ai cv)))]) rfl)) (mw_get (X := [(y, .inr (7, [.int (iI th), .ref m1, .ref m2, .ref m3, .int (iI pn), .ref m5, .ref m6, .ref m7, .ref m8, .ref m9, .ref m10, .ref m11, .ref m12, .ref m13, .int (iI rw_), .ref m15, .long (lI fu), .long (lI fb)])), (m1, .inl (cs 0, 11520, .inl (ai lm))), (m2, .inl (cs 0, 180, .inl (ai mn))), (m3, .inl (cs 0, 180, .inl (ai sn))), (m8, .inl (cs 1, 6, .inr (.inl (al w8)))), (m9, .inl (cs 1, 6, .inr (.inl (al w9)))), (m10, .inl (cs 1, 6, .inr (.inl (al w10)))), (m11, .inl (cs 1, 6, .inr (.inl (al a1)))), (m7, .inl (cs 1, 12, .inr (.inl (al md)))), (m5, .inl (cs 0, 72, .inl (ai cv)))]) hF.1 (k := 0) rfl) rfl, B.pre _⟩ rfl rfl hl.1 rfl (lv_room (Nat.le_of_ble_eq_true rfl)) d_Mo_making_344 ⟨by rw [hRc]; omega, by rw [hRs]; omega⟩) (fun g344 H locs hw B => ?_)
  obtain ⟨lm344, mn344, sn344, Z5, z8, z9, gg, G5, p5, C5, hR5, hg1, hg2, hg3, hg4, h5o, rfl⟩ := hw
  have B := B.of_eq (mw_put6 (X := [(y, .inr (7, [.int (iI th), .ref m1, .ref m2, .ref m3, .int (iI pn), .ref m5, .ref m6, .ref m7, .ref m8, .ref m9, .ref m10, .ref m11, .ref m12, .ref m13, .int (iI rw_), .ref m15, .long (lI fu), .long (lI fb)])), (m1, .inl (cs 0, 11520, .inl (ai lm))), (m2, .inl (cs 0, 180, .inl (ai mn))), (m3, .inl (cs 0, 180, .inl (ai sn))), (m8, .inl (cs 1, 6, .inr (.inl (al w8)))), (m9, .inl (cs 1, 6, .inr (.inl (al w9)))), (m10, .inl (cs 1, 6, .inr (.inl (al w10)))), (m11, .inl (cs 1, 6, .inr (.inl (al a1)))), (m7, .inl (cs 1, 12, .inr (.inl (al md)))), (m5, .inl (cs 0, 72, .inl (ai cv)))]) hF.1 (k1 := 1) (k2 := 2) (k3 := 3) (k4 := 4) (k5 := 5) (k6 := 6) rfl rfl rfl rfl rfl rfl)
  have B : Wb D vwCl (TY cs) L (mw f [(y, .inr (7, [.int (iI th), .ref m1, .ref m2, .ref m3, .int (iI pn), .ref m5, .ref m6, .ref m7, .ref m8, .ref m9, .ref m10, .ref m11, .ref m12, .ref m13, .int (iI rw_), .ref m15, .long (lI fu), .long (lI fb)])), (m1, .inl (cs 0, 11520, .inl (ai lm344))), (m2, .inl (cs 0, 180, .inl (ai mn344))), (m3, .inl (cs 0, 180, .inl (ai sn344))), (m8, .inl (cs 1, 6, .inr (.inl (al z8)))), (m9, .inl (cs 1, 6, .inr (.inl (al z9)))), (m10, .inl (cs 1, 6, .inr (.inl (al gg)))), (m11, .inl (cs 1, 6, .inr (.inl (al a1)))), (m7, .inl (cs 1, 12, .inr (.inl (al md)))), (m5, .inl (cs 0, 72, .inl (ai cv)))]) (AL L s.heap.size) s H _ := B
  have hfree : FreeOf (fun j => cv (6 * p0 + j)) gg := (show FreeOf a1 gg from ⟨G5, p5, C5, hg1, hg2, hg3, hg4⟩).congr (fun j hj => (ha1 j hj).symm) (fun _ _ => rfl)
  refine x_iconst hx hb d_Mo_making_347 ?_
  refine lv_istore (lv' := [(7, .int (iI 0)), (6, .int (iI (6 * b))), (5, .int (iI (6 * ((p0 : Int))))), (0, .ref y), (1, .int (iI 5)), (2, .int (iI ((p0 : Int)))), (3, .int (iI b)), (4, .int (iI ((k0 : Int) - 1)))]) hx hb d_Mo_making_348 hl (by decide) rfl (fun ls hl => ?_)
  have LP : ∀ (fuel : Nat) (k : Nat) (md2 : Nat → Int), 6 - k < fuel → (k ≤ 6) → (∀ j, j < k → md2 j = gg j) → (∀ j, k ≤ j → j < 12 → md2 j = 0) → ∀ (H : Heap) (locs : List Loc) (ls : Array Slot), Wb D vwCl (TY cs) L (mw f [(y, .inr (7, [.int (iI th), .ref m1, .ref m2, .ref m3, .int (iI pn), .ref m5, .ref m6, .ref m7, .ref m8, .ref m9, .ref m10, .ref m11, .ref m12, .ref m13, .int (iI rw_), .ref m15, .long (lI fu), .long (lI fb)])), (m1, .inl (cs 0, 11520, .inl (ai lm344))), (m2, .inl (cs 0, 180, .inl (ai mn344))), (m3, .inl (cs 0, 180, .inl (ai sn344))), (m8, .inl (cs 1, 6, .inr (.inl (al z8)))), (m9, .inl (cs 1, 6, .inr (.inl (al z9)))), (m10, .inl (cs 1, 6, .inr (.inl (al gg)))), (m11, .inl (cs 1, 6, .inr (.inl (al a1)))), (m7, .inl (cs 1, 12, .inr (.inl (al md2)))), (m5, .inl (cs 0, 72, .inl (ai cv)))]) (AL L s.heap.size) s H locs → lv_has ls 10 [(7, .int (iI ((k : Int)))), (6, .int (iI (6 * b))), (5, .int (iI (6 * (p0 : Int)))), (0, .ref y), (1, .int (iI 5)), (2, .int (iI ((p0 : Int)))), (3, .int (iI b)), (4, .int (iI ((k0 : Int) - 1)))] → W p l e R s m av below meth c H locs (0) (0) Q (F0 m 350 ls []) := by
    intro fuel
    induction fuel with
    | zero => intro k md2 hfu; exact absurd hfu (Nat.not_lt_zero _)
    | succ fuel ih_LP =>
      intro k md2 hfu_LP hk hI hJ H locs ls B hl
      refine lv_iload hx hb d_Mo_making_350 (lv_at hl 0 rfl) ?_
      refine x_bipush hx hb d_Mo_making_352 (by decide) ?_
      refine x_icmp_ge (tgt := 377) hx hb d_Mo_making_354 (by decide) (by omega) (by omega) (fun h354 => ?_) (fun h354 => ?_)
      · refine x_iconst hx hb d_Mo_making_377 ?_
        subst hQ hav
        exact x_zret hx hb hr (by decide) hlocks B d_Mo_making_378 (⟨_, _, _, Z5, _, _, _, _, md2, hR5, (fun v hv => h5o v (by omega) (by omega)), 1, rfl, Or.inl ⟨rfl, ⟨(fun h9 => absurd h9 (by decide)), (fun h9 => absurd h9 (by decide)), (fun h9 => absurd h9 (by decide)), (fun h9 => absurd h9 (by decide)), (fun h9 => absurd h9 (by decide)), (fun _ => hfree.congr (fun _ _ => rfl) (fun j hj => hI j (by omega))), (fun h9 => absurd h9 (by decide)), (fun h9 => absurd h9 (by decide)), (fun h9 => absurd h9 (by decide)), (fun h9 => absurd h9 (by decide)), (fun _ => fun j h1 h2 => hJ j (by omega) h2)⟩⟩, Eq.trans (mw_drop (f := f) (X := [(m1, .inl (cs 0, 11520, .inl (ai lm344))), (m2, .inl (cs 0, 180, .inl (ai mn344))), (m3, .inl (cs 0, 180, .inl (ai sn344))), (m8, .inl (cs 1, 6, .inr (.inl (al z8)))), (m9, .inl (cs 1, 6, .inr (.inl (al z9)))), (m10, .inl (cs 1, 6, .inr (.inl (al gg)))), (m11, .inl (cs 1, 6, .inr (.inl (al a1)))), (m7, .inl (cs 1, 12, .inr (.inl (al md2)))), (m5, .inl (cs 0, 72, .inl (ai cv)))]) ha (List.nodup_cons.mp hF.1).1) (mw_tail (X := [(m1, .inl (cs 0, 11520, .inl (ai lm344))), (m2, .inl (cs 0, 180, .inl (ai mn344))), (m3, .inl (cs 0, 180, .inl (ai sn344))), (m8, .inl (cs 1, 6, .inr (.inl (al z8)))), (m9, .inl (cs 1, 6, .inr (.inl (al z9)))), (m10, .inl (cs 1, 6, .inr (.inl (al gg)))), (m11, .inl (cs 1, 6, .inr (.inl (al a1)))), (m7, .inl (cs 1, 12, .inr (.inl (al md2))))]) (Y := [(m5, .inl (cs 0, 72, .inl (ai cv)))]) (fun p hp => hfx p (List.mem_cons_of_mem _ (List.mem_cons_of_mem _ (List.mem_cons_of_mem _ (List.mem_cons_of_mem _ (List.mem_cons_of_mem _ (List.mem_cons_of_mem _ (List.mem_cons_of_mem _ (List.mem_cons_of_mem _ (List.mem_cons_of_mem _ (hp))))))))))))⟩)
      · refine lv_aload_n hx hb d_Mo_making_357 rfl (lv_at hl 3 rfl) ?_
        refine x_get (C := RX7) (T := TX7) (N := 18) hx hb hts inX7 hown B hF 0 rfl rfl 7 (by decide) (hts _ w_684) (fun _ h9 => h9) rfl d_Mo_making_358 ?_
        refine lv_iload hx hb d_Mo_making_361 (lv_at hl 0 rfl) ?_
        refine lv_aload_n hx hb d_Mo_making_363 rfl (lv_at hl 3 rfl) ?_
        refine x_get (C := RX7) (T := TX7) (N := 18) hx hb hts inX7 hown B hF 0 rfl rfl 10 (by decide) (hts _ w_687) (fun _ h9 => h9) rfl d_Mo_making_364 ?_
        refine lv_iload hx hb d_Mo_making_367 (lv_at hl 0 rfl) ?_
        refine x_lald hx hb B hF 6 1 rfl rfl k (by omega) (by omega) (by decide) d_Mo_making_369 ?_
        refine x_last hx hb B hF 8 1 rfl rfl k (by omega) (by omega) (by decide) d_Mo_making_370 (fun H locs B => ?_)
        have B : Wb D vwCl (TY cs) L (mw f [(y, .inr (7, [.int (iI th), .ref m1, .ref m2, .ref m3, .int (iI pn), .ref m5, .ref m6, .ref m7, .ref m8, .ref m9, .ref m10, .ref m11, .ref m12, .ref m13, .int (iI rw_), .ref m15, .long (lI fu), .long (lI fb)])), (m1, .inl (cs 0, 11520, .inl (ai lm344))), (m2, .inl (cs 0, 180, .inl (ai mn344))), (m3, .inl (cs 0, 180, .inl (ai sn344))), (m8, .inl (cs 1, 6, .inr (.inl (al z8)))), (m9, .inl (cs 1, 6, .inr (.inl (al z9)))), (m10, .inl (cs 1, 6, .inr (.inl (al gg)))), (m11, .inl (cs 1, 6, .inr (.inl (al a1)))), (m7, .inl (cs 1, 12, .inr (.inl (al (up md2 k (gg k)))))), (m5, .inl (cs 0, 72, .inl (ai cv)))]) (AL L s.heap.size) s H _ := B
        refine x_iinc (lv' := [(7, .int (iI (((k : Int)) + 1))), (6, .int (iI (6 * b))), (5, .int (iI (6 * (p0 : Int)))), (0, .ref y), (1, .int (iI 5)), (2, .int (iI ((p0 : Int)))), (3, .int (iI b)), (4, .int (iI ((k0 : Int) - 1)))]) hx hb d_Mo_making_371 hl (q := 0) rfl rfl (by decide) rfl (fun ls hl => ?_)
        refine lv_goto (tgt := 350) hx hb d_Mo_making_374 (by decide) ?_
        exact ih_LP (k + 1) (up md2 k (gg k)) (by omega) (by omega) (fun j hj => by
          by_cases hjk : j = k
          · rw [hjk, up_self]
          · rw [up_ne _ _ hjk]; exact hI j (by omega)) (fun j h1 h2 => by rw [up_ne _ _ (by omega)]; exact hJ j (by omega) h2) _ _ _ B (lv_sub hl [0, 1, 2, 3, 4, 5, 6, 7] rfl)
  exact LP _ 0 md (Nat.lt_succ_self _) (by omega) (fun j hj => by omega) (fun j _ hj => hmd j hj) _ _ _ B (lv_sub hl [0, 1, 2, 3, 4, 5, 6, 7] rfl)
set_option maxHeartbeats 8000000 in
set_option maxRecDepth 100000 in
theorem c_Mo_making_6 (l : Launch) (D : va_G) (cs : Nat → ClassId) (L : List Nat) (f : Nat → va_E) (sz : Nat) (y m1 m2 m3 m5 m6 m7 m8 m9 m10 m11 m12 m13 m15 : Nat) (th pn rw_ fu fb : Int) (md cv : Nat → Int) (p0 k0 : Nat) (b : Int) (hF : Fc L [y, m7, m5]) (ha : f y = .inr (7, [.int (iI th), .ref m1, .ref m2, .ref m3, .int (iI pn), .ref m5, .ref m6, .ref m7, .ref m8, .ref m9, .ref m10, .ref m11, .ref m12, .ref m13, .int (iI rw_), .ref m15, .long (lI fu), .long (lI fb)])) (hm7 : f m7 = .inl (cs 1, 12, .inr (.inl (al md)))) (hm5 : f m5 = .inl (cs 0, 72, .inl (ai cv))) (hp0 : p0 < 12) (hcv : ∀ j, j < 72 → -1000 ≤ cv j ∧ cv j ≤ 1000) (hmd : ∀ j, j < 12 → md j = 0) (hk6 : k0 ≤ 6) (hz : ∀ j, k0 ≤ j → j < 6 → cv (6 * p0 + j) = 0) (hkl : 0 < k0 → cv (6 * p0 + (k0 - 1)) ≠ 0) (hb0 : -1000 ≤ b ∧ b ≤ 1000) : Met l (⟨"RealRootsModel", "making", "(IIII)Z"⟩ : MethodName) (.code (⟨"RealRootsModel", "making", "(IIII)Z"⟩ : MethodName) prog_9_method_37_code 10 (Option.some Jvm.ClassFile.FieldType.boolean) :: gw) ({ frames := 9, cells := 0, slots := 0, locals := 320 }) (va_Pc [.ref y, .int (iI 6), .int (iI ((p0 : Int))), .int (iI b), .int (iI ((k0 : Int) - 1))] (K0 D vwCl (TY cs) L f sz)) (va_Qi (fun (r : Int32) (g : Nat → va_E) => ∃ (md' : Nat → Int), ∃ v : Int, r = iI v ∧ ((v = 1 ∧ MkP 6 (fun j => cv (6 * p0 + j)) (fun _ => 0) b md') ∨ (v = 0 ∧ 2 ≤ k0 ∧ (hrn (fun j => cv (6 * p0 + j)) b 6 (k0 - 2) < -1000 ∨ 1000 < hrn (fun j => cv (6 * p0 + j)) b 6 (k0 - 2)))) ∧ g = mw f [(m7, .inl (cs 1, 12, .inr (.inl (al (md')))))]) (K1 D vwCl (TY cs) (AL L sz) L) (AL L sz)) 0 0 (AL L sz) := by
  refine Met.ofW (cc := prog_9_method_37_code) (maxL := 10) (ret := (Option.some Jvm.ClassFile.FieldType.boolean)) (by decide) rfl ?_
  intro p e s m args below meth c s₁ Bd hml hv
  obtain ⟨rfl, hk0⟩ := hv
  obtain ⟨hsz, B⟩ := hk0.start
  subst hsz
  have hx := Bd.exec
  have hb := Bd.bytes
  have hr := Bd.returns
  have hlocks := Bd.notSynchronized
  have hts0 := atoms_spec Bd.pre
  have hown : s.vm.findClass RX7 = some m.cls := findClass_of_methodNamed Bd.named
  have hA : ∀ q, s.heap.size ≤ q → AL L s.heap.size q := fun _ h => Or.inr h
  have hl := lv_entry ([.ref y, .int (iI 6), .int (iI ((p0 : Int))), .int (iI b), .int (iI ((k0 : Int) - 1))]) (n := 10) (Nat.le_of_ble_eq_true rfl)
  rw [lg_entry_eq]
  generalize (lg_sl ([.ref y, .int (iI 6), .int (iI ((p0 : Int))), .int (iI b), .int (iI ((k0 : Int) - 1))]) ++ List.replicate (10 - (lg_sl ([.ref y, .int (iI 6), .int (iI ((p0 : Int))), .int (iI b), .int (iI ((k0 : Int) - 1))])).length) Slot.unset).toArray = ls at hl ⊢
  refine absQ (fun Q R av hQ hR hav => ?_)
  have hts : ∀ w ∈ gw, w.before av s = true := by rw [hav]; exact fun w h => hts0 w (List.mem_cons_of_mem _ h)
  have hRf : R.frames = 9 := by rw [hR]; rfl
  have hRl : R.locals = 320 := by rw [hR]; rfl
  have hRc : R.cells = 0 := by rw [hR]; rfl
  have hRs : R.slots = 0 := by rw [hR]; rfl
  clear hR hts0 Bd
  have hl : lv_has ls 10 [(0, .ref y), (1, .int (iI 6)), (2, .int (iI ((p0 : Int)))), (3, .int (iI b)), (4, .int (iI ((k0 : Int) - 1)))] := hl
  have hfx : ∀ q ∈ ([(y, .inr (7, [.int (iI th), .ref m1, .ref m2, .ref m3, .int (iI pn), .ref m5, .ref m6, .ref m7, .ref m8, .ref m9, .ref m10, .ref m11, .ref m12, .ref m13, .int (iI rw_), .ref m15, .long (lI fu), .long (lI fb)])), (m7, .inl (cs 1, 12, .inr (.inl (al md)))), (m5, .inl (cs 0, 72, .inl (ai cv)))] : List (Nat × va_E)), f q.1 = q.2 := fun q hq => by
    simp only [List.mem_cons, List.not_mem_nil, or_false] at hq
    rcases hq with rfl | rfl | rfl
    · exact ha
    · exact hm7
    · exact hm5
  have hmw : mw f [(y, .inr (7, [.int (iI th), .ref m1, .ref m2, .ref m3, .int (iI pn), .ref m5, .ref m6, .ref m7, .ref m8, .ref m9, .ref m10, .ref m11, .ref m12, .ref m13, .int (iI rw_), .ref m15, .long (lI fu), .long (lI fb)])), (m7, .inl (cs 1, 12, .inr (.inl (al md)))), (m5, .inl (cs 0, 72, .inl (ai cv)))] = f := mw_self (fun k a e hk => hfx (a, e) (List.mem_of_getElem? hk))
  have B := B.focus [(y, .inr (7, [.int (iI th), .ref m1, .ref m2, .ref m3, .int (iI pn), .ref m5, .ref m6, .ref m7, .ref m8, .ref m9, .ref m10, .ref m11, .ref m12, .ref m13, .int (iI rw_), .ref m15, .long (lI fu), .long (lI fb)])), (m7, .inl (cs 1, 12, .inr (.inl (al md)))), (m5, .inl (cs 0, 72, .inl (ai cv)))] hfx
  refine x_bipush hx hb d_Mo_making_0 (by decide) ?_
  refine lv_iload_n hx hb d_Mo_making_2 rfl (lv_at hl 2 rfl) ?_
  refine x_imul hx hb d_Mo_making_3 ?_
  refine lv_istore (lv' := [(5, .int (iI (6 * ((p0 : Int))))), (0, .ref y), (1, .int (iI 6)), (2, .int (iI ((p0 : Int)))), (3, .int (iI b)), (4, .int (iI ((k0 : Int) - 1)))]) hx hb d_Mo_making_4 hl (by decide) rfl (fun ls hl => ?_)
  refine x_bipush hx hb d_Mo_making_6 (by decide) ?_
  refine lv_iload_n hx hb d_Mo_making_8 rfl (lv_at hl 4 rfl) ?_
  refine x_imul hx hb d_Mo_making_9 ?_
  refine lv_istore (lv' := [(6, .int (iI (6 * b))), (5, .int (iI (6 * ((p0 : Int))))), (0, .ref y), (1, .int (iI 6)), (2, .int (iI ((p0 : Int)))), (3, .int (iI b)), (4, .int (iI ((k0 : Int) - 1)))]) hx hb d_Mo_making_10 hl (by decide) rfl (fun ls hl => ?_)
  refine lv_iload_n hx hb d_Mo_making_12 rfl (lv_at hl 3 rfl) ?_
  refine lv_tableIn (tgt := 379) hx hb d_Mo_making_13 (by decide +kernel) (by decide +kernel) (off := 366) (by decide +kernel) (by decide) ?_
  refine lv_aload_n hx hb d_Mo_making_379 rfl (lv_at hl 2 rfl) ?_
  refine lv_iload hx hb d_Mo_making_380 (lv_at hl 1 rfl) ?_
  refine lv_iload_n hx hb d_Mo_making_382 rfl (lv_at hl 5 rfl) ?_
  refine lv_iload hx hb d_Mo_making_383 (lv_at hl 6 rfl) ?_
  refine x_calli B hA (va_runV (As := [.int (iI (6 * ((p0 : Int)))), .int (iI b), .int (iI ((k0 : Int) - 1))]) (rest := []) ⟨hx, hb, hml, hown, hts⟩ (c_Mo_moving l D cs _ _ _ y m1 m2 m3 m5 m6 m7 m8 m9 m10 m11 m12 m13 m15 th pn rw_ fu fb md cv p0 k0 b (hF.pick [0, 1, 2] rfl rfl) (mw_get (X := [(y, .inr (7, [.int (iI th), .ref m1, .ref m2, .ref m3, .int (iI pn), .ref m5, .ref m6, .ref m7, .ref m8, .ref m9, .ref m10, .ref m11, .ref m12, .ref m13, .int (iI rw_), .ref m15, .long (lI fu), .long (lI fb)])), (m7, .inl (cs 1, 12, .inr (.inl (al md)))), (m5, .inl (cs 0, 72, .inl (ai cv)))]) hF.1 (k := 0) rfl) (mw_get (X := [(y, .inr (7, [.int (iI th), .ref m1, .ref m2, .ref m3, .int (iI pn), .ref m5, .ref m6, .ref m7, .ref m8, .ref m9, .ref m10, .ref m11, .ref m12, .ref m13, .int (iI rw_), .ref m15, .long (lI fu), .long (lI fb)])), (m7, .inl (cs 1, 12, .inr (.inl (al md)))), (m5, .inl (cs 0, 72, .inl (ai cv)))]) hF.1 (k := 1) rfl) (mw_get (X := [(y, .inr (7, [.int (iI th), .ref m1, .ref m2, .ref m3, .int (iI pn), .ref m5, .ref m6, .ref m7, .ref m8, .ref m9, .ref m10, .ref m11, .ref m12, .ref m13, .int (iI rw_), .ref m15, .long (lI fu), .long (lI fb)])), (m7, .inl (cs 1, 12, .inr (.inl (al md)))), (m5, .inl (cs 0, 72, .inl (ai cv)))]) hF.1 (k := 2) rfl) hp0 hcv hmd hb0 hk6 hz) (cwV 3 hts (gw_V w_873 w_875 s_52 w_8 w_876) rfl rfl rfl (by decide +kernel) ⟨by rw [hRf]; exact Nat.le_of_ble_eq_true rfl, by rw [hRl]; exact Nat.le_of_ble_eq_true rfl⟩) ⟨K0.blind, B.recv (hF.2 _ (mw_key (k := 0) (X := [(y, .inr (7, [.int (iI th), .ref m1, .ref m2, .ref m3, .int (iI pn), .ref m5, .ref m6, .ref m7, .ref m8, .ref m9, .ref m10, .ref m11, .ref m12, .ref m13, .int (iI rw_), .ref m15, .long (lI fu), .long (lI fb)])), (m7, .inl (cs 1, 12, .inr (.inl (al md)))), (m5, .inl (cs 0, 72, .inl (ai cv)))]) rfl)) (mw_get (X := [(y, .inr (7, [.int (iI th), .ref m1, .ref m2, .ref m3, .int (iI pn), .ref m5, .ref m6, .ref m7, .ref m8, .ref m9, .ref m10, .ref m11, .ref m12, .ref m13, .int (iI rw_), .ref m15, .long (lI fu), .long (lI fb)])), (m7, .inl (cs 1, 12, .inr (.inl (al md)))), (m5, .inl (cs 0, 72, .inl (ai cv)))]) hF.1 (k := 0) rfl) rfl, B.pre _⟩ rfl rfl hl.1 rfl (lv_room (Nat.le_of_ble_eq_true rfl)) d_Mo_making_385 ⟨by rw [hRc]; omega, by rw [hRs]; omega⟩) (fun r385 g385 H locs hw B => ?_)
  obtain ⟨md2, vv, rfl, hvv, hoo, rfl⟩ := hw
  have B := B.of_eq (mw_put (X := [(y, .inr (7, [.int (iI th), .ref m1, .ref m2, .ref m3, .int (iI pn), .ref m5, .ref m6, .ref m7, .ref m8, .ref m9, .ref m10, .ref m11, .ref m12, .ref m13, .int (iI rw_), .ref m15, .long (lI fu), .long (lI fb)])), (m7, .inl (cs 1, 12, .inr (.inl (al md)))), (m5, .inl (cs 0, 72, .inl (ai cv)))]) hF.1 (k := 1) rfl)
  have B : Wb D vwCl (TY cs) L (mw f [(y, .inr (7, [.int (iI th), .ref m1, .ref m2, .ref m3, .int (iI pn), .ref m5, .ref m6, .ref m7, .ref m8, .ref m9, .ref m10, .ref m11, .ref m12, .ref m13, .int (iI rw_), .ref m15, .long (lI fu), .long (lI fb)])), (m7, .inl (cs 1, 12, .inr (.inl (al md2)))), (m5, .inl (cs 0, 72, .inl (ai cv)))]) (AL L s.heap.size) s H _ := B
  have hvr : vv = 1 ∨ vv = 0 := hvv.imp (fun h => h.1) (fun h => h.1)
  subst hQ hav
  exact x_zret hx hb hr (by rcases hvr with h | h <;> rw [h] <;> rfl) hlocks B d_Mo_making_388 (⟨md2, vv, rfl, hvv.imp (fun h => ⟨h.1, ⟨(fun h9 => absurd h9 (by decide)), (fun h9 => absurd h9 (by decide)), (fun h9 => absurd h9 (by decide)), (fun h9 => absurd h9 (by decide)), (fun h9 => absurd h9 (by decide)), (fun h9 => absurd h9 (by decide)), (fun _ => h.2), (fun h9 => absurd h9 (by decide)), (fun h9 => absurd h9 (by decide)), (fun h9 => absurd h9 (by decide)), (fun _ => fun j h1 h2 => by rw [hoo j h1]; exact hmd j h2)⟩⟩) (fun h => ⟨h.1, h.2.1, h.2.2⟩), Eq.trans (mw_drop (f := f) (X := [(m7, .inl (cs 1, 12, .inr (.inl (al md2)))), (m5, .inl (cs 0, 72, .inl (ai cv)))]) ha (List.nodup_cons.mp hF.1).1) (mw_tail (X := [(m7, .inl (cs 1, 12, .inr (.inl (al md2))))]) (Y := [(m5, .inl (cs 0, 72, .inl (ai cv)))]) (fun p hp => hfx p (List.mem_cons_of_mem _ (List.mem_cons_of_mem _ (hp)))))⟩)
set_option maxHeartbeats 8000000 in
set_option maxRecDepth 100000 in
theorem c_Mo_making_7 (l : Launch) (D : va_G) (cs : Nat → ClassId) (L : List Nat) (f : Nat → va_E) (sz : Nat) (y m1 m2 m3 m5 m6 m7 m8 m9 m10 m11 m12 m13 m15 : Nat) (th pn rw_ fu fb : Int) (md cv : Nat → Int) (p0 k0 : Nat) (b : Int) (hF : Fc L [y, m7, m5]) (ha : f y = .inr (7, [.int (iI th), .ref m1, .ref m2, .ref m3, .int (iI pn), .ref m5, .ref m6, .ref m7, .ref m8, .ref m9, .ref m10, .ref m11, .ref m12, .ref m13, .int (iI rw_), .ref m15, .long (lI fu), .long (lI fb)])) (hm7 : f m7 = .inl (cs 1, 12, .inr (.inl (al md)))) (hm5 : f m5 = .inl (cs 0, 72, .inl (ai cv))) (hp0 : p0 < 12) (hcv : ∀ j, j < 72 → -1000 ≤ cv j ∧ cv j ≤ 1000) (hmd : ∀ j, j < 12 → md j = 0) (hk6 : k0 ≤ 6) (hz : ∀ j, k0 ≤ j → j < 6 → cv (6 * p0 + j) = 0) (hkl : 0 < k0 → cv (6 * p0 + (k0 - 1)) ≠ 0) (hb0 : -2147483648 ≤ b ∧ b < 2147483648) : Met l (⟨"RealRootsModel", "making", "(IIII)Z"⟩ : MethodName) (.code (⟨"RealRootsModel", "making", "(IIII)Z"⟩ : MethodName) prog_9_method_37_code 10 (Option.some Jvm.ClassFile.FieldType.boolean) :: gw) ({ frames := 9, cells := 0, slots := 0, locals := 320 }) (va_Pc [.ref y, .int (iI 7), .int (iI ((p0 : Int))), .int (iI b), .int (iI ((k0 : Int) - 1))] (K0 D vwCl (TY cs) L f sz)) (va_Qi (fun (r : Int32) (g : Nat → va_E) => ∃ (md' : Nat → Int), ∃ v : Int, r = iI v ∧ ((v = 1 ∧ MkP 7 (fun j => cv (6 * p0 + j)) (fun _ => 0) b md') ∨ (v = 0 ∧ False)) ∧ g = mw f [(m7, .inl (cs 1, 12, .inr (.inl (al (md')))))]) (K1 D vwCl (TY cs) (AL L sz) L) (AL L sz)) 0 0 (AL L sz) := by
  refine Met.ofW (cc := prog_9_method_37_code) (maxL := 10) (ret := (Option.some Jvm.ClassFile.FieldType.boolean)) (by decide) rfl ?_
  intro p e s m args below meth c s₁ Bd hml hv
  obtain ⟨rfl, hk0⟩ := hv
  obtain ⟨hsz, B⟩ := hk0.start
  subst hsz
  have hx := Bd.exec
  have hb := Bd.bytes
  have hr := Bd.returns
  have hlocks := Bd.notSynchronized
  have hts0 := atoms_spec Bd.pre
  have hown : s.vm.findClass RX7 = some m.cls := findClass_of_methodNamed Bd.named
  have hA : ∀ q, s.heap.size ≤ q → AL L s.heap.size q := fun _ h => Or.inr h
  have hl := lv_entry ([.ref y, .int (iI 7), .int (iI ((p0 : Int))), .int (iI b), .int (iI ((k0 : Int) - 1))]) (n := 10) (Nat.le_of_ble_eq_true rfl)
  rw [lg_entry_eq]
  generalize (lg_sl ([.ref y, .int (iI 7), .int (iI ((p0 : Int))), .int (iI b), .int (iI ((k0 : Int) - 1))]) ++ List.replicate (10 - (lg_sl ([.ref y, .int (iI 7), .int (iI ((p0 : Int))), .int (iI b), .int (iI ((k0 : Int) - 1))])).length) Slot.unset).toArray = ls at hl ⊢
  refine absQ (fun Q R av hQ hR hav => ?_)
  have hts : ∀ w ∈ gw, w.before av s = true := by rw [hav]; exact fun w h => hts0 w (List.mem_cons_of_mem _ h)
  have hRf : R.frames = 9 := by rw [hR]; rfl
  have hRl : R.locals = 320 := by rw [hR]; rfl
  have hRc : R.cells = 0 := by rw [hR]; rfl
  have hRs : R.slots = 0 := by rw [hR]; rfl
  clear hR hts0 Bd
  have hl : lv_has ls 10 [(0, .ref y), (1, .int (iI 7)), (2, .int (iI ((p0 : Int)))), (3, .int (iI b)), (4, .int (iI ((k0 : Int) - 1)))] := hl
  have hfx : ∀ q ∈ ([(y, .inr (7, [.int (iI th), .ref m1, .ref m2, .ref m3, .int (iI pn), .ref m5, .ref m6, .ref m7, .ref m8, .ref m9, .ref m10, .ref m11, .ref m12, .ref m13, .int (iI rw_), .ref m15, .long (lI fu), .long (lI fb)])), (m7, .inl (cs 1, 12, .inr (.inl (al md)))), (m5, .inl (cs 0, 72, .inl (ai cv)))] : List (Nat × va_E)), f q.1 = q.2 := fun q hq => by
    simp only [List.mem_cons, List.not_mem_nil, or_false] at hq
    rcases hq with rfl | rfl | rfl
    · exact ha
    · exact hm7
    · exact hm5
  have hmw : mw f [(y, .inr (7, [.int (iI th), .ref m1, .ref m2, .ref m3, .int (iI pn), .ref m5, .ref m6, .ref m7, .ref m8, .ref m9, .ref m10, .ref m11, .ref m12, .ref m13, .int (iI rw_), .ref m15, .long (lI fu), .long (lI fb)])), (m7, .inl (cs 1, 12, .inr (.inl (al md)))), (m5, .inl (cs 0, 72, .inl (ai cv)))] = f := mw_self (fun k a e hk => hfx (a, e) (List.mem_of_getElem? hk))
  have B := B.focus [(y, .inr (7, [.int (iI th), .ref m1, .ref m2, .ref m3, .int (iI pn), .ref m5, .ref m6, .ref m7, .ref m8, .ref m9, .ref m10, .ref m11, .ref m12, .ref m13, .int (iI rw_), .ref m15, .long (lI fu), .long (lI fb)])), (m7, .inl (cs 1, 12, .inr (.inl (al md)))), (m5, .inl (cs 0, 72, .inl (ai cv)))] hfx
  refine x_bipush hx hb d_Mo_making_0 (by decide) ?_
  refine lv_iload_n hx hb d_Mo_making_2 rfl (lv_at hl 2 rfl) ?_
  refine x_imul hx hb d_Mo_making_3 ?_
  refine lv_istore (lv' := [(5, .int (iI (6 * ((p0 : Int))))), (0, .ref y), (1, .int (iI 7)), (2, .int (iI ((p0 : Int)))), (3, .int (iI b)), (4, .int (iI ((k0 : Int) - 1)))]) hx hb d_Mo_making_4 hl (by decide) rfl (fun ls hl => ?_)
  refine x_bipush hx hb d_Mo_making_6 (by decide) ?_
  refine lv_iload_n hx hb d_Mo_making_8 rfl (lv_at hl 4 rfl) ?_
  refine x_imul hx hb d_Mo_making_9 ?_
  refine lv_istore (lv' := [(6, .int (iI (6 * b))), (5, .int (iI (6 * ((p0 : Int))))), (0, .ref y), (1, .int (iI 7)), (2, .int (iI ((p0 : Int)))), (3, .int (iI b)), (4, .int (iI ((k0 : Int) - 1)))]) hx hb d_Mo_making_10 hl (by decide) rfl (fun ls hl => ?_)
  refine lv_iload_n hx hb d_Mo_making_12 rfl (lv_at hl 3 rfl) ?_
  refine lv_tableIn (tgt := 389) hx hb d_Mo_making_13 (by decide +kernel) (by decide +kernel) (off := 376) (by decide +kernel) (by decide) ?_
  refine x_iconst hx hb d_Mo_making_389 ?_
  refine lv_istore (lv' := [(7, .int (iI 0)), (6, .int (iI (6 * b))), (5, .int (iI (6 * ((p0 : Int))))), (0, .ref y), (1, .int (iI 7)), (2, .int (iI ((p0 : Int)))), (3, .int (iI b)), (4, .int (iI ((k0 : Int) - 1)))]) hx hb d_Mo_making_390 hl (by decide) rfl (fun ls hl => ?_)
  have LP : ∀ (fuel : Nat) (k : Nat) (md2 : Nat → Int), 6 - k < fuel → (k ≤ 6) → (∀ j, j < k → md2 j = flp (fun j => cv (6 * p0 + j)) j) → (∀ j, k ≤ j → j < 12 → md2 j = 0) → ∀ (H : Heap) (locs : List Loc) (ls : Array Slot), Wb D vwCl (TY cs) L (mw f [(y, .inr (7, [.int (iI th), .ref m1, .ref m2, .ref m3, .int (iI pn), .ref m5, .ref m6, .ref m7, .ref m8, .ref m9, .ref m10, .ref m11, .ref m12, .ref m13, .int (iI rw_), .ref m15, .long (lI fu), .long (lI fb)])), (m7, .inl (cs 1, 12, .inr (.inl (al md2)))), (m5, .inl (cs 0, 72, .inl (ai cv)))]) (AL L s.heap.size) s H locs → lv_has ls 10 [(7, .int (iI ((k : Int)))), (6, .int (iI (6 * b))), (5, .int (iI (6 * (p0 : Int)))), (0, .ref y), (1, .int (iI 7)), (2, .int (iI ((p0 : Int)))), (3, .int (iI b)), (4, .int (iI ((k0 : Int) - 1)))] → W p l e R s m av below meth c H locs (0) (0) Q (F0 m 392 ls []) := by
    intro fuel
    induction fuel with
    | zero => intro k md2 hfu; exact absurd hfu (Nat.not_lt_zero _)
    | succ fuel ih_LP =>
      intro k md2 hfu_LP hk hI hJ H locs ls B hl
      refine lv_iload hx hb d_Mo_making_392 (lv_at hl 0 rfl) ?_
      refine x_bipush hx hb d_Mo_making_394 (by decide) ?_
      refine x_icmp_ge (tgt := 445) hx hb d_Mo_making_396 (by decide) (by omega) (by omega) (fun h396 => ?_) (fun h396 => ?_)
      · refine x_iconst hx hb d_Mo_making_445 ?_
        subst hQ hav
        exact x_zret hx hb hr (by decide) hlocks B d_Mo_making_446 (⟨md2, 1, rfl, Or.inl ⟨rfl, ⟨(fun h9 => absurd h9 (by decide)), (fun h9 => absurd h9 (by decide)), (fun h9 => absurd h9 (by decide)), (fun h9 => absurd h9 (by decide)), (fun h9 => absurd h9 (by decide)), (fun h9 => absurd h9 (by decide)), (fun h9 => absurd h9 (by decide)), (fun _ => fun j hj => hI j (by omega)), (fun h9 => absurd h9 (by decide)), (fun h9 => absurd h9 (by decide)), (fun _ => fun j h1 h2 => hJ j (by omega) h2)⟩⟩, Eq.trans (mw_drop (f := f) (X := [(m7, .inl (cs 1, 12, .inr (.inl (al md2)))), (m5, .inl (cs 0, 72, .inl (ai cv)))]) ha (List.nodup_cons.mp hF.1).1) (mw_tail (X := [(m7, .inl (cs 1, 12, .inr (.inl (al md2))))]) (Y := [(m5, .inl (cs 0, 72, .inl (ai cv)))]) (fun p hp => hfx p (List.mem_cons_of_mem _ (List.mem_cons_of_mem _ (hp)))))⟩)
      · have h9a := hcv (6 * p0 + k) (by omega)
        have hmod : (k : Int).tmod 2 = ((k % 2 : Nat) : Int) := by rw [Int.tmod_eq_emod_of_nonneg (by omega)]; omega
        refine lv_aload_n hx hb d_Mo_making_399 rfl (lv_at hl 3 rfl) ?_
        refine x_get (C := RX7) (T := TX7) (N := 18) hx hb hts inX7 hown B hF 0 rfl rfl 7 (by decide) (hts _ w_684) (fun _ h9 => h9) rfl d_Mo_making_400 ?_
        refine lv_iload hx hb d_Mo_making_403 (lv_at hl 0 rfl) ?_
        refine lv_iload hx hb d_Mo_making_405 (lv_at hl 0 rfl) ?_
        refine x_iconst hx hb d_Mo_making_407 ?_
        refine x_irem hx hb d_Mo_making_408 (by omega) (by omega) (by omega) ?_
        refine x_if_ne (tgt := 426) hx hb d_Mo_making_409 (by decide) (by rw [hmod]; omega) (fun h409 => ?_) (fun h409 => ?_)
        · refine lv_aload_n hx hb d_Mo_making_426 rfl (lv_at hl 3 rfl) ?_
          refine x_get (C := RX7) (T := TX7) (N := 18) hx hb hts inX7 hown B hF 0 rfl rfl 5 (by decide) (hts _ w_682) (fun _ h9 => h9) rfl d_Mo_making_427 ?_
          refine lv_iload hx hb d_Mo_making_430 (lv_at hl 2 rfl) ?_
          refine lv_iload hx hb d_Mo_making_432 (lv_at hl 0 rfl) ?_
          refine x_iadd hx hb d_Mo_making_434 ?_
          refine x_iald hx hb B hF 2 0 rfl rfl (6 * p0 + k) (by omega) (by omega) (by decide) d_Mo_making_435 ?_
          refine x_ineg hx hb d_Mo_making_436 ?_
          refine x_i2l hx hb d_Mo_making_437 (by omega) ?_
          refine x_last hx hb B hF 1 1 rfl rfl k (by omega) (by omega) (by decide) d_Mo_making_438 (fun H locs B => ?_)
          have B : Wb D vwCl (TY cs) L (mw f [(y, .inr (7, [.int (iI th), .ref m1, .ref m2, .ref m3, .int (iI pn), .ref m5, .ref m6, .ref m7, .ref m8, .ref m9, .ref m10, .ref m11, .ref m12, .ref m13, .int (iI rw_), .ref m15, .long (lI fu), .long (lI fb)])), (m7, .inl (cs 1, 12, .inr (.inl (al (up md2 k (-(cv (6 * p0 + k)))))))), (m5, .inl (cs 0, 72, .inl (ai cv)))]) (AL L s.heap.size) s H _ := B
          refine x_iinc (lv' := [(7, .int (iI (((k : Int)) + 1))), (6, .int (iI (6 * b))), (5, .int (iI (6 * (p0 : Int)))), (0, .ref y), (1, .int (iI 7)), (2, .int (iI ((p0 : Int)))), (3, .int (iI b)), (4, .int (iI ((k0 : Int) - 1)))]) hx hb d_Mo_making_439 hl (q := 0) rfl rfl (by decide) rfl (fun ls hl => ?_)
          refine lv_goto (tgt := 392) hx hb d_Mo_making_442 (by decide) ?_
          exact ih_LP (k + 1) (up md2 k (-(cv (6 * p0 + k)))) (by omega) (by omega) (fun j hj => by
          by_cases hjk : j = k
          · rw [hjk, up_self, flp]; rw [hmod] at h409; first | rw [if_pos (show k % 2 = 0 by omega)] | rw [if_neg (show ¬ k % 2 = 0 by omega)]
          · rw [up_ne _ _ hjk]; exact hI j (by omega)) (fun j h1 h2 => by rw [up_ne _ _ (by omega)]; exact hJ j (by omega) h2) _ _ _ B (lv_sub hl [0, 1, 2, 3, 4, 5, 6, 7] rfl)
        · refine lv_aload_n hx hb d_Mo_making_412 rfl (lv_at hl 3 rfl) ?_
          refine x_get (C := RX7) (T := TX7) (N := 18) hx hb hts inX7 hown B hF 0 rfl rfl 5 (by decide) (hts _ w_682) (fun _ h9 => h9) rfl d_Mo_making_413 ?_
          refine lv_iload hx hb d_Mo_making_416 (lv_at hl 2 rfl) ?_
          refine lv_iload hx hb d_Mo_making_418 (lv_at hl 0 rfl) ?_
          refine x_iadd hx hb d_Mo_making_420 ?_
          refine x_iald hx hb B hF 2 0 rfl rfl (6 * p0 + k) (by omega) (by omega) (by decide) d_Mo_making_421 ?_
          refine x_i2l hx hb d_Mo_making_422 (by omega) ?_
          refine lv_goto (tgt := 438) hx hb d_Mo_making_423 (by decide) ?_
          refine x_last hx hb B hF 1 1 rfl rfl k (by omega) (by omega) (by decide) d_Mo_making_438 (fun H locs B => ?_)
          have B : Wb D vwCl (TY cs) L (mw f [(y, .inr (7, [.int (iI th), .ref m1, .ref m2, .ref m3, .int (iI pn), .ref m5, .ref m6, .ref m7, .ref m8, .ref m9, .ref m10, .ref m11, .ref m12, .ref m13, .int (iI rw_), .ref m15, .long (lI fu), .long (lI fb)])), (m7, .inl (cs 1, 12, .inr (.inl (al (up md2 k (cv (6 * p0 + k))))))), (m5, .inl (cs 0, 72, .inl (ai cv)))]) (AL L s.heap.size) s H _ := B
          refine x_iinc (lv' := [(7, .int (iI (((k : Int)) + 1))), (6, .int (iI (6 * b))), (5, .int (iI (6 * (p0 : Int)))), (0, .ref y), (1, .int (iI 7)), (2, .int (iI ((p0 : Int)))), (3, .int (iI b)), (4, .int (iI ((k0 : Int) - 1)))]) hx hb d_Mo_making_439 hl (q := 0) rfl rfl (by decide) rfl (fun ls hl => ?_)
          refine lv_goto (tgt := 392) hx hb d_Mo_making_442 (by decide) ?_
          exact ih_LP (k + 1) (up md2 k (cv (6 * p0 + k))) (by omega) (by omega) (fun j hj => by
          by_cases hjk : j = k
          · rw [hjk, up_self, flp]; rw [hmod] at h409; first | rw [if_pos (show k % 2 = 0 by omega)] | rw [if_neg (show ¬ k % 2 = 0 by omega)]
          · rw [up_ne _ _ hjk]; exact hI j (by omega)) (fun j h1 h2 => by rw [up_ne _ _ (by omega)]; exact hJ j (by omega) h2) _ _ _ B (lv_sub hl [0, 1, 2, 3, 4, 5, 6, 7] rfl)
  exact LP _ 0 md (Nat.lt_succ_self _) (by omega) (fun j hj => by omega) (fun j _ hj => hmd j hj) _ _ _ B (lv_sub hl [0, 1, 2, 3, 4, 5, 6, 7] rfl)
set_option maxHeartbeats 8000000 in
set_option maxRecDepth 100000 in
theorem c_Mo_making_8 (l : Launch) (D : va_G) (cs : Nat → ClassId) (L : List Nat) (f : Nat → va_E) (sz : Nat) (y m1 m2 m3 m5 m6 m7 m8 m9 m10 m11 m12 m13 m15 : Nat) (th pn rw_ fu fb : Int) (md cv : Nat → Int) (p0 k0 : Nat) (b : Int) (hF : Fc L [y, m7, m5]) (ha : f y = .inr (7, [.int (iI th), .ref m1, .ref m2, .ref m3, .int (iI pn), .ref m5, .ref m6, .ref m7, .ref m8, .ref m9, .ref m10, .ref m11, .ref m12, .ref m13, .int (iI rw_), .ref m15, .long (lI fu), .long (lI fb)])) (hm7 : f m7 = .inl (cs 1, 12, .inr (.inl (al md)))) (hm5 : f m5 = .inl (cs 0, 72, .inl (ai cv))) (hp0 : p0 < 12) (hcv : ∀ j, j < 72 → -1000 ≤ cv j ∧ cv j ≤ 1000) (hmd : ∀ j, j < 12 → md j = 0) (hk6 : k0 ≤ 6) (hz : ∀ j, k0 ≤ j → j < 6 → cv (6 * p0 + j) = 0) (hkl : 0 < k0 → cv (6 * p0 + (k0 - 1)) ≠ 0) (hb0 : -2147483648 ≤ b ∧ b < 2147483648) : Met l (⟨"RealRootsModel", "making", "(IIII)Z"⟩ : MethodName) (.code (⟨"RealRootsModel", "making", "(IIII)Z"⟩ : MethodName) prog_9_method_37_code 10 (Option.some Jvm.ClassFile.FieldType.boolean) :: gw) ({ frames := 9, cells := 0, slots := 0, locals := 320 }) (va_Pc [.ref y, .int (iI 8), .int (iI ((p0 : Int))), .int (iI b), .int (iI ((k0 : Int) - 1))] (K0 D vwCl (TY cs) L f sz)) (va_Qi (fun (r : Int32) (g : Nat → va_E) => ∃ (md' : Nat → Int), ∃ v : Int, r = iI v ∧ ((v = 1 ∧ MkP 8 (fun j => cv (6 * p0 + j)) (fun _ => 0) b md') ∨ (v = 0 ∧ False)) ∧ g = mw f [(m7, .inl (cs 1, 12, .inr (.inl (al (md')))))]) (K1 D vwCl (TY cs) (AL L sz) L) (AL L sz)) 0 0 (AL L sz) := by
  refine Met.ofW (cc := prog_9_method_37_code) (maxL := 10) (ret := (Option.some Jvm.ClassFile.FieldType.boolean)) (by decide) rfl ?_
  intro p e s m args below meth c s₁ Bd hml hv
  obtain ⟨rfl, hk0⟩ := hv
  obtain ⟨hsz, B⟩ := hk0.start
  subst hsz
  have hx := Bd.exec
  have hb := Bd.bytes
  have hr := Bd.returns
  have hlocks := Bd.notSynchronized
  have hts0 := atoms_spec Bd.pre
  have hown : s.vm.findClass RX7 = some m.cls := findClass_of_methodNamed Bd.named
  have hA : ∀ q, s.heap.size ≤ q → AL L s.heap.size q := fun _ h => Or.inr h
  have hl := lv_entry ([.ref y, .int (iI 8), .int (iI ((p0 : Int))), .int (iI b), .int (iI ((k0 : Int) - 1))]) (n := 10) (Nat.le_of_ble_eq_true rfl)
  rw [lg_entry_eq]
  generalize (lg_sl ([.ref y, .int (iI 8), .int (iI ((p0 : Int))), .int (iI b), .int (iI ((k0 : Int) - 1))]) ++ List.replicate (10 - (lg_sl ([.ref y, .int (iI 8), .int (iI ((p0 : Int))), .int (iI b), .int (iI ((k0 : Int) - 1))])).length) Slot.unset).toArray = ls at hl ⊢
  refine absQ (fun Q R av hQ hR hav => ?_)
  have hts : ∀ w ∈ gw, w.before av s = true := by rw [hav]; exact fun w h => hts0 w (List.mem_cons_of_mem _ h)
  have hRf : R.frames = 9 := by rw [hR]; rfl
  have hRl : R.locals = 320 := by rw [hR]; rfl
  have hRc : R.cells = 0 := by rw [hR]; rfl
  have hRs : R.slots = 0 := by rw [hR]; rfl
  clear hR hts0 Bd
  have hl : lv_has ls 10 [(0, .ref y), (1, .int (iI 8)), (2, .int (iI ((p0 : Int)))), (3, .int (iI b)), (4, .int (iI ((k0 : Int) - 1)))] := hl
  have hfx : ∀ q ∈ ([(y, .inr (7, [.int (iI th), .ref m1, .ref m2, .ref m3, .int (iI pn), .ref m5, .ref m6, .ref m7, .ref m8, .ref m9, .ref m10, .ref m11, .ref m12, .ref m13, .int (iI rw_), .ref m15, .long (lI fu), .long (lI fb)])), (m7, .inl (cs 1, 12, .inr (.inl (al md)))), (m5, .inl (cs 0, 72, .inl (ai cv)))] : List (Nat × va_E)), f q.1 = q.2 := fun q hq => by
    simp only [List.mem_cons, List.not_mem_nil, or_false] at hq
    rcases hq with rfl | rfl | rfl
    · exact ha
    · exact hm7
    · exact hm5
  have hmw : mw f [(y, .inr (7, [.int (iI th), .ref m1, .ref m2, .ref m3, .int (iI pn), .ref m5, .ref m6, .ref m7, .ref m8, .ref m9, .ref m10, .ref m11, .ref m12, .ref m13, .int (iI rw_), .ref m15, .long (lI fu), .long (lI fb)])), (m7, .inl (cs 1, 12, .inr (.inl (al md)))), (m5, .inl (cs 0, 72, .inl (ai cv)))] = f := mw_self (fun k a e hk => hfx (a, e) (List.mem_of_getElem? hk))
  have B := B.focus [(y, .inr (7, [.int (iI th), .ref m1, .ref m2, .ref m3, .int (iI pn), .ref m5, .ref m6, .ref m7, .ref m8, .ref m9, .ref m10, .ref m11, .ref m12, .ref m13, .int (iI rw_), .ref m15, .long (lI fu), .long (lI fb)])), (m7, .inl (cs 1, 12, .inr (.inl (al md)))), (m5, .inl (cs 0, 72, .inl (ai cv)))] hfx
  refine x_bipush hx hb d_Mo_making_0 (by decide) ?_
  refine lv_iload_n hx hb d_Mo_making_2 rfl (lv_at hl 2 rfl) ?_
  refine x_imul hx hb d_Mo_making_3 ?_
  refine lv_istore (lv' := [(5, .int (iI (6 * ((p0 : Int))))), (0, .ref y), (1, .int (iI 8)), (2, .int (iI ((p0 : Int)))), (3, .int (iI b)), (4, .int (iI ((k0 : Int) - 1)))]) hx hb d_Mo_making_4 hl (by decide) rfl (fun ls hl => ?_)
  refine x_bipush hx hb d_Mo_making_6 (by decide) ?_
  refine lv_iload_n hx hb d_Mo_making_8 rfl (lv_at hl 4 rfl) ?_
  refine x_imul hx hb d_Mo_making_9 ?_
  refine lv_istore (lv' := [(6, .int (iI (6 * b))), (5, .int (iI (6 * ((p0 : Int))))), (0, .ref y), (1, .int (iI 8)), (2, .int (iI ((p0 : Int)))), (3, .int (iI b)), (4, .int (iI ((k0 : Int) - 1)))]) hx hb d_Mo_making_10 hl (by decide) rfl (fun ls hl => ?_)
  refine lv_iload_n hx hb d_Mo_making_12 rfl (lv_at hl 3 rfl) ?_
  refine lv_tableIn (tgt := 447) hx hb d_Mo_making_13 (by decide +kernel) (by decide +kernel) (off := 434) (by decide +kernel) (by decide) ?_
  refine x_iconst hx hb d_Mo_making_447 ?_
  refine lv_istore (lv' := [(7, .int (iI 0)), (6, .int (iI (6 * b))), (5, .int (iI (6 * ((p0 : Int))))), (0, .ref y), (1, .int (iI 8)), (2, .int (iI ((p0 : Int)))), (3, .int (iI b)), (4, .int (iI ((k0 : Int) - 1)))]) hx hb d_Mo_making_448 hl (by decide) rfl (fun ls hl => ?_)
  have LP : ∀ (fuel : Nat) (k : Nat) (md2 : Nat → Int), k0 - k < fuel → (k ≤ k0) → (∀ j, j < k → md2 j = cv (6 * p0 + (k0 - 1 - j))) → (∀ j, k ≤ j → j < 12 → md2 j = 0) → ∀ (H : Heap) (locs : List Loc) (ls : Array Slot), Wb D vwCl (TY cs) L (mw f [(y, .inr (7, [.int (iI th), .ref m1, .ref m2, .ref m3, .int (iI pn), .ref m5, .ref m6, .ref m7, .ref m8, .ref m9, .ref m10, .ref m11, .ref m12, .ref m13, .int (iI rw_), .ref m15, .long (lI fu), .long (lI fb)])), (m7, .inl (cs 1, 12, .inr (.inl (al md2)))), (m5, .inl (cs 0, 72, .inl (ai cv)))]) (AL L s.heap.size) s H locs → lv_has ls 10 [(7, .int (iI ((k : Int)))), (6, .int (iI (6 * b))), (5, .int (iI (6 * (p0 : Int)))), (0, .ref y), (1, .int (iI 8)), (2, .int (iI ((p0 : Int)))), (3, .int (iI b)), (4, .int (iI ((k0 : Int) - 1)))] → W p l e R s m av below meth c H locs (0) (0) Q (F0 m 450 ls []) := by
    intro fuel
    induction fuel with
    | zero => intro k md2 hfu; exact absurd hfu (Nat.not_lt_zero _)
    | succ fuel ih_LP =>
      intro k md2 hfu_LP hk hI hJ H locs ls B hl
      refine lv_iload hx hb d_Mo_making_450 (lv_at hl 0 rfl) ?_
      refine lv_iload hx hb d_Mo_making_452 (lv_at hl 7 rfl) ?_
      refine x_icmp_gt (tgt := 484) hx hb d_Mo_making_454 (by decide) (by omega) (by omega) (fun h454 => ?_) (fun h454 => ?_)
      · refine x_iconst hx hb d_Mo_making_484 ?_
        subst hQ hav
        exact x_zret hx hb hr (by decide) hlocks B d_Mo_making_485 (⟨md2, 1, rfl, Or.inl ⟨rfl, ⟨(fun h9 => absurd h9 (by decide)), (fun h9 => absurd h9 (by decide)), (fun h9 => absurd h9 (by decide)), (fun h9 => absurd h9 (by decide)), (fun h9 => absurd h9 (by decide)), (fun h9 => absurd h9 (by decide)), (fun h9 => absurd h9 (by decide)), (fun h9 => absurd h9 (by decide)), (fun _ => fun j hj => by
          rw [dgn_eq (c := (fun j => cv (6 * p0 + j))) (k := k0) hkl 6 hk6 hz]
          split
          · exact hI j (by omega)
          · exact hJ j (by omega) (by omega)), (fun h9 => absurd h9 (by decide)), (fun _ => fun j h1 h2 => hJ j (by omega) h2)⟩⟩, Eq.trans (mw_drop (f := f) (X := [(m7, .inl (cs 1, 12, .inr (.inl (al md2)))), (m5, .inl (cs 0, 72, .inl (ai cv)))]) ha (List.nodup_cons.mp hF.1).1) (mw_tail (X := [(m7, .inl (cs 1, 12, .inr (.inl (al md2))))]) (Y := [(m5, .inl (cs 0, 72, .inl (ai cv)))]) (fun p hp => hfx p (List.mem_cons_of_mem _ (List.mem_cons_of_mem _ (hp)))))⟩)
      · have h9a := hcv (6 * p0 + (k0 - 1 - k)) (by omega)
        refine lv_aload_n hx hb d_Mo_making_457 rfl (lv_at hl 3 rfl) ?_
        refine x_get (C := RX7) (T := TX7) (N := 18) hx hb hts inX7 hown B hF 0 rfl rfl 7 (by decide) (hts _ w_684) (fun _ h9 => h9) rfl d_Mo_making_458 ?_
        refine lv_iload hx hb d_Mo_making_461 (lv_at hl 0 rfl) ?_
        refine lv_aload_n hx hb d_Mo_making_463 rfl (lv_at hl 3 rfl) ?_
        refine x_get (C := RX7) (T := TX7) (N := 18) hx hb hts inX7 hown B hF 0 rfl rfl 5 (by decide) (hts _ w_682) (fun _ h9 => h9) rfl d_Mo_making_464 ?_
        refine lv_iload hx hb d_Mo_making_467 (lv_at hl 2 rfl) ?_
        refine lv_iload hx hb d_Mo_making_469 (lv_at hl 7 rfl) ?_
        refine x_iadd hx hb d_Mo_making_471 ?_
        refine lv_iload hx hb d_Mo_making_472 (lv_at hl 0 rfl) ?_
        refine x_isub hx hb d_Mo_making_474 ?_
        refine x_iald hx hb B hF 2 0 rfl rfl (6 * p0 + (k0 - 1 - k)) (by omega) (by omega) (by decide) d_Mo_making_475 ?_
        refine x_i2l hx hb d_Mo_making_476 (by omega) ?_
        refine x_last hx hb B hF 1 1 rfl rfl k (by omega) (by omega) (by decide) d_Mo_making_477 (fun H locs B => ?_)
        have B : Wb D vwCl (TY cs) L (mw f [(y, .inr (7, [.int (iI th), .ref m1, .ref m2, .ref m3, .int (iI pn), .ref m5, .ref m6, .ref m7, .ref m8, .ref m9, .ref m10, .ref m11, .ref m12, .ref m13, .int (iI rw_), .ref m15, .long (lI fu), .long (lI fb)])), (m7, .inl (cs 1, 12, .inr (.inl (al (up md2 k (cv (6 * p0 + (k0 - 1 - k)))))))), (m5, .inl (cs 0, 72, .inl (ai cv)))]) (AL L s.heap.size) s H _ := B
        refine x_iinc (lv' := [(7, .int (iI (((k : Int)) + 1))), (6, .int (iI (6 * b))), (5, .int (iI (6 * (p0 : Int)))), (0, .ref y), (1, .int (iI 8)), (2, .int (iI ((p0 : Int)))), (3, .int (iI b)), (4, .int (iI ((k0 : Int) - 1)))]) hx hb d_Mo_making_478 hl (q := 0) rfl rfl (by decide) rfl (fun ls hl => ?_)
        refine lv_goto (tgt := 450) hx hb d_Mo_making_481 (by decide) ?_
        exact ih_LP (k + 1) (up md2 k (cv (6 * p0 + (k0 - 1 - k)))) (by omega) (by omega) (fun j hj => by
          by_cases hjk : j = k
          · rw [hjk, up_self]
          · rw [up_ne _ _ hjk]; exact hI j (by omega)) (fun j h1 h2 => by rw [up_ne _ _ (by omega)]; exact hJ j (by omega) h2) _ _ _ B (lv_sub hl [0, 1, 2, 3, 4, 5, 6, 7] rfl)
  exact LP _ 0 md (Nat.lt_succ_self _) (by omega) (fun j hj => by omega) (fun j _ hj => hmd j hj) _ _ _ B (lv_sub hl [0, 1, 2, 3, 4, 5, 6, 7] rfl)
set_option maxHeartbeats 8000000 in
set_option maxRecDepth 100000 in
theorem c_Mo_making_9 (l : Launch) (D : va_G) (cs : Nat → ClassId) (L : List Nat) (f : Nat → va_E) (sz : Nat) (y m1 m2 m3 m5 m6 m7 m8 m9 m10 m11 m12 m13 m15 : Nat) (th pn rw_ fu fb : Int) (md cv : Nat → Int) (p0 k0 : Nat) (b : Int) (hF : Fc L [y, m7, m5]) (ha : f y = .inr (7, [.int (iI th), .ref m1, .ref m2, .ref m3, .int (iI pn), .ref m5, .ref m6, .ref m7, .ref m8, .ref m9, .ref m10, .ref m11, .ref m12, .ref m13, .int (iI rw_), .ref m15, .long (lI fu), .long (lI fb)])) (hm7 : f m7 = .inl (cs 1, 12, .inr (.inl (al md)))) (hm5 : f m5 = .inl (cs 0, 72, .inl (ai cv))) (hp0 : p0 < 12) (hcv : ∀ j, j < 72 → -1000 ≤ cv j ∧ cv j ≤ 1000) (hmd : ∀ j, j < 12 → md j = 0) (hk6 : k0 ≤ 6) (hz : ∀ j, k0 ≤ j → j < 6 → cv (6 * p0 + j) = 0) (hkl : 0 < k0 → cv (6 * p0 + (k0 - 1)) ≠ 0) (hb0 : -1000 ≤ b ∧ b ≤ 1000) : Met l (⟨"RealRootsModel", "making", "(IIII)Z"⟩ : MethodName) (.code (⟨"RealRootsModel", "making", "(IIII)Z"⟩ : MethodName) prog_9_method_37_code 10 (Option.some Jvm.ClassFile.FieldType.boolean) :: gw) ({ frames := 9, cells := 0, slots := 0, locals := 320 }) (va_Pc [.ref y, .int (iI 9), .int (iI ((p0 : Int))), .int (iI b), .int (iI ((k0 : Int) - 1))] (K0 D vwCl (TY cs) L f sz)) (va_Qi (fun (r : Int32) (g : Nat → va_E) => ∃ (md' : Nat → Int), ∃ v : Int, r = iI v ∧ ((v = 1 ∧ MkP 9 (fun j => cv (6 * p0 + j)) (fun _ => 0) b md') ∨ (v = 0 ∧ False)) ∧ g = mw f [(m7, .inl (cs 1, 12, .inr (.inl (al (md')))))]) (K1 D vwCl (TY cs) (AL L sz) L) (AL L sz)) 0 0 (AL L sz) := by
  refine Met.ofW (cc := prog_9_method_37_code) (maxL := 10) (ret := (Option.some Jvm.ClassFile.FieldType.boolean)) (by decide) rfl ?_
  intro p e s m args below meth c s₁ Bd hml hv
  obtain ⟨rfl, hk0⟩ := hv
  obtain ⟨hsz, B⟩ := hk0.start
  subst hsz
  have hx := Bd.exec
  have hb := Bd.bytes
  have hr := Bd.returns
  have hlocks := Bd.notSynchronized
  have hts0 := atoms_spec Bd.pre
  have hown : s.vm.findClass RX7 = some m.cls := findClass_of_methodNamed Bd.named
  have hA : ∀ q, s.heap.size ≤ q → AL L s.heap.size q := fun _ h => Or.inr h
  have hl := lv_entry ([.ref y, .int (iI 9), .int (iI ((p0 : Int))), .int (iI b), .int (iI ((k0 : Int) - 1))]) (n := 10) (Nat.le_of_ble_eq_true rfl)
  rw [lg_entry_eq]
  generalize (lg_sl ([.ref y, .int (iI 9), .int (iI ((p0 : Int))), .int (iI b), .int (iI ((k0 : Int) - 1))]) ++ List.replicate (10 - (lg_sl ([.ref y, .int (iI 9), .int (iI ((p0 : Int))), .int (iI b), .int (iI ((k0 : Int) - 1))])).length) Slot.unset).toArray = ls at hl ⊢
  refine absQ (fun Q R av hQ hR hav => ?_)
  have hts : ∀ w ∈ gw, w.before av s = true := by rw [hav]; exact fun w h => hts0 w (List.mem_cons_of_mem _ h)
  have hRf : R.frames = 9 := by rw [hR]; rfl
  have hRl : R.locals = 320 := by rw [hR]; rfl
  have hRc : R.cells = 0 := by rw [hR]; rfl
  have hRs : R.slots = 0 := by rw [hR]; rfl
  clear hR hts0 Bd
  have hl : lv_has ls 10 [(0, .ref y), (1, .int (iI 9)), (2, .int (iI ((p0 : Int)))), (3, .int (iI b)), (4, .int (iI ((k0 : Int) - 1)))] := hl
  have hfx : ∀ q ∈ ([(y, .inr (7, [.int (iI th), .ref m1, .ref m2, .ref m3, .int (iI pn), .ref m5, .ref m6, .ref m7, .ref m8, .ref m9, .ref m10, .ref m11, .ref m12, .ref m13, .int (iI rw_), .ref m15, .long (lI fu), .long (lI fb)])), (m7, .inl (cs 1, 12, .inr (.inl (al md)))), (m5, .inl (cs 0, 72, .inl (ai cv)))] : List (Nat × va_E)), f q.1 = q.2 := fun q hq => by
    simp only [List.mem_cons, List.not_mem_nil, or_false] at hq
    rcases hq with rfl | rfl | rfl
    · exact ha
    · exact hm7
    · exact hm5
  have hmw : mw f [(y, .inr (7, [.int (iI th), .ref m1, .ref m2, .ref m3, .int (iI pn), .ref m5, .ref m6, .ref m7, .ref m8, .ref m9, .ref m10, .ref m11, .ref m12, .ref m13, .int (iI rw_), .ref m15, .long (lI fu), .long (lI fb)])), (m7, .inl (cs 1, 12, .inr (.inl (al md)))), (m5, .inl (cs 0, 72, .inl (ai cv)))] = f := mw_self (fun k a e hk => hfx (a, e) (List.mem_of_getElem? hk))
  have B := B.focus [(y, .inr (7, [.int (iI th), .ref m1, .ref m2, .ref m3, .int (iI pn), .ref m5, .ref m6, .ref m7, .ref m8, .ref m9, .ref m10, .ref m11, .ref m12, .ref m13, .int (iI rw_), .ref m15, .long (lI fu), .long (lI fb)])), (m7, .inl (cs 1, 12, .inr (.inl (al md)))), (m5, .inl (cs 0, 72, .inl (ai cv)))] hfx
  refine x_bipush hx hb d_Mo_making_0 (by decide) ?_
  refine lv_iload_n hx hb d_Mo_making_2 rfl (lv_at hl 2 rfl) ?_
  refine x_imul hx hb d_Mo_making_3 ?_
  refine lv_istore (lv' := [(5, .int (iI (6 * ((p0 : Int))))), (0, .ref y), (1, .int (iI 9)), (2, .int (iI ((p0 : Int)))), (3, .int (iI b)), (4, .int (iI ((k0 : Int) - 1)))]) hx hb d_Mo_making_4 hl (by decide) rfl (fun ls hl => ?_)
  refine x_bipush hx hb d_Mo_making_6 (by decide) ?_
  refine lv_iload_n hx hb d_Mo_making_8 rfl (lv_at hl 4 rfl) ?_
  refine x_imul hx hb d_Mo_making_9 ?_
  refine lv_istore (lv' := [(6, .int (iI (6 * b))), (5, .int (iI (6 * ((p0 : Int))))), (0, .ref y), (1, .int (iI 9)), (2, .int (iI ((p0 : Int)))), (3, .int (iI b)), (4, .int (iI ((k0 : Int) - 1)))]) hx hb d_Mo_making_10 hl (by decide) rfl (fun ls hl => ?_)
  refine lv_iload_n hx hb d_Mo_making_12 rfl (lv_at hl 3 rfl) ?_
  refine lv_tableOut (tgt := 486) hx hb d_Mo_making_13 (Or.inr (by decide +kernel)) (by decide) ?_
  refine x_lconst (z := 1) hx hb d_Mo_making_486 (by decide) ?_
  refine lv_lstore (lv' := [(7, .long (lI 1)), (6, .int (iI (6 * b))), (5, .int (iI (6 * ((p0 : Int))))), (0, .ref y), (1, .int (iI 9)), (2, .int (iI ((p0 : Int)))), (3, .int (iI b)), (4, .int (iI ((k0 : Int) - 1)))]) hx hb d_Mo_making_487 hl (by decide) rfl (fun ls hl => ?_)
  refine x_iconst hx hb d_Mo_making_489 ?_
  refine lv_istore (lv' := [(9, .int (iI 0)), (7, .long (lI 1)), (6, .int (iI (6 * b))), (5, .int (iI (6 * ((p0 : Int))))), (0, .ref y), (1, .int (iI 9)), (2, .int (iI ((p0 : Int)))), (3, .int (iI b)), (4, .int (iI ((k0 : Int) - 1)))]) hx hb d_Mo_making_490 hl (by decide) rfl (fun ls hl => ?_)
  have LP : ∀ (fuel : Nat) (k : Nat) (tt : Int) (md2 : Nat → Int), 6 - k < fuel → (k ≤ 6) → (k < 6 → tt = b ^ k) → (∀ j, j < k → md2 j = cv (6 * p0 + j) * b ^ j) → (∀ j, k ≤ j → j < 12 → md2 j = 0) → ∀ (H : Heap) (locs : List Loc) (ls : Array Slot), Wb D vwCl (TY cs) L (mw f [(y, .inr (7, [.int (iI th), .ref m1, .ref m2, .ref m3, .int (iI pn), .ref m5, .ref m6, .ref m7, .ref m8, .ref m9, .ref m10, .ref m11, .ref m12, .ref m13, .int (iI rw_), .ref m15, .long (lI fu), .long (lI fb)])), (m7, .inl (cs 1, 12, .inr (.inl (al md2)))), (m5, .inl (cs 0, 72, .inl (ai cv)))]) (AL L s.heap.size) s H locs → lv_has ls 10 [(9, .int (iI ((k : Int)))), (7, .long (lI tt)), (6, .int (iI (6 * b))), (5, .int (iI (6 * (p0 : Int)))), (0, .ref y), (1, .int (iI 9)), (2, .int (iI ((p0 : Int)))), (3, .int (iI b)), (4, .int (iI ((k0 : Int) - 1)))] → W p l e R s m av below meth c H locs (0) (0) Q (F0 m 492 ls []) := by
    intro fuel
    induction fuel with
    | zero => intro k tt md2 hfu; exact absurd hfu (Nat.not_lt_zero _)
    | succ fuel ih_LP =>
      intro k tt md2 hfu_LP hk htt hI hJ H locs ls B hl
      refine lv_iload hx hb d_Mo_making_492 (lv_at hl 0 rfl) ?_
      refine x_bipush hx hb d_Mo_making_494 (by decide) ?_
      refine x_icmp_ge (tgt := 544) hx hb d_Mo_making_496 (by decide) (by omega) (by omega) (fun h496 => ?_) (fun h496 => ?_)
      · refine x_iconst hx hb d_Mo_making_544 ?_
        subst hQ hav
        exact x_zret hx hb hr (by decide) hlocks B d_Mo_making_545 (⟨md2, 1, rfl, Or.inl ⟨rfl, ⟨(fun h9 => absurd h9 (by decide)), (fun h9 => absurd h9 (by decide)), (fun h9 => absurd h9 (by decide)), (fun h9 => absurd h9 (by decide)), (fun h9 => absurd h9 (by decide)), (fun h9 => absurd h9 (by decide)), (fun h9 => absurd h9 (by decide)), (fun h9 => absurd h9 (by decide)), (fun h9 => absurd h9 (by decide)), (fun _ => fun j hj => hI j (by omega)), (fun _ => fun j h1 h2 => hJ j (by omega) h2)⟩⟩, Eq.trans (mw_drop (f := f) (X := [(m7, .inl (cs 1, 12, .inr (.inl (al md2)))), (m5, .inl (cs 0, 72, .inl (ai cv)))]) ha (List.nodup_cons.mp hF.1).1) (mw_tail (X := [(m7, .inl (cs 1, 12, .inr (.inl (al md2))))]) (Y := [(m5, .inl (cs 0, 72, .inl (ai cv)))]) (fun p hp => hfx p (List.mem_cons_of_mem _ (List.mem_cons_of_mem _ (hp)))))⟩)
      · have h9a := hcv (6 * p0 + k) (by omega)
        refine lv_aload_n hx hb d_Mo_making_499 rfl (lv_at hl 4 rfl) ?_
        refine x_get (C := RX7) (T := TX7) (N := 18) hx hb hts inX7 hown B hF 0 rfl rfl 7 (by decide) (hts _ w_684) (fun _ h9 => h9) rfl d_Mo_making_500 ?_
        refine lv_iload hx hb d_Mo_making_503 (lv_at hl 0 rfl) ?_
        refine lv_aload_n hx hb d_Mo_making_505 rfl (lv_at hl 4 rfl) ?_
        refine x_get (C := RX7) (T := TX7) (N := 18) hx hb hts inX7 hown B hF 0 rfl rfl 5 (by decide) (hts _ w_682) (fun _ h9 => h9) rfl d_Mo_making_506 ?_
        refine lv_iload hx hb d_Mo_making_509 (lv_at hl 3 rfl) ?_
        refine lv_iload hx hb d_Mo_making_511 (lv_at hl 0 rfl) ?_
        refine x_iadd hx hb d_Mo_making_513 ?_
        refine x_iald hx hb B hF 2 0 rfl rfl (6 * p0 + k) (by omega) (by omega) (by decide) d_Mo_making_514 ?_
        refine x_i2l hx hb d_Mo_making_515 (by omega) ?_
        refine lv_lload hx hb d_Mo_making_516 (lv_at hl 1 rfl) ?_
        refine x_lmul hx hb d_Mo_making_518 ?_
        refine x_last hx hb B hF 1 1 rfl rfl k (by omega) (by omega) (by decide) d_Mo_making_519 (fun H locs B => ?_)
        have B : Wb D vwCl (TY cs) L (mw f [(y, .inr (7, [.int (iI th), .ref m1, .ref m2, .ref m3, .int (iI pn), .ref m5, .ref m6, .ref m7, .ref m8, .ref m9, .ref m10, .ref m11, .ref m12, .ref m13, .int (iI rw_), .ref m15, .long (lI fu), .long (lI fb)])), (m7, .inl (cs 1, 12, .inr (.inl (al (up md2 k ((cv (6 * p0 + k)) * tt)))))), (m5, .inl (cs 0, 72, .inl (ai cv)))]) (AL L s.heap.size) s H _ := B
        refine lv_iload hx hb d_Mo_making_520 (lv_at hl 0 rfl) ?_
        refine x_iconst hx hb d_Mo_making_522 ?_
        refine x_icmp_ge (tgt := 534) hx hb d_Mo_making_523 (by decide) (by omega) (by omega) (fun h523 => ?_) (fun h523 => ?_)
        · refine lv_lload hx hb d_Mo_making_534 (lv_at hl 1 rfl) ?_
          refine lv_lstore (lv' := [(7, .long (lI tt)), (9, .int (iI ((k : Int)))), (6, .int (iI (6 * b))), (5, .int (iI (6 * (p0 : Int)))), (0, .ref y), (1, .int (iI 9)), (2, .int (iI ((p0 : Int)))), (3, .int (iI b)), (4, .int (iI ((k0 : Int) - 1)))]) hx hb d_Mo_making_536 hl (by decide) rfl (fun ls hl => ?_)
          refine x_iinc (lv' := [(9, .int (iI (((k : Int)) + 1))), (7, .long (lI tt)), (6, .int (iI (6 * b))), (5, .int (iI (6 * (p0 : Int)))), (0, .ref y), (1, .int (iI 9)), (2, .int (iI ((p0 : Int)))), (3, .int (iI b)), (4, .int (iI ((k0 : Int) - 1)))]) hx hb d_Mo_making_538 hl (q := 1) rfl rfl (by decide) rfl (fun ls hl => ?_)
          refine lv_goto (tgt := 492) hx hb d_Mo_making_541 (by decide) ?_
          exact ih_LP (k + 1) tt (up md2 k ((cv (6 * p0 + k)) * tt)) (by omega) (by omega) (fun h9 => by first | (exfalso; omega) | (rw [Int.pow_succ, htt (by omega)])) (fun j hj => by
          by_cases hjk : j = k
          · rw [hjk, up_self]; rw [htt (by omega)]
          · rw [up_ne _ _ hjk]; exact hI j (by omega)) (fun j h1 h2 => by rw [up_ne _ _ (by omega)]; exact hJ j (by omega) h2) _ _ _ B (lv_sub hl [0, 1, 2, 3, 4, 5, 6, 7, 8] rfl)
        · refine lv_lload hx hb d_Mo_making_526 (lv_at hl 1 rfl) ?_
          refine lv_iload_n hx hb d_Mo_making_528 rfl (lv_at hl 7 rfl) ?_
          refine x_i2l hx hb d_Mo_making_529 (by omega) ?_
          refine x_lmul hx hb d_Mo_making_530 ?_
          refine lv_goto (tgt := 536) hx hb d_Mo_making_531 (by decide) ?_
          refine lv_lstore (lv' := [(7, .long (lI (tt * b))), (9, .int (iI ((k : Int)))), (6, .int (iI (6 * b))), (5, .int (iI (6 * (p0 : Int)))), (0, .ref y), (1, .int (iI 9)), (2, .int (iI ((p0 : Int)))), (3, .int (iI b)), (4, .int (iI ((k0 : Int) - 1)))]) hx hb d_Mo_making_536 hl (by decide) rfl (fun ls hl => ?_)
          refine x_iinc (lv' := [(9, .int (iI (((k : Int)) + 1))), (7, .long (lI (tt * b))), (6, .int (iI (6 * b))), (5, .int (iI (6 * (p0 : Int)))), (0, .ref y), (1, .int (iI 9)), (2, .int (iI ((p0 : Int)))), (3, .int (iI b)), (4, .int (iI ((k0 : Int) - 1)))]) hx hb d_Mo_making_538 hl (q := 1) rfl rfl (by decide) rfl (fun ls hl => ?_)
          refine lv_goto (tgt := 492) hx hb d_Mo_making_541 (by decide) ?_
          exact ih_LP (k + 1) (tt * b) (up md2 k ((cv (6 * p0 + k)) * tt)) (by omega) (by omega) (fun h9 => by first | (exfalso; omega) | (rw [Int.pow_succ, htt (by omega)])) (fun j hj => by
          by_cases hjk : j = k
          · rw [hjk, up_self]; rw [htt (by omega)]
          · rw [up_ne _ _ hjk]; exact hI j (by omega)) (fun j h1 h2 => by rw [up_ne _ _ (by omega)]; exact hJ j (by omega) h2) _ _ _ B (lv_sub hl [0, 1, 2, 3, 4, 5, 6, 7, 8] rfl)
  exact LP _ 0 1 md (Nat.lt_succ_self _) (by omega) (fun _ => by rw [Int.pow_zero]) (fun j hj => by omega) (fun j _ hj => hmd j hj) _ _ _ B (lv_sub hl [0, 1, 2, 3, 4, 5, 6, 7, 8] rfl)
