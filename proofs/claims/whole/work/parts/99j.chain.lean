theorem Rem.cgr {P q R R' : Nat → Int} (h : Rem P q R) (hh : ∀ j, j < 6 → R' j = R j) : Rem P q R' := by
  obtain ⟨la, Q, hla, h⟩ := h
  exact ⟨la, Q, hla, fun x => by rw [es_congr hh x]; exact h x⟩
theorem TopT.fin {P P' : Nat → Int} {k : Nat} {T : Int} (h : TopT P k T) (hk : k ≤ 6) (h1 : ∀ j, j < k → P' j = P j) (h2 : ∀ j, k ≤ j → j < 6 → P' j = 0) : TopT P' 6 T := by
  rcases h with ⟨h3, h4⟩ | ⟨t, h3, h4, h5, h6⟩
  · exact Or.inl ⟨h3, fun j hj => by
      by_cases h : j < k
      · rw [h1 j h]; exact h4 j h
      · exact h2 j (by omega) hj⟩
  · exact Or.inr ⟨t, by omega, h4, by rw [h1 t h3]; exact h5, fun j h7 h8 => by
      by_cases h : j < k
      · rw [h1 j h]; exact h6 j h7 h
      · exact h2 j (by omega) h8⟩
theorem TopT.nx {P P' : Nat → Int} {k : Nat} {T : Int} (h : TopT P k T) (hk : P k = 0) : TopT P (k + 1) T := h.next hk
theorem sign_rng (z : Int) : -1 ≤ z.sign ∧ z.sign ≤ 1 := by rcases sign_cases z with h | h | h <;> rw [h] <;> decide
theorem sign_zr {z : Int} (h : z.sign = 0) : z = 0 := Int.sign_eq_zero_iff_zero.mp h
theorem sign_nz {z : Int} (h : z ≠ 0) : z.sign = 1 ∨ z.sign = -1 := by
  rcases sign_cases z with h1 | h1 | h1
  · exact Or.inl h1
  · exact Or.inr h1
  · exact absurd (sign_zr h1) h
theorem sign_mrng (a b : Int) : -1 ≤ a.sign * b.sign ∧ a.sign * b.sign ≤ 1 := by rcases sign_cases a with h | h | h <;> rcases sign_cases b with h2 | h2 | h2 <;> rw [h, h2] <;> decide
theorem d_Chain_divide_0 : decode prog_3_method_3_code 0 = .ok (.aload_n 0, 1) := by decide +kernel
theorem d_Chain_divide_1 : decode prog_3_method_3_code 1 = .ok (.getfield 21, 3) := by decide +kernel
theorem d_Chain_divide_4 : decode prog_3_method_3_code 4 = .ok (.iconst 1, 1) := by decide +kernel
theorem d_Chain_divide_5 : decode prog_3_method_3_code 5 = .ok (.isub, 1) := by decide +kernel
theorem d_Chain_divide_6 : decode prog_3_method_3_code 6 = .ok (.bipush 6, 2) := by decide +kernel
theorem d_Chain_divide_8 : decode prog_3_method_3_code 8 = .ok (.imul, 1) := by decide +kernel
theorem d_Chain_divide_9 : decode prog_3_method_3_code 9 = .ok (.istore_n 1, 1) := by decide +kernel
theorem d_Chain_divide_10 : decode prog_3_method_3_code 10 = .ok (.aload_n 0, 1) := by decide +kernel
theorem d_Chain_divide_11 : decode prog_3_method_3_code 11 = .ok (.getfield 21, 3) := by decide +kernel
theorem d_Chain_divide_14 : decode prog_3_method_3_code 14 = .ok (.bipush 6, 2) := by decide +kernel
theorem d_Chain_divide_16 : decode prog_3_method_3_code 16 = .ok (.imul, 1) := by decide +kernel
theorem d_Chain_divide_17 : decode prog_3_method_3_code 17 = .ok (.istore_n 2, 1) := by decide +kernel
theorem d_Chain_divide_18 : decode prog_3_method_3_code 18 = .ok (.aload_n 0, 1) := by decide +kernel
theorem d_Chain_divide_19 : decode prog_3_method_3_code 19 = .ok (.getfield 17, 3) := by decide +kernel
theorem d_Chain_divide_22 : decode prog_3_method_3_code 22 = .ok (.aload_n 0, 1) := by decide +kernel
theorem d_Chain_divide_23 : decode prog_3_method_3_code 23 = .ok (.getfield 21, 3) := by decide +kernel
theorem d_Chain_divide_26 : decode prog_3_method_3_code 26 = .ok (.iconst 1, 1) := by decide +kernel
theorem d_Chain_divide_27 : decode prog_3_method_3_code 27 = .ok (.isub, 1) := by decide +kernel
theorem d_Chain_divide_28 : decode prog_3_method_3_code 28 = .ok (.iaload, 1) := by decide +kernel
theorem d_Chain_divide_29 : decode prog_3_method_3_code 29 = .ok (.istore_n 3, 1) := by decide +kernel
theorem d_Chain_divide_30 : decode prog_3_method_3_code 30 = .ok (.iconst 0, 1) := by decide +kernel
theorem d_Chain_divide_31 : decode prog_3_method_3_code 31 = .ok (.istore 4, 2) := by decide +kernel
theorem d_Chain_divide_33 : decode prog_3_method_3_code 33 = .ok (.iload 4, 2) := by decide +kernel
theorem d_Chain_divide_35 : decode prog_3_method_3_code 35 = .ok (.bipush 6, 2) := by decide +kernel
theorem d_Chain_divide_37 : decode prog_3_method_3_code 37 = .ok (.if_icmp .ge 33, 3) := by decide +kernel
theorem d_Chain_divide_40 : decode prog_3_method_3_code 40 = .ok (.aload_n 0, 1) := by decide +kernel
theorem d_Chain_divide_41 : decode prog_3_method_3_code 41 = .ok (.getfield 13, 3) := by decide +kernel
theorem d_Chain_divide_44 : decode prog_3_method_3_code 44 = .ok (.iload_n 2, 1) := by decide +kernel
theorem d_Chain_divide_45 : decode prog_3_method_3_code 45 = .ok (.iload 4, 2) := by decide +kernel
theorem d_Chain_divide_47 : decode prog_3_method_3_code 47 = .ok (.iadd, 1) := by decide +kernel
theorem d_Chain_divide_48 : decode prog_3_method_3_code 48 = .ok (.aaload, 1) := by decide +kernel
theorem d_Chain_divide_49 : decode prog_3_method_3_code 49 = .ok (.aload_n 0, 1) := by decide +kernel
theorem d_Chain_divide_50 : decode prog_3_method_3_code 50 = .ok (.getfield 13, 3) := by decide +kernel
theorem d_Chain_divide_53 : decode prog_3_method_3_code 53 = .ok (.iload_n 1, 1) := by decide +kernel
theorem d_Chain_divide_54 : decode prog_3_method_3_code 54 = .ok (.bipush 6, 2) := by decide +kernel
theorem d_Chain_divide_56 : decode prog_3_method_3_code 56 = .ok (.isub, 1) := by decide +kernel
theorem d_Chain_divide_57 : decode prog_3_method_3_code 57 = .ok (.iload 4, 2) := by decide +kernel
theorem d_Chain_divide_59 : decode prog_3_method_3_code 59 = .ok (.iadd, 1) := by decide +kernel
theorem d_Chain_divide_60 : decode prog_3_method_3_code 60 = .ok (.aaload, 1) := by decide +kernel
theorem d_Chain_divide_61 : decode prog_3_method_3_code 61 = .ok (.invokevirtual 50, 3) := by decide +kernel
theorem d_Chain_divide_64 : decode prog_3_method_3_code 64 = .ok (.iinc 4 1, 3) := by decide +kernel
theorem d_Chain_divide_67 : decode prog_3_method_3_code 67 = .ok (.goto (-34), 3) := by decide +kernel
theorem d_Chain_divide_70 : decode prog_3_method_3_code 70 = .ok (.aload_n 0, 1) := by decide +kernel
theorem d_Chain_divide_71 : decode prog_3_method_3_code 71 = .ok (.getfield 13, 3) := by decide +kernel
theorem d_Chain_divide_74 : decode prog_3_method_3_code 74 = .ok (.iload_n 1, 1) := by decide +kernel
theorem d_Chain_divide_75 : decode prog_3_method_3_code 75 = .ok (.iload_n 3, 1) := by decide +kernel
theorem d_Chain_divide_76 : decode prog_3_method_3_code 76 = .ok (.iadd, 1) := by decide +kernel
theorem d_Chain_divide_77 : decode prog_3_method_3_code 77 = .ok (.aaload, 1) := by decide +kernel
theorem d_Chain_divide_78 : decode prog_3_method_3_code 78 = .ok (.astore 4, 2) := by decide +kernel
theorem d_Chain_divide_80 : decode prog_3_method_3_code 80 = .ok (.aload_n 0, 1) := by decide +kernel
theorem d_Chain_divide_81 : decode prog_3_method_3_code 81 = .ok (.getfield 17, 3) := by decide +kernel
theorem d_Chain_divide_84 : decode prog_3_method_3_code 84 = .ok (.aload_n 0, 1) := by decide +kernel
theorem d_Chain_divide_85 : decode prog_3_method_3_code 85 = .ok (.getfield 21, 3) := by decide +kernel
theorem d_Chain_divide_88 : decode prog_3_method_3_code 88 = .ok (.iconst 2, 1) := by decide +kernel
theorem d_Chain_divide_89 : decode prog_3_method_3_code 89 = .ok (.isub, 1) := by decide +kernel
theorem d_Chain_divide_90 : decode prog_3_method_3_code 90 = .ok (.iaload, 1) := by decide +kernel
theorem d_Chain_divide_91 : decode prog_3_method_3_code 91 = .ok (.istore 5, 2) := by decide +kernel
theorem d_Chain_divide_93 : decode prog_3_method_3_code 93 = .ok (.iload 5, 2) := by decide +kernel
theorem d_Chain_divide_95 : decode prog_3_method_3_code 95 = .ok (.iload_n 3, 1) := by decide +kernel
theorem d_Chain_divide_96 : decode prog_3_method_3_code 96 = .ok (.if_icmp .lt 159, 3) := by decide +kernel
theorem d_Chain_divide_99 : decode prog_3_method_3_code 99 = .ok (.aload_n 0, 1) := by decide +kernel
theorem d_Chain_divide_100 : decode prog_3_method_3_code 100 = .ok (.getfield 13, 3) := by decide +kernel
theorem d_Chain_divide_103 : decode prog_3_method_3_code 103 = .ok (.iload_n 2, 1) := by decide +kernel
theorem d_Chain_divide_104 : decode prog_3_method_3_code 104 = .ok (.iload 5, 2) := by decide +kernel
theorem d_Chain_divide_106 : decode prog_3_method_3_code 106 = .ok (.iadd, 1) := by decide +kernel
theorem d_Chain_divide_107 : decode prog_3_method_3_code 107 = .ok (.aaload, 1) := by decide +kernel
theorem d_Chain_divide_108 : decode prog_3_method_3_code 108 = .ok (.astore 6, 2) := by decide +kernel
theorem d_Chain_divide_110 : decode prog_3_method_3_code 110 = .ok (.iconst 0, 1) := by decide +kernel
theorem d_Chain_divide_111 : decode prog_3_method_3_code 111 = .ok (.istore 7, 2) := by decide +kernel
theorem d_Chain_divide_113 : decode prog_3_method_3_code 113 = .ok (.iload 7, 2) := by decide +kernel
theorem d_Chain_divide_115 : decode prog_3_method_3_code 115 = .ok (.iload 5, 2) := by decide +kernel
theorem d_Chain_divide_117 : decode prog_3_method_3_code 117 = .ok (.if_icmp .ge 126, 3) := by decide +kernel
theorem d_Chain_divide_120 : decode prog_3_method_3_code 120 = .ok (.aload 6, 2) := by decide +kernel
theorem d_Chain_divide_122 : decode prog_3_method_3_code 122 = .ok (.getfield 54, 3) := by decide +kernel
theorem d_Chain_divide_125 : decode prog_3_method_3_code 125 = .ok (.ifCond .eq 118, 3) := by decide +kernel
theorem d_Chain_divide_128 : decode prog_3_method_3_code 128 = .ok (.aload_n 0, 1) := by decide +kernel
theorem d_Chain_divide_129 : decode prog_3_method_3_code 129 = .ok (.getfield 32, 3) := by decide +kernel
theorem d_Chain_divide_132 : decode prog_3_method_3_code 132 = .ok (.aload 4, 2) := by decide +kernel
theorem d_Chain_divide_134 : decode prog_3_method_3_code 134 = .ok (.aload_n 0, 1) := by decide +kernel
theorem d_Chain_divide_135 : decode prog_3_method_3_code 135 = .ok (.getfield 13, 3) := by decide +kernel
theorem d_Chain_divide_138 : decode prog_3_method_3_code 138 = .ok (.iload_n 2, 1) := by decide +kernel
theorem d_Chain_divide_139 : decode prog_3_method_3_code 139 = .ok (.iload 7, 2) := by decide +kernel
theorem d_Chain_divide_141 : decode prog_3_method_3_code 141 = .ok (.iadd, 1) := by decide +kernel
theorem d_Chain_divide_142 : decode prog_3_method_3_code 142 = .ok (.aaload, 1) := by decide +kernel
theorem d_Chain_divide_143 : decode prog_3_method_3_code 143 = .ok (.invokevirtual 57, 3) := by decide +kernel
theorem d_Chain_divide_146 : decode prog_3_method_3_code 146 = .ok (.iload 7, 2) := by decide +kernel
theorem d_Chain_divide_148 : decode prog_3_method_3_code 148 = .ok (.iload_n 3, 1) := by decide +kernel
theorem d_Chain_divide_149 : decode prog_3_method_3_code 149 = .ok (.iadd, 1) := by decide +kernel
theorem d_Chain_divide_150 : decode prog_3_method_3_code 150 = .ok (.iload 5, 2) := by decide +kernel
theorem d_Chain_divide_152 : decode prog_3_method_3_code 152 = .ok (.if_icmp .lt 38, 3) := by decide +kernel
theorem d_Chain_divide_155 : decode prog_3_method_3_code 155 = .ok (.aload_n 0, 1) := by decide +kernel
theorem d_Chain_divide_156 : decode prog_3_method_3_code 156 = .ok (.getfield 36, 3) := by decide +kernel
theorem d_Chain_divide_159 : decode prog_3_method_3_code 159 = .ok (.aload 6, 2) := by decide +kernel
theorem d_Chain_divide_161 : decode prog_3_method_3_code 161 = .ok (.aload_n 0, 1) := by decide +kernel
theorem d_Chain_divide_162 : decode prog_3_method_3_code 162 = .ok (.getfield 13, 3) := by decide +kernel
theorem d_Chain_divide_165 : decode prog_3_method_3_code 165 = .ok (.iload_n 1, 1) := by decide +kernel
theorem d_Chain_divide_166 : decode prog_3_method_3_code 166 = .ok (.iload 7, 2) := by decide +kernel
theorem d_Chain_divide_168 : decode prog_3_method_3_code 168 = .ok (.iadd, 1) := by decide +kernel
theorem d_Chain_divide_169 : decode prog_3_method_3_code 169 = .ok (.iload_n 3, 1) := by decide +kernel
theorem d_Chain_divide_170 : decode prog_3_method_3_code 170 = .ok (.iadd, 1) := by decide +kernel
theorem d_Chain_divide_171 : decode prog_3_method_3_code 171 = .ok (.iload 5, 2) := by decide +kernel
theorem d_Chain_divide_173 : decode prog_3_method_3_code 173 = .ok (.isub, 1) := by decide +kernel
theorem d_Chain_divide_174 : decode prog_3_method_3_code 174 = .ok (.aaload, 1) := by decide +kernel
theorem d_Chain_divide_175 : decode prog_3_method_3_code 175 = .ok (.invokevirtual 57, 3) := by decide +kernel
theorem d_Chain_divide_178 : decode prog_3_method_3_code 178 = .ok (.aload_n 0, 1) := by decide +kernel
theorem d_Chain_divide_179 : decode prog_3_method_3_code 179 = .ok (.getfield 32, 3) := by decide +kernel
theorem d_Chain_divide_182 : decode prog_3_method_3_code 182 = .ok (.aload_n 0, 1) := by decide +kernel
theorem d_Chain_divide_183 : decode prog_3_method_3_code 183 = .ok (.getfield 36, 3) := by decide +kernel
theorem d_Chain_divide_186 : decode prog_3_method_3_code 186 = .ok (.iconst (-1), 1) := by decide +kernel
theorem d_Chain_divide_187 : decode prog_3_method_3_code 187 = .ok (.invokevirtual 61, 3) := by decide +kernel
theorem d_Chain_divide_190 : decode prog_3_method_3_code 190 = .ok (.aload_n 0, 1) := by decide +kernel
theorem d_Chain_divide_191 : decode prog_3_method_3_code 191 = .ok (.getfield 32, 3) := by decide +kernel
theorem d_Chain_divide_194 : decode prog_3_method_3_code 194 = .ok (.dup, 1) := by decide +kernel
theorem d_Chain_divide_195 : decode prog_3_method_3_code 195 = .ok (.getfield 54, 3) := by decide +kernel
theorem d_Chain_divide_198 : decode prog_3_method_3_code 198 = .ok (.aload 4, 2) := by decide +kernel
theorem d_Chain_divide_200 : decode prog_3_method_3_code 200 = .ok (.getfield 54, 3) := by decide +kernel
theorem d_Chain_divide_203 : decode prog_3_method_3_code 203 = .ok (.imul, 1) := by decide +kernel
theorem d_Chain_divide_204 : decode prog_3_method_3_code 204 = .ok (.putfield 54, 3) := by decide +kernel
theorem d_Chain_divide_207 : decode prog_3_method_3_code 207 = .ok (.aload_n 0, 1) := by decide +kernel
theorem d_Chain_divide_208 : decode prog_3_method_3_code 208 = .ok (.getfield 13, 3) := by decide +kernel
theorem d_Chain_divide_211 : decode prog_3_method_3_code 211 = .ok (.iload_n 2, 1) := by decide +kernel
theorem d_Chain_divide_212 : decode prog_3_method_3_code 212 = .ok (.iload 7, 2) := by decide +kernel
theorem d_Chain_divide_214 : decode prog_3_method_3_code 214 = .ok (.iadd, 1) := by decide +kernel
theorem d_Chain_divide_215 : decode prog_3_method_3_code 215 = .ok (.aaload, 1) := by decide +kernel
theorem d_Chain_divide_216 : decode prog_3_method_3_code 216 = .ok (.astore 8, 2) := by decide +kernel
theorem d_Chain_divide_218 : decode prog_3_method_3_code 218 = .ok (.aload_n 0, 1) := by decide +kernel
theorem d_Chain_divide_219 : decode prog_3_method_3_code 219 = .ok (.getfield 13, 3) := by decide +kernel
theorem d_Chain_divide_222 : decode prog_3_method_3_code 222 = .ok (.iload_n 2, 1) := by decide +kernel
theorem d_Chain_divide_223 : decode prog_3_method_3_code 223 = .ok (.iload 7, 2) := by decide +kernel
theorem d_Chain_divide_225 : decode prog_3_method_3_code 225 = .ok (.iadd, 1) := by decide +kernel
theorem d_Chain_divide_226 : decode prog_3_method_3_code 226 = .ok (.aload_n 0, 1) := by decide +kernel
theorem d_Chain_divide_227 : decode prog_3_method_3_code 227 = .ok (.getfield 32, 3) := by decide +kernel
theorem d_Chain_divide_230 : decode prog_3_method_3_code 230 = .ok (.aastore, 1) := by decide +kernel
theorem d_Chain_divide_231 : decode prog_3_method_3_code 231 = .ok (.aload_n 0, 1) := by decide +kernel
theorem d_Chain_divide_232 : decode prog_3_method_3_code 232 = .ok (.aload 8, 2) := by decide +kernel
theorem d_Chain_divide_234 : decode prog_3_method_3_code 234 = .ok (.putfield 32, 3) := by decide +kernel
theorem d_Chain_divide_237 : decode prog_3_method_3_code 237 = .ok (.iinc 7 1, 3) := by decide +kernel
theorem d_Chain_divide_240 : decode prog_3_method_3_code 240 = .ok (.goto (-127), 3) := by decide +kernel
theorem d_Chain_divide_243 : decode prog_3_method_3_code 243 = .ok (.aload 6, 2) := by decide +kernel
theorem d_Chain_divide_245 : decode prog_3_method_3_code 245 = .ok (.lconst 0, 1) := by decide +kernel
theorem d_Chain_divide_246 : decode prog_3_method_3_code 246 = .ok (.invokevirtual 43, 3) := by decide +kernel
theorem d_Chain_divide_249 : decode prog_3_method_3_code 249 = .ok (.iinc 5 (-1), 3) := by decide +kernel
theorem d_Chain_divide_252 : decode prog_3_method_3_code 252 = .ok (.goto (-159), 3) := by decide +kernel
theorem d_Chain_divide_255 : decode prog_3_method_3_code 255 = .ok (.aload_n 0, 1) := by decide +kernel
theorem d_Chain_divide_256 : decode prog_3_method_3_code 256 = .ok (.getfield 17, 3) := by decide +kernel
theorem d_Chain_divide_259 : decode prog_3_method_3_code 259 = .ok (.aload_n 0, 1) := by decide +kernel
theorem d_Chain_divide_260 : decode prog_3_method_3_code 260 = .ok (.getfield 21, 3) := by decide +kernel
theorem d_Chain_divide_263 : decode prog_3_method_3_code 263 = .ok (.iconst (-1), 1) := by decide +kernel
theorem d_Chain_divide_264 : decode prog_3_method_3_code 264 = .ok (.iastore, 1) := by decide +kernel
theorem d_Chain_divide_265 : decode prog_3_method_3_code 265 = .ok (.iconst 0, 1) := by decide +kernel
theorem d_Chain_divide_266 : decode prog_3_method_3_code 266 = .ok (.istore 5, 2) := by decide +kernel
theorem d_Chain_divide_268 : decode prog_3_method_3_code 268 = .ok (.iload 5, 2) := by decide +kernel
theorem d_Chain_divide_270 : decode prog_3_method_3_code 270 = .ok (.iload_n 3, 1) := by decide +kernel
theorem d_Chain_divide_271 : decode prog_3_method_3_code 271 = .ok (.if_icmp .ge 72, 3) := by decide +kernel
theorem d_Chain_divide_274 : decode prog_3_method_3_code 274 = .ok (.aload_n 0, 1) := by decide +kernel
theorem d_Chain_divide_275 : decode prog_3_method_3_code 275 = .ok (.getfield 13, 3) := by decide +kernel
theorem d_Chain_divide_278 : decode prog_3_method_3_code 278 = .ok (.iload_n 2, 1) := by decide +kernel
theorem d_Chain_divide_279 : decode prog_3_method_3_code 279 = .ok (.iload 5, 2) := by decide +kernel
theorem d_Chain_divide_281 : decode prog_3_method_3_code 281 = .ok (.iadd, 1) := by decide +kernel
theorem d_Chain_divide_282 : decode prog_3_method_3_code 282 = .ok (.aaload, 1) := by decide +kernel
theorem d_Chain_divide_283 : decode prog_3_method_3_code 283 = .ok (.aload_n 0, 1) := by decide +kernel
theorem d_Chain_divide_284 : decode prog_3_method_3_code 284 = .ok (.getfield 13, 3) := by decide +kernel
theorem d_Chain_divide_287 : decode prog_3_method_3_code 287 = .ok (.iload_n 2, 1) := by decide +kernel
theorem d_Chain_divide_288 : decode prog_3_method_3_code 288 = .ok (.iload 5, 2) := by decide +kernel
theorem d_Chain_divide_290 : decode prog_3_method_3_code 290 = .ok (.iadd, 1) := by decide +kernel
theorem d_Chain_divide_291 : decode prog_3_method_3_code 291 = .ok (.aaload, 1) := by decide +kernel
theorem d_Chain_divide_292 : decode prog_3_method_3_code 292 = .ok (.getfield 54, 3) := by decide +kernel
theorem d_Chain_divide_295 : decode prog_3_method_3_code 295 = .ok (.ineg, 1) := by decide +kernel
theorem d_Chain_divide_296 : decode prog_3_method_3_code 296 = .ok (.putfield 54, 3) := by decide +kernel
theorem d_Chain_divide_299 : decode prog_3_method_3_code 299 = .ok (.aload_n 0, 1) := by decide +kernel
theorem d_Chain_divide_300 : decode prog_3_method_3_code 300 = .ok (.getfield 17, 3) := by decide +kernel
theorem d_Chain_divide_303 : decode prog_3_method_3_code 303 = .ok (.aload_n 0, 1) := by decide +kernel
theorem d_Chain_divide_304 : decode prog_3_method_3_code 304 = .ok (.getfield 21, 3) := by decide +kernel
theorem d_Chain_divide_307 : decode prog_3_method_3_code 307 = .ok (.aload_n 0, 1) := by decide +kernel
theorem d_Chain_divide_308 : decode prog_3_method_3_code 308 = .ok (.getfield 13, 3) := by decide +kernel
theorem d_Chain_divide_311 : decode prog_3_method_3_code 311 = .ok (.iload_n 2, 1) := by decide +kernel
theorem d_Chain_divide_312 : decode prog_3_method_3_code 312 = .ok (.iload 5, 2) := by decide +kernel
theorem d_Chain_divide_314 : decode prog_3_method_3_code 314 = .ok (.iadd, 1) := by decide +kernel
theorem d_Chain_divide_315 : decode prog_3_method_3_code 315 = .ok (.aaload, 1) := by decide +kernel
theorem d_Chain_divide_316 : decode prog_3_method_3_code 316 = .ok (.getfield 54, 3) := by decide +kernel
theorem d_Chain_divide_319 : decode prog_3_method_3_code 319 = .ok (.ifCond .eq 8, 3) := by decide +kernel
theorem d_Chain_divide_322 : decode prog_3_method_3_code 322 = .ok (.iload 5, 2) := by decide +kernel
theorem d_Chain_divide_324 : decode prog_3_method_3_code 324 = .ok (.goto 12, 3) := by decide +kernel
theorem d_Chain_divide_327 : decode prog_3_method_3_code 327 = .ok (.aload_n 0, 1) := by decide +kernel
theorem d_Chain_divide_328 : decode prog_3_method_3_code 328 = .ok (.getfield 17, 3) := by decide +kernel
theorem d_Chain_divide_331 : decode prog_3_method_3_code 331 = .ok (.aload_n 0, 1) := by decide +kernel
theorem d_Chain_divide_332 : decode prog_3_method_3_code 332 = .ok (.getfield 21, 3) := by decide +kernel
theorem d_Chain_divide_335 : decode prog_3_method_3_code 335 = .ok (.iaload, 1) := by decide +kernel
theorem d_Chain_divide_336 : decode prog_3_method_3_code 336 = .ok (.iastore, 1) := by decide +kernel
theorem d_Chain_divide_337 : decode prog_3_method_3_code 337 = .ok (.iinc 5 1, 3) := by decide +kernel
theorem d_Chain_divide_340 : decode prog_3_method_3_code 340 = .ok (.goto (-72), 3) := by decide +kernel
theorem d_Chain_divide_343 : decode prog_3_method_3_code 343 = .ok (.return_, 1) := by decide +kernel
set_option maxHeartbeats 8000000 in
set_option maxRecDepth 100000 in
theorem c_Chain_divide (l : Launch) (D : va_G) (cs : Nat → ClassId) (L : List Nat) (f : Nat → va_E) (sz : Nat) (ch tt tq cl cr n d eg al be : Nat) (tu fi : Int) (tps : Nat → Int) (gg : Nat → Option Nat) (tm : Nat → Nat) (Ck S : Nat → Prop) (Qm : Nat → Nat) (Zf : Nat → Int) (hF : Fc L [ch, tt, tq]) (ha : f ch = .inr (1, [.ref tt, .ref tq, .int (iI ((n : Int))), .int (iI tu), .int (iI fi), .ref cl, .ref cr])) (htt : f tt = .inl (cs 3, 42, .inr (.inr (.inr (.inr gg))))) (htq : f tq = .inl (cs 0, 7, .inl (ai tps))) (hn : 2 ≤ n ∧ n ≤ 6) (hd1 : tps (n - 1) = (d : Int)) (hd2 : tps (n - 2) = (eg : Int)) (hde : 1 ≤ d ∧ d ≤ eg ∧ eg < 6) (hG : ∀ t, t < 42 → gg t = some (tm t)) (hCI : CI Ck tm cl cr) (hCS : ∀ b, Ck b → S b) (hSp : Sp L S Qm) (hB : BH cs f S Qm Zf) (hOk : ∀ k ∈ ([ch, tt, tq] : List Nat), Out S Qm k) (hPz : ∀ j, eg < j → j < 6 → (fun j => Zf (tm (6 * (n - 2) + j))) j = 0) (hqz : ∀ j, d < j → j < 6 → (fun j => Zf (tm (6 * (n - 1) + j))) j = 0) (hq0 : (fun j => Zf (tm (6 * (n - 1) + j))) d ≠ 0) (hPb : RowB (fun j => Zf (tm (6 * (n - 2) + j))) al) (hqb : RowB (fun j => Zf (tm (6 * (n - 1) + j))) be) (hroom : rE al be eg d ≤ 1457) : Met l (⟨"RealRoots$Chain", "divide", "()V"⟩ : MethodName) (.code (⟨"RealRoots$Chain", "divide", "()V"⟩ : MethodName) prog_3_method_3_code 9 (Option.none : Option Jvm.ClassFile.FieldType) :: gw) ({ frames := 1, cells := 0, slots := 0, locals := 60 }) (va_Pc [.ref ch] (K0 D vwCl (TY cs) L f sz)) (va_Qv (fun (g : Nat → va_E) => ∃ (tm' : Nat → Nat) (gg' : Nat → Option Nat) (cl' : Nat) (Z' t' : Nat → Int), CI Ck tm' cl' cr ∧ (∀ t, t < 42 → gg' t = some (tm' t)) ∧ (∀ t, t < 6 * n → tm' t = tm t ∧ Z' (tm t) = Zf (tm t)) ∧ (∀ b, ¬ Ck b → Z' b = Zf b) ∧ (∃ R : Nat → Int, Rem (fun j => Zf (tm (6 * (n - 2) + j))) (fun j => Zf (tm (6 * (n - 1) + j))) R ∧ (∀ j, d ≤ j → j < 6 → R j = 0) ∧ ∀ j, j < 6 → Z' (tm' (6 * n + j)) = -R j) ∧ RowB (fun j => Z' (tm' (6 * n + j))) (rE al be eg d) ∧ TopT (fun j => Z' (tm' (6 * n + j))) 6 (t' n) ∧ (∀ j, j ≠ n → t' j = tps j) ∧ BH cs g S Qm Z' ∧ (∀ k, Out S Qm k → k ∉ ([ch, tt, tq] : List Nat) → g k = f k) ∧ g ch = .inr (1, [.ref tt, .ref tq, .int (iI ((n : Int))), .int (iI tu), .int (iI fi), .ref (cl'), .ref cr]) ∧ g tt = .inl (cs 3, 42, .inr (.inr (.inr (.inr (gg'))))) ∧ g tq = .inl (cs 0, 7, .inl (ai (t')))) (K1 D vwCl (TY cs) (AL L sz) L) (AL L sz)) 0 0 (AL L sz) := by
  refine Met.ofW (cc := prog_3_method_3_code) (maxL := 9) (ret := (Option.none : Option Jvm.ClassFile.FieldType)) (by decide) rfl ?_
  intro p e s m args below meth c s₁ Bd hml hv
  obtain ⟨rfl, hk0⟩ := hv
  obtain ⟨hsz, B⟩ := hk0.start
  subst hsz
  have hx := Bd.exec
  have hb := Bd.bytes
  have hr := Bd.returns
  have hlocks := Bd.notSynchronized
  have hts0 := atoms_spec Bd.pre
  have hown : s.vm.findClass RX1 = some m.cls := findClass_of_methodNamed Bd.named
  have hA : ∀ q, s.heap.size ≤ q → AL L s.heap.size q := fun _ h => Or.inr h
  have hl := lv_entry ([.ref ch]) (n := 9) (Nat.le_of_ble_eq_true rfl)
  rw [lg_entry_eq]
  generalize (lg_sl ([.ref ch]) ++ List.replicate (9 - (lg_sl ([.ref ch])).length) Slot.unset).toArray = ls at hl ⊢
  refine absQ (fun Q R av hQ hR hav => ?_)
  have hts : ∀ w ∈ gw, w.before av s = true := by rw [hav]; exact fun w h => hts0 w (List.mem_cons_of_mem _ h)
  have hRf : R.frames = 1 := by rw [hR]; rfl
  have hRl : R.locals = 60 := by rw [hR]; rfl
  have hRc : R.cells = 0 := by rw [hR]; rfl
  have hRs : R.slots = 0 := by rw [hR]; rfl
  clear hR hts0 Bd
  have hl : lv_has ls 9 [(0, .ref ch)] := hl
  have hinj : ∀ t u, t < 42 → u < 42 → t ≠ u → tm t ≠ tm u := fun t u ht hu h e => h (hCI.2.1 t u ht hu e)
  obtain ⟨P, hPd⟩ : ∃ P : Nat → Int, ∀ j, P j = Zf (tm (6 * (n - 2) + j)) := ⟨_, fun _ => rfl⟩
  obtain ⟨q, hqd⟩ : ∃ q : Nat → Int, ∀ j, q j = Zf (tm (6 * (n - 1) + j)) := ⟨_, fun _ => rfl⟩
  have hPe : (fun j => Zf (tm (6 * (n - 2) + j))) = P := funext (fun j => (hPd j).symm)
  have hqe : (fun j => Zf (tm (6 * (n - 1) + j))) = q := funext (fun j => (hqd j).symm)
  obtain ⟨ld, hld⟩ : ∃ ld, ld = tm (6 * (n - 1) + d) := ⟨_, rfl⟩
  have hgld : gg (6 * (n - 1) + d) = some ld := by rw [hld]; exact hG _ (by omega)
  have hSd : S ld := by rw [hld]; exact hCS _ (hCI.1 _ (by omega)).1
  have hqq : RowB q be := by rw [← hqe]; exact hqb
  have hqzz : ∀ j, d < j → j < 6 → q j = 0 := by rw [← hqe]; exact hqz
  have hq00 : q d ≠ 0 := by rw [← hqe]; exact hq0
  have hfx : ∀ q ∈ ([(ch, .inr (1, [.ref tt, .ref tq, .int (iI ((n : Int))), .int (iI tu), .int (iI fi), .ref cl, .ref cr])), (tt, .inl (cs 3, 42, .inr (.inr (.inr (.inr gg))))), (tq, .inl (cs 0, 7, .inl (ai tps)))] : List (Nat × va_E)), f q.1 = q.2 := fun q hq => by
    simp only [List.mem_cons, List.not_mem_nil, or_false] at hq
    rcases hq with rfl | rfl | rfl
    · exact ha
    · exact htt
    · exact htq
  have hmw : mw f [(ch, .inr (1, [.ref tt, .ref tq, .int (iI ((n : Int))), .int (iI tu), .int (iI fi), .ref cl, .ref cr])), (tt, .inl (cs 3, 42, .inr (.inr (.inr (.inr gg))))), (tq, .inl (cs 0, 7, .inl (ai tps)))] = f := mw_self (fun k a e hk => hfx (a, e) (List.mem_of_getElem? hk))
  have B := B.focus [(ch, .inr (1, [.ref tt, .ref tq, .int (iI ((n : Int))), .int (iI tu), .int (iI fi), .ref cl, .ref cr])), (tt, .inl (cs 3, 42, .inr (.inr (.inr (.inr gg))))), (tq, .inl (cs 0, 7, .inl (ai tps)))] hfx
  refine lv_aload_n hx hb d_Chain_divide_0 rfl (lv_at hl 0 rfl) ?_
  refine x_get (C := RX1) (T := TX1) (N := 7) hx hb hts inX1 hown B hF 0 rfl rfl 2 (by decide) (hts _ w_54) (fun _ h9 => h9) rfl d_Chain_divide_1 ?_
  refine x_iconst hx hb d_Chain_divide_4 ?_
  refine x_isub hx hb d_Chain_divide_5 ?_
  refine x_bipush hx hb d_Chain_divide_6 (by decide) ?_
  refine x_imul hx hb d_Chain_divide_8 ?_
  rw [show (((n : Int)) - 1) * 6 = ((6 * (n - 1) : Nat) : Int) by omega]
  refine lv_istore_n (lv' := [(1, .int (iI (((6 * (n - 1) : Nat) : Int)))), (0, .ref ch)]) hx hb d_Chain_divide_9 rfl hl (by decide) rfl (fun ls hl => ?_)
  refine lv_aload_n hx hb d_Chain_divide_10 rfl (lv_at hl 1 rfl) ?_
  refine x_get (C := RX1) (T := TX1) (N := 7) hx hb hts inX1 hown B hF 0 rfl rfl 2 (by decide) (hts _ w_54) (fun _ h9 => h9) rfl d_Chain_divide_11 ?_
  refine x_bipush hx hb d_Chain_divide_14 (by decide) ?_
  refine x_imul hx hb d_Chain_divide_16 ?_
  rw [show ((n : Int)) * 6 = ((6 * n : Nat) : Int) by omega]
  refine lv_istore_n (lv' := [(2, .int (iI (((6 * n : Nat) : Int)))), (1, .int (iI (((6 * (n - 1) : Nat) : Int)))), (0, .ref ch)]) hx hb d_Chain_divide_17 rfl hl (by decide) rfl (fun ls hl => ?_)
  refine lv_aload_n hx hb d_Chain_divide_18 rfl (lv_at hl 2 rfl) ?_
  refine x_get (C := RX1) (T := TX1) (N := 7) hx hb hts inX1 hown B hF 0 rfl rfl 1 (by decide) (hts _ w_53) (fun _ h9 => h9) rfl d_Chain_divide_19 ?_
  refine lv_aload_n hx hb d_Chain_divide_22 rfl (lv_at hl 2 rfl) ?_
  refine x_get (C := RX1) (T := TX1) (N := 7) hx hb hts inX1 hown B hF 0 rfl rfl 2 (by decide) (hts _ w_54) (fun _ h9 => h9) rfl d_Chain_divide_23 ?_
  refine x_iconst hx hb d_Chain_divide_26 ?_
  refine x_isub hx hb d_Chain_divide_27 ?_
  refine x_iald hx hb B hF 2 0 rfl rfl (n - 1) (by omega) (by omega) (by decide) d_Chain_divide_28 ?_
  rw [hd1]
  refine lv_istore_n (lv' := [(3, .int (iI ((d : Int)))), (2, .int (iI (((6 * n : Nat) : Int)))), (1, .int (iI (((6 * (n - 1) : Nat) : Int)))), (0, .ref ch)]) hx hb d_Chain_divide_29 rfl hl (by decide) rfl (fun ls hl => ?_)
  refine x_iconst hx hb d_Chain_divide_30 ?_
  refine lv_istore (lv' := [(4, .int (iI 0)), (3, .int (iI ((d : Int)))), (2, .int (iI (((6 * n : Nat) : Int)))), (1, .int (iI (((6 * (n - 1) : Nat) : Int)))), (0, .ref ch)]) hx hb d_Chain_divide_31 hl (by decide) rfl (fun ls hl => ?_)
  have LA : ∀ (fuel : Nat) (k : Nat) (f2 : Nat → va_E) (Z2 : Nat → Int), 6 - k < fuel → (k ≤ 6) → (BH cs f2 S Qm Z2) → (∀ j, j < k → Z2 (tm (6 * n + j)) = P j) → (∀ b, (∀ j, j < 6 → b ≠ tm (6 * n + j)) → Z2 b = Zf b) → (∀ k, Out S Qm k → k ∉ ([ch, tt, tq] : List Nat) → f2 k = f k) → ∀ (H : Heap) (locs : List Loc) (ls : Array Slot), Wb D vwCl (TY cs) L (mw f2 [(ch, .inr (1, [.ref tt, .ref tq, .int (iI ((n : Int))), .int (iI tu), .int (iI fi), .ref cl, .ref cr])), (tt, .inl (cs 3, 42, .inr (.inr (.inr (.inr gg))))), (tq, .inl (cs 0, 7, .inl (ai tps)))]) (AL L s.heap.size) s H locs → lv_has ls 9 [(4, .int (iI ((k : Int)))), (0, .ref ch), (1, .int (iI (((6 * (n - 1) : Nat) : Int)))), (2, .int (iI (((6 * n : Nat) : Int)))), (3, .int (iI ((d : Int))))] → W p l e R s m av below meth c H locs (0) (0) Q (F0 m 33 ls []) := by
    intro fuel
    induction fuel with
    | zero => intro k f2 Z2 hfu; exact absurd hfu (Nat.not_lt_zero _)
    | succ fuel ih_LA =>
      intro k f2 Z2 hfu_LA hk hB2 hI hZo hfr2 H locs ls B hl
      refine lv_iload hx hb d_Chain_divide_33 (lv_at hl 0 rfl) ?_
      refine x_bipush hx hb d_Chain_divide_35 (by decide) ?_
      refine x_icmp_ge (tgt := 70) hx hb d_Chain_divide_37 (by decide) (by omega) (by omega) (fun h37 => ?_) (fun h37 => ?_)
      · refine lv_aload_n hx hb d_Chain_divide_70 rfl (lv_at hl 1 rfl) ?_
        refine x_get (C := RX1) (T := TX1) (N := 7) hx hb hts inX1 hown B hF 0 rfl rfl 0 (by decide) (hts _ w_52) (fun _ h9 => h9) rfl d_Chain_divide_71 ?_
        refine lv_iload_n hx hb d_Chain_divide_74 rfl (lv_at hl 2 rfl) ?_
        refine lv_iload_n hx hb d_Chain_divide_75 rfl (lv_at hl 4 rfl) ?_
        refine x_iadd hx hb d_Chain_divide_76 ?_
        refine x_aald hx hb B hF 1 3 rfl rfl (6 * (n - 1) + d) (by omega) (by omega) (by decide) (hgld) d_Chain_divide_77 ?_
        refine lv_astore (lv' := [(4, .ref ld), (0, .ref ch), (1, .int (iI (((6 * (n - 1) : Nat) : Int)))), (2, .int (iI (((6 * n : Nat) : Int)))), (3, .int (iI ((d : Int))))]) hx hb d_Chain_divide_78 hl (by decide) rfl (fun ls hl => ?_)
        refine lv_aload_n hx hb d_Chain_divide_80 rfl (lv_at hl 1 rfl) ?_
        refine x_get (C := RX1) (T := TX1) (N := 7) hx hb hts inX1 hown B hF 0 rfl rfl 1 (by decide) (hts _ w_53) (fun _ h9 => h9) rfl d_Chain_divide_81 ?_
        refine lv_aload_n hx hb d_Chain_divide_84 rfl (lv_at hl 1 rfl) ?_
        refine x_get (C := RX1) (T := TX1) (N := 7) hx hb hts inX1 hown B hF 0 rfl rfl 2 (by decide) (hts _ w_54) (fun _ h9 => h9) rfl d_Chain_divide_85 ?_
        refine x_iconst hx hb d_Chain_divide_88 ?_
        refine x_isub hx hb d_Chain_divide_89 ?_
        refine x_iald hx hb B hF 2 0 rfl rfl (n - 2) (by omega) (by omega) (by decide) d_Chain_divide_90 ?_
        rw [hd2]
        refine lv_istore (lv' := [(5, .int (iI ((eg : Int)))), (4, .ref ld), (0, .ref ch), (1, .int (iI (((6 * (n - 1) : Nat) : Int)))), (2, .int (iI (((6 * n : Nat) : Int)))), (3, .int (iI ((d : Int))))]) hx hb d_Chain_divide_91 hl (by decide) rfl (fun ls hl => ?_)
        have LB : ∀ (fuel : Nat) (kk : Nat) (f3 : Nat → va_E) (tm2 : Nat → Nat) (gg2 : Nat → Option Nat) (cl2 : Nat) (Z3 : Nat → Int), kk < fuel → (d ≤ kk + 1 ∧ kk ≤ eg) → (BH cs f3 S Qm Z3) → (CI Ck tm2 cl2 cr) → (∀ t, t < 42 → gg2 t = some (tm2 t)) → (∀ t, t < 6 * n → tm2 t = tm t ∧ Z3 (tm t) = Zf (tm t)) → (∀ b, ¬ Ck b → Z3 b = Zf b) → (Rem P q (fun j => Z3 (tm2 (6 * n + j)))) → (∀ j, kk < j → j < 6 → (fun j => Z3 (tm2 (6 * n + j))) j = 0) → (RowB (fun j => Z3 (tm2 (6 * n + j))) (rE al be eg (kk + 1))) → (∀ k, Out S Qm k → k ∉ ([ch, tt, tq] : List Nat) → f3 k = f k) → ∀ (H : Heap) (locs : List Loc) (ls : Array Slot), Wb D vwCl (TY cs) L (mw f3 [(ch, .inr (1, [.ref tt, .ref tq, .int (iI ((n : Int))), .int (iI tu), .int (iI fi), .ref cl2, .ref cr])), (tt, .inl (cs 3, 42, .inr (.inr (.inr (.inr gg2))))), (tq, .inl (cs 0, 7, .inl (ai tps)))]) (AL L s.heap.size) s H locs → lv_has ls 9 [(5, .int (iI ((kk : Int)))), (4, .ref ld), (0, .ref ch), (1, .int (iI (((6 * (n - 1) : Nat) : Int)))), (2, .int (iI (((6 * n : Nat) : Int)))), (3, .int (iI ((d : Int))))] → W p l e R s m av below meth c H locs (0) (0) Q (F0 m 93 ls []) := by
          intro fuel
          induction fuel with
          | zero => intro kk f3 tm2 gg2 cl2 Z3 hfu; exact absurd hfu (Nat.not_lt_zero _)
          | succ fuel ih_LB =>
            intro kk f3 tm2 gg2 cl2 Z3 hfu_LB hkk hB3 hCI2 hG2 hT2 hZ3 hRm hRz hRb hfr3 H locs ls B hl
            refine lv_iload hx hb d_Chain_divide_93 (lv_at hl 0 rfl) ?_
            refine lv_iload_n hx hb d_Chain_divide_95 rfl (lv_at hl 5 rfl) ?_
            refine x_icmp_lt (tgt := 255) hx hb d_Chain_divide_96 (by decide) (by omega) (by omega) (fun h96 => ?_) (fun h96 => ?_)
            · obtain ⟨R9, hR9⟩ : ∃ R9 : Nat → Int, ∀ j, R9 j = Z3 (tm2 (6 * n + j)) := ⟨_, fun _ => rfl⟩
              have hRe9 : (fun j => Z3 (tm2 (6 * n + j))) = R9 := funext (fun j => (hR9 j).symm)
              rw [hRe9] at hRm hRz hRb
              have hinj2 : ∀ t u, t < 42 → u < 42 → t ≠ u → tm2 t ≠ tm2 u := fun t u ht hu h e => h (hCI2.2.1 t u ht hu e)
              refine lv_aload_n hx hb d_Chain_divide_255 rfl (lv_at hl 2 rfl) ?_
              refine x_get (C := RX1) (T := TX1) (N := 7) hx hb hts inX1 hown B hF 0 rfl rfl 1 (by decide) (hts _ w_53) (fun _ h9 => h9) rfl d_Chain_divide_256 ?_
              refine lv_aload_n hx hb d_Chain_divide_259 rfl (lv_at hl 2 rfl) ?_
              refine x_get (C := RX1) (T := TX1) (N := 7) hx hb hts inX1 hown B hF 0 rfl rfl 2 (by decide) (hts _ w_54) (fun _ h9 => h9) rfl d_Chain_divide_260 ?_
              refine x_iconst hx hb d_Chain_divide_263 ?_
              refine x_iast hx hb B hF 2 0 rfl rfl n (by omega) (by omega) (by decide) d_Chain_divide_264 (fun H locs B => ?_)
              have B : Wb D vwCl (TY cs) L (mw f3 [(ch, .inr (1, [.ref tt, .ref tq, .int (iI ((n : Int))), .int (iI tu), .int (iI fi), .ref cl2, .ref cr])), (tt, .inl (cs 3, 42, .inr (.inr (.inr (.inr gg2))))), (tq, .inl (cs 0, 7, .inl (ai (up tps n (-1)))))]) (AL L s.heap.size) s H _ := B
              refine x_iconst hx hb d_Chain_divide_265 ?_
              refine lv_istore (lv' := [(5, .int (iI 0)), (4, .ref ld), (0, .ref ch), (1, .int (iI (((6 * (n - 1) : Nat) : Int)))), (2, .int (iI (((6 * n : Nat) : Int)))), (3, .int (iI ((d : Int))))]) hx hb d_Chain_divide_266 hl (by decide) rfl (fun ls hl => ?_)
              have LD : ∀ (fuel : Nat) (k4 : Nat) (f6 : Nat → va_E) (Z6 : Nat → Int) (t2 : Nat → Int), d - k4 < fuel → (k4 ≤ d) → (BH cs f6 S Qm Z6) → (∀ j, j < k4 → Z6 (tm2 (6 * n + j)) = -R9 j) → (∀ j, k4 ≤ j → j < 6 → Z6 (tm2 (6 * n + j)) = R9 j) → (∀ b, (∀ j, j < 6 → b ≠ tm2 (6 * n + j)) → Z6 b = Z3 b) → (TopT (fun j => -R9 j) k4 (t2 n)) → (∀ j, j ≠ n → t2 j = tps j) → (∀ k, Out S Qm k → k ∉ ([ch, tt, tq] : List Nat) → f6 k = f k) → ∀ (H : Heap) (locs : List Loc) (ls : Array Slot), Wb D vwCl (TY cs) L (mw f6 [(ch, .inr (1, [.ref tt, .ref tq, .int (iI ((n : Int))), .int (iI tu), .int (iI fi), .ref cl2, .ref cr])), (tt, .inl (cs 3, 42, .inr (.inr (.inr (.inr gg2))))), (tq, .inl (cs 0, 7, .inl (ai t2)))]) (AL L s.heap.size) s H locs → lv_has ls 9 [(5, .int (iI ((k4 : Int)))), (0, .ref ch), (1, .int (iI (((6 * (n - 1) : Nat) : Int)))), (2, .int (iI (((6 * n : Nat) : Int)))), (3, .int (iI ((d : Int))))] → W p l e R s m av below meth c H locs (0) (0) Q (F0 m 268 ls []) := by
                intro fuel
                induction fuel with
                | zero => intro k4 f6 Z6 t2 hfu; exact absurd hfu (Nat.not_lt_zero _)
                | succ fuel ih_LD =>
                  intro k4 f6 Z6 t2 hfu_LD hk4 hB6 hNa hNb hNo hTop ht2 hfr6 H locs ls B hl
                  refine lv_iload hx hb d_Chain_divide_268 (lv_at hl 0 rfl) ?_
                  refine lv_iload_n hx hb d_Chain_divide_270 rfl (lv_at hl 4 rfl) ?_
                  refine x_icmp_ge (tgt := 343) hx hb d_Chain_divide_271 (by decide) (by omega) (by omega) (fun h271 => ?_) (fun h271 => ?_)
                  · subst hQ hav
                    exact x_vret hx hb hr hlocks B d_Chain_divide_343 (by
      have hkd : k4 = d := by omega
      subst hkd
      have hrow : ∀ j, j < 6 → Z6 (tm2 (6 * n + j)) = -R9 j := fun j hj => by
        by_cases h : j < k4
        · exact hNa j h
        · rw [hNb j (by omega) hj, hRz j (by omega) hj]; rfl
      exact ⟨tm2, gg2, cl2, Z6, t2, hCI2, hG2, fun t ht => ⟨(hT2 t ht).1, by rw [hNo _ (fun j hj => by rw [← (hT2 t ht).1]; exact hinj2 _ _ (by omega) (by omega) (by omega))]; exact (hT2 t ht).2⟩, fun b hb => by rw [hNo b (fun j hj h => hb (by rw [h]; exact (hCI2.1 _ (by omega)).1))]; exact hZ3 b hb, ⟨R9, by rw [hPe, hqe]; exact hRm, fun j h1 h2 => hRz j (by omega) h2, hrow⟩, fun j hj => by
        show ((Z6 (tm2 (6 * n + j))).natAbs : Int) < _
        rw [hrow j hj, Int.natAbs_neg]
        have h9 := (RowB.up hRb (rE_mono al be eg (show k4 ≤ kk + 1 by omega))) j hj
        exact h9, hTop.fin (by omega) (fun j hj => hrow j (by omega)) (fun j h1 h2 => by
        show Z6 (tm2 (6 * n + j)) = 0
        rw [hrow j h2, hRz j (by omega) h2]; rfl), ht2, hB6.keep (X := [(ch, .inr (1, [.ref tt, .ref tq, .int (iI ((n : Int))), .int (iI tu), .int (iI fi), .ref cl2, .ref cr])), (tt, .inl (cs 3, 42, .inr (.inr (.inr (.inr gg2))))), (tq, .inl (cs 0, 7, .inl (ai t2)))]) hOk, fun k h1 h2 => by rw [mw_out (X := [(ch, .inr (1, [.ref tt, .ref tq, .int (iI ((n : Int))), .int (iI tu), .int (iI fi), .ref cl2, .ref cr])), (tt, .inl (cs 3, 42, .inr (.inr (.inr (.inr gg2))))), (tq, .inl (cs 0, 7, .inl (ai t2)))]) h2]; exact hfr6 k h1 h2, mw_get (X := [(ch, .inr (1, [.ref tt, .ref tq, .int (iI ((n : Int))), .int (iI tu), .int (iI fi), .ref cl2, .ref cr])), (tt, .inl (cs 3, 42, .inr (.inr (.inr (.inr gg2))))), (tq, .inl (cs 0, 7, .inl (ai t2)))]) hF.1 (k := 0) rfl, mw_get (X := [(ch, .inr (1, [.ref tt, .ref tq, .int (iI ((n : Int))), .int (iI tu), .int (iI fi), .ref cl2, .ref cr])), (tt, .inl (cs 3, 42, .inr (.inr (.inr (.inr gg2))))), (tq, .inl (cs 0, 7, .inl (ai t2)))]) hF.1 (k := 1) rfl, mw_get (X := [(ch, .inr (1, [.ref tt, .ref tq, .int (iI ((n : Int))), .int (iI tu), .int (iI fi), .ref cl2, .ref cr])), (tt, .inl (cs 3, 42, .inr (.inr (.inr (.inr gg2))))), (tq, .inl (cs 0, 7, .inl (ai t2)))]) hF.1 (k := 2) rfl⟩)
                  · obtain ⟨tk, htk⟩ : ∃ tk, tk = tm2 (6 * n + k4) := ⟨_, rfl⟩
                    have hgtk : gg2 (6 * n + k4) = some tk := by rw [htk]; exact hG2 _ (by omega)
                    have hSt : S tk := by rw [htk]; exact hCS _ (hCI2.1 _ (by omega)).1
                    have hZt9 : -Z6 tk = -R9 k4 := by rw [htk, hNb k4 (Nat.le_refl _) (by omega)]
                    refine lv_aload_n hx hb d_Chain_divide_274 rfl (lv_at hl 1 rfl) ?_
                    refine x_get (C := RX1) (T := TX1) (N := 7) hx hb hts inX1 hown B hF 0 rfl rfl 0 (by decide) (hts _ w_52) (fun _ h9 => h9) rfl d_Chain_divide_275 ?_
                    refine lv_iload_n hx hb d_Chain_divide_278 rfl (lv_at hl 3 rfl) ?_
                    refine lv_iload hx hb d_Chain_divide_279 (lv_at hl 0 rfl) ?_
                    refine x_iadd hx hb d_Chain_divide_281 ?_
                    refine x_aald hx hb B hF 1 3 rfl rfl (6 * n + k4) (by omega) (by omega) (by decide) (hgtk) d_Chain_divide_282 ?_
                    refine lv_aload_n hx hb d_Chain_divide_283 rfl (lv_at hl 1 rfl) ?_
                    refine x_get (C := RX1) (T := TX1) (N := 7) hx hb hts inX1 hown B hF 0 rfl rfl 0 (by decide) (hts _ w_52) (fun _ h9 => h9) rfl d_Chain_divide_284 ?_
                    refine lv_iload_n hx hb d_Chain_divide_287 rfl (lv_at hl 3 rfl) ?_
                    refine lv_iload hx hb d_Chain_divide_288 (lv_at hl 0 rfl) ?_
                    refine x_iadd hx hb d_Chain_divide_290 ?_
                    refine x_aald hx hb B hF 1 3 rfl rfl (6 * n + k4) (by omega) (by omega) (by decide) (hgtk) d_Chain_divide_291 ?_
                    refine x_bget (a := tk) hx hb hts inX0 hown B hF hSp hB6 hOk (hSt) (hts _ w_40) d_Chain_divide_292 ?_
                    have hsr292 := sign_rng (Z6 tk)
                    refine x_ineg hx hb d_Chain_divide_295 ?_
                    refine x_bput (-Z6 tk) hx hb hts inX0 hown B hF hSp hB6 hOk (hSt) (fun n9 lm9 h9 => h9.ngs) (hts _ w_40) d_Chain_divide_296 (fun f_296 H locs hB_296 hfr_296 B => ?_)
                    have B : Wb D vwCl (TY cs) L (mw f_296 [(ch, .inr (1, [.ref tt, .ref tq, .int (iI ((n : Int))), .int (iI tu), .int (iI fi), .ref cl2, .ref cr])), (tt, .inl (cs 3, 42, .inr (.inr (.inr (.inr gg2))))), (tq, .inl (cs 0, 7, .inl (ai t2)))]) (AL L s.heap.size) s H _ := B
                    refine lv_aload_n hx hb d_Chain_divide_299 rfl (lv_at hl 1 rfl) ?_
                    refine x_get (C := RX1) (T := TX1) (N := 7) hx hb hts inX1 hown B hF 0 rfl rfl 1 (by decide) (hts _ w_53) (fun _ h9 => h9) rfl d_Chain_divide_300 ?_
                    refine lv_aload_n hx hb d_Chain_divide_303 rfl (lv_at hl 1 rfl) ?_
                    refine x_get (C := RX1) (T := TX1) (N := 7) hx hb hts inX1 hown B hF 0 rfl rfl 2 (by decide) (hts _ w_54) (fun _ h9 => h9) rfl d_Chain_divide_304 ?_
                    refine lv_aload_n hx hb d_Chain_divide_307 rfl (lv_at hl 1 rfl) ?_
                    refine x_get (C := RX1) (T := TX1) (N := 7) hx hb hts inX1 hown B hF 0 rfl rfl 0 (by decide) (hts _ w_52) (fun _ h9 => h9) rfl d_Chain_divide_308 ?_
                    refine lv_iload_n hx hb d_Chain_divide_311 rfl (lv_at hl 3 rfl) ?_
                    refine lv_iload hx hb d_Chain_divide_312 (lv_at hl 0 rfl) ?_
                    refine x_iadd hx hb d_Chain_divide_314 ?_
                    refine x_aald hx hb B hF 1 3 rfl rfl (6 * n + k4) (by omega) (by omega) (by decide) (hgtk) d_Chain_divide_315 ?_
                    refine x_bget (a := tk) hx hb hts inX0 hown B hF hSp hB_296 hOk (hSt) (hts _ w_40) d_Chain_divide_316 ?_
                    have hsr316 := sign_rng ((up Z6 tk (-Z6 tk)) tk)
                    rw [up_self]
                    have hsrn := sign_rng (-Z6 tk)
                    refine x_if_eq (tgt := 327) hx hb d_Chain_divide_319 (by decide) (by omega) (fun h319 => ?_) (fun h319 => ?_)
                    · refine lv_aload_n hx hb d_Chain_divide_327 rfl (lv_at hl 1 rfl) ?_
                      refine x_get (C := RX1) (T := TX1) (N := 7) hx hb hts inX1 hown B hF 0 rfl rfl 1 (by decide) (hts _ w_53) (fun _ h9 => h9) rfl d_Chain_divide_328 ?_
                      refine lv_aload_n hx hb d_Chain_divide_331 rfl (lv_at hl 1 rfl) ?_
                      refine x_get (C := RX1) (T := TX1) (N := 7) hx hb hts inX1 hown B hF 0 rfl rfl 2 (by decide) (hts _ w_54) (fun _ h9 => h9) rfl d_Chain_divide_332 ?_
                      refine x_iald hx hb B hF 2 0 rfl rfl n (by omega) (by omega) (by decide) d_Chain_divide_335 ?_
                      refine x_iast hx hb B hF 2 0 rfl rfl n (by omega) (by omega) (by decide) d_Chain_divide_336 (fun H locs B => ?_)
                      have B : Wb D vwCl (TY cs) L (mw f_296 [(ch, .inr (1, [.ref tt, .ref tq, .int (iI ((n : Int))), .int (iI tu), .int (iI fi), .ref cl2, .ref cr])), (tt, .inl (cs 3, 42, .inr (.inr (.inr (.inr gg2))))), (tq, .inl (cs 0, 7, .inl (ai (up t2 n (t2 n)))))]) (AL L s.heap.size) s H _ := B
                      refine x_iinc (lv' := [(5, .int (iI (((k4 : Int)) + 1))), (0, .ref ch), (1, .int (iI (((6 * (n - 1) : Nat) : Int)))), (2, .int (iI (((6 * n : Nat) : Int)))), (3, .int (iI ((d : Int))))]) hx hb d_Chain_divide_337 hl (q := 0) rfl rfl (by decide) rfl (fun ls hl => ?_)
                      refine lv_goto (tgt := 268) hx hb d_Chain_divide_340 (by decide) ?_
                      exact ih_LD (k4 + 1) f_296 ((up Z6 tk (-Z6 tk))) (up t2 n (t2 n)) (by omega) (by omega) hB_296 (fun j hj => by
                                              by_cases hjk : j = k4
                                              · rw [hjk, ← htk, up_self, hZt9]
                                              · rw [up_ne _ _ (by rw [htk]; exact hinj2 _ _ (by omega) (by omega) (by omega))]; exact hNa j (by omega)) (fun j h1 h2 => by rw [up_ne _ _ (by rw [htk]; exact hinj2 _ _ (by omega) (by omega) (by omega))]; exact hNb j (by omega) h2) (fun b hb => by rw [up_ne _ _ (by rw [htk]; exact hb k4 (by omega))]; exact hNo b hb) (by rw [up_self]; exact hTop.next (show -R9 k4 = 0 by rw [← hZt9]; exact sign_zr h319)) (fun j hj => by rw [up_ne _ _ hj]; exact ht2 j hj) (fun k h1 h2 => by rw [hfr_296 k h1 h2]; exact hfr6 k h1 h2) _ _ _ B (lv_sub hl [0, 1, 2, 3, 4] rfl)
                    · refine lv_iload hx hb d_Chain_divide_322 (lv_at hl 0 rfl) ?_
                      refine lv_goto (tgt := 336) hx hb d_Chain_divide_324 (by decide) ?_
                      refine x_iast hx hb B hF 2 0 rfl rfl n (by omega) (by omega) (by decide) d_Chain_divide_336 (fun H locs B => ?_)
                      have B : Wb D vwCl (TY cs) L (mw f_296 [(ch, .inr (1, [.ref tt, .ref tq, .int (iI ((n : Int))), .int (iI tu), .int (iI fi), .ref cl2, .ref cr])), (tt, .inl (cs 3, 42, .inr (.inr (.inr (.inr gg2))))), (tq, .inl (cs 0, 7, .inl (ai (up t2 n ((k4 : Int))))))]) (AL L s.heap.size) s H _ := B
                      refine x_iinc (lv' := [(5, .int (iI (((k4 : Int)) + 1))), (0, .ref ch), (1, .int (iI (((6 * (n - 1) : Nat) : Int)))), (2, .int (iI (((6 * n : Nat) : Int)))), (3, .int (iI ((d : Int))))]) hx hb d_Chain_divide_337 hl (q := 0) rfl rfl (by decide) rfl (fun ls hl => ?_)
                      refine lv_goto (tgt := 268) hx hb d_Chain_divide_340 (by decide) ?_
                      exact ih_LD (k4 + 1) f_296 ((up Z6 tk (-Z6 tk))) (up t2 n ((k4 : Int))) (by omega) (by omega) hB_296 (fun j hj => by
                                              by_cases hjk : j = k4
                                              · rw [hjk, ← htk, up_self, hZt9]
                                              · rw [up_ne _ _ (by rw [htk]; exact hinj2 _ _ (by omega) (by omega) (by omega))]; exact hNa j (by omega)) (fun j h1 h2 => by rw [up_ne _ _ (by rw [htk]; exact hinj2 _ _ (by omega) (by omega) (by omega))]; exact hNb j (by omega) h2) (fun b hb => by rw [up_ne _ _ (by rw [htk]; exact hb k4 (by omega))]; exact hNo b hb) (by rw [up_self]; exact TopT.new (fun h => h319 (by rw [hZt9, h]; rfl))) (fun j hj => by rw [up_ne _ _ hj]; exact ht2 j hj) (fun k h1 h2 => by rw [hfr_296 k h1 h2]; exact hfr6 k h1 h2) _ _ _ B (lv_sub hl [0, 1, 2, 3, 4] rfl)
              exact LD _ 0 f3 Z3 (up tps n (-1)) (Nat.lt_succ_self _) (by omega) hB3 (fun j hj => by omega) (fun j _ _ => (hR9 j).symm) (fun b _ => rfl) (by rw [up_self]; exact TopT.zero _) (fun j hj => by rw [up_ne _ _ hj]) hfr3 _ _ _ B (lv_sub hl [0, 2, 3, 4, 5] rfl)
            · obtain ⟨hh, hhh⟩ : ∃ hh, hh = tm2 (6 * n + kk) := ⟨_, rfl⟩
              have hCh : Ck hh := by rw [hhh]; exact (hCI2.1 _ (by omega)).1
              have hSh : S hh := hCS _ hCh
              obtain ⟨Rr, hRd⟩ : ∃ Rr : Nat → Int, ∀ j, Rr j = Z3 (tm2 (6 * n + j)) := ⟨_, fun _ => rfl⟩
              have hRe : (fun j => Z3 (tm2 (6 * n + j))) = Rr := funext (fun j => (hRd j).symm)
              rw [hRe] at hRm hRz hRb
              have hrk : rE al be eg (kk + 1) + (be + 1) ≤ 1457 := by have h9 := rE_step al be eg (kk + 1) (by omega) (by omega); have h8 := rE_mono al be eg (show d ≤ kk + 1 - 1 by omega); omega
              have hghh : gg2 (6 * n + kk) = some hh := by rw [hhh]; exact hG2 _ (by omega)
              refine lv_aload_n hx hb d_Chain_divide_99 rfl (lv_at hl 2 rfl) ?_
              refine x_get (C := RX1) (T := TX1) (N := 7) hx hb hts inX1 hown B hF 0 rfl rfl 0 (by decide) (hts _ w_52) (fun _ h9 => h9) rfl d_Chain_divide_100 ?_
              refine lv_iload_n hx hb d_Chain_divide_103 rfl (lv_at hl 4 rfl) ?_
              refine lv_iload hx hb d_Chain_divide_104 (lv_at hl 0 rfl) ?_
              refine x_iadd hx hb d_Chain_divide_106 ?_
              refine x_aald hx hb B hF 1 3 rfl rfl (6 * n + kk) (by omega) (by omega) (by decide) (hghh) d_Chain_divide_107 ?_
              refine lv_astore (lv' := [(6, .ref hh), (5, .int (iI ((kk : Int)))), (4, .ref ld), (0, .ref ch), (1, .int (iI (((6 * (n - 1) : Nat) : Int)))), (2, .int (iI (((6 * n : Nat) : Int)))), (3, .int (iI ((d : Int))))]) hx hb d_Chain_divide_108 hl (by decide) rfl (fun ls hl => ?_)
              refine x_iconst hx hb d_Chain_divide_110 ?_
              refine lv_istore (lv' := [(7, .int (iI 0)), (6, .ref hh), (5, .int (iI ((kk : Int)))), (4, .ref ld), (0, .ref ch), (1, .int (iI (((6 * (n - 1) : Nat) : Int)))), (2, .int (iI (((6 * n : Nat) : Int)))), (3, .int (iI ((d : Int))))]) hx hb d_Chain_divide_111 hl (by decide) rfl (fun ls hl => ?_)
              have LC : ∀ (fuel : Nat) (k3 : Nat) (f4 : Nat → va_E) (tm3 : Nat → Nat) (gg3 : Nat → Option Nat) (cl3 : Nat) (Z4 : Nat → Int), kk - k3 < fuel → (k3 ≤ kk) → (BH cs f4 S Qm Z4) → (CI Ck tm3 cl3 cr) → (∀ t, t < 42 → gg3 t = some (tm3 t)) → (∀ t, t < 6 * n → tm3 t = tm t ∧ Z4 (tm t) = Zf (tm t)) → (∀ b, ¬ Ck b → Z4 b = Zf b) → (∀ j, k3 ≤ j → j < 6 → tm3 (6 * n + j) = tm2 (6 * n + j) ∧ Z4 (tm2 (6 * n + j)) = Rr j) → (∀ j, j < k3 → Z4 (tm3 (6 * n + j)) = nwc Rr q kk d (q d).sign ((q d).natAbs : Int) j) → (Rr kk = 0 → k3 = 0) → (∀ k, Out S Qm k → k ∉ ([ch, tt, tq] : List Nat) → f4 k = f k) → ∀ (H : Heap) (locs : List Loc) (ls : Array Slot), Wb D vwCl (TY cs) L (mw f4 [(ch, .inr (1, [.ref tt, .ref tq, .int (iI ((n : Int))), .int (iI tu), .int (iI fi), .ref cl3, .ref cr])), (tt, .inl (cs 3, 42, .inr (.inr (.inr (.inr gg3))))), (tq, .inl (cs 0, 7, .inl (ai tps)))]) (AL L s.heap.size) s H locs → lv_has ls 9 [(7, .int (iI ((k3 : Int)))), (6, .ref hh), (5, .int (iI ((kk : Int)))), (4, .ref ld), (0, .ref ch), (1, .int (iI (((6 * (n - 1) : Nat) : Int)))), (2, .int (iI (((6 * n : Nat) : Int)))), (3, .int (iI ((d : Int))))] → W p l e R s m av below meth c H locs (0) (0) Q (F0 m 113 ls []) := by
                intro fuel
                induction fuel with
                | zero => intro k3 f4 tm3 gg3 cl3 Z4 hfu; exact absurd hfu (Nat.not_lt_zero _)
                | succ fuel ih_LC =>
                  intro k3 f4 tm3 gg3 cl3 Z4 hfu_LC hk3 hB4 hCI3 hG3 hT3 hZ4 hhd hdn hk0 hfr4 H locs ls B hl
                  have hZh : Z4 hh = Rr kk := by rw [hhh]; exact (hhd kk hk3 (by omega)).2
                  refine lv_iload hx hb d_Chain_divide_113 (lv_at hl 0 rfl) ?_
                  refine lv_iload hx hb d_Chain_divide_115 (lv_at hl 2 rfl) ?_
                  refine x_icmp_ge (tgt := 243) hx hb d_Chain_divide_117 (by decide) (by omega) (by omega) (fun h117 => ?_) (fun h117 => ?_)
                  · have hke : Rr kk ≠ 0 → k3 = kk := fun h => by first | omega | exact absurd (sign_zr h125) (by rw [hZh]; exact h)
                    have hneh : ∀ t, t < 6 * n → tm t ≠ hh := fun t ht => by rw [hhh, ← (hhd kk hk3 (by omega)).1, ← (hT3 t ht).1]; exact fun h => by have := hCI3.2.1 _ _ (by omega) (by omega) h; omega
                    refine lv_aload hx hb d_Chain_divide_243 (lv_at hl 1 rfl) ?_
                    refine x_lconst (z := 0) hx hb d_Chain_divide_245 (by decide) ?_
                    have hx_246 := hB4.keep (X := [(ch, .inr (1, [.ref tt, .ref tq, .int (iI ((n : Int))), .int (iI tu), .int (iI fi), .ref cl3, .ref cr])), (tt, .inl (cs 3, 42, .inr (.inr (.inr (.inr gg3))))), (tq, .inl (cs 0, 7, .inl (ai tps)))]) hOk
                    obtain ⟨sd_2460, n_2460, lm_2460, c1_2460, c2_2460, c3_2460⟩ := hx_246 hh hSh
                    refine x_callv B hA (va_runV (As := [.long (lI 0)]) (rest := []) ⟨hx, hb, hml, hown, hts⟩ (c_Big_put l D cs _ _ _ hh (Qm hh) sd_2460 n_2460 lm_2460 0 (hSp.fc1 hSh) c1_2460 c2_2460 (by decide)) (cwV 1 hts (gw_V w_293 w_294 w_295 w_3 w_296) rfl rfl rfl (by decide +kernel) ⟨by rw [hRf]; exact Nat.le_of_ble_eq_true rfl, by rw [hRl]; exact Nat.le_of_ble_eq_true rfl⟩) ⟨K0.blind, B.recv (hSp.1 _ (hSh)).1 c1_2460 rfl, B.pre _⟩ rfl rfl hl.1 rfl (lv_room (Nat.le_of_ble_eq_true rfl)) d_Chain_divide_246 ⟨by rw [hRc]; omega, by rw [hRs]; omega⟩) (fun g246 H locs hw B => ?_)
                    obtain ⟨s_246, n_246, l_246, hz_246, rfl⟩ := hw
                    obtain ⟨f_246, hf_246⟩ : ∃ f_246, f_246 = mw (mw f4 [(ch, .inr (1, [.ref tt, .ref tq, .int (iI ((n : Int))), .int (iI tu), .int (iI fi), .ref cl3, .ref cr])), (tt, .inl (cs 3, 42, .inr (.inr (.inr (.inr gg3))))), (tq, .inl (cs 0, 7, .inl (ai tps)))]) [(hh, .inr (0, [.int (iI s_246), .int (iI (n_246 : Int)), .ref (Qm hh)])), (Qm hh, .inl (cs 0, 48, .inl (ai l_246)))] := ⟨_, rfl⟩
                    have hB_246 : BH cs f_246 S Qm (up Z4 hh (0)) := by rw [hf_246]; exact BH.set hSp (hB4.keep (X := [(ch, .inr (1, [.ref tt, .ref tq, .int (iI ((n : Int))), .int (iI tu), .int (iI fi), .ref cl3, .ref cr])), (tt, .inl (cs 3, 42, .inr (.inr (.inr (.inr gg3))))), (tq, .inl (cs 0, 7, .inl (ai tps)))]) hOk) hSh hz_246
                    have hfr_246 : ∀ k, Out S Qm k → k ∉ ([ch, tt, tq] : List Nat) → f_246 k = f4 k := fun k h1 h2 => by rw [hf_246, mw_out (h1.two hSh), mw_out (X := [(ch, .inr (1, [.ref tt, .ref tq, .int (iI ((n : Int))), .int (iI tu), .int (iI fi), .ref cl3, .ref cr])), (tt, .inl (cs 3, 42, .inr (.inr (.inr (.inr gg3))))), (tq, .inl (cs 0, 7, .inl (ai tps)))]) h2]
                    rw [← hf_246] at B
                    have B := B.focus [(ch, .inr (1, [.ref tt, .ref tq, .int (iI ((n : Int))), .int (iI tu), .int (iI fi), .ref cl3, .ref cr])), (tt, .inl (cs 3, 42, .inr (.inr (.inr (.inr gg3))))), (tq, .inl (cs 0, 7, .inl (ai tps)))] (by rw [hf_246]; exact foc hF.1 (fun k hk => (hOk k hk).two hSh))
                    have B : Wb D vwCl (TY cs) L (mw f_246 [(ch, .inr (1, [.ref tt, .ref tq, .int (iI ((n : Int))), .int (iI tu), .int (iI fi), .ref cl3, .ref cr])), (tt, .inl (cs 3, 42, .inr (.inr (.inr (.inr gg3))))), (tq, .inl (cs 0, 7, .inl (ai tps)))]) (AL L s.heap.size) s H _ := B
                    have hst := div_step (P0 := P) (q := q) (P := Rr) (P' := fun j => (up Z4 hh (0)) (tm3 (6 * n + j))) (tp := kk) (d := d) (i := rE al be eg (kk + 1)) (be := be) hRm (by omega) (by omega) hRz hqzz hq00 hRb hqq (fun j hj => by
                        show (up Z4 hh (0)) (tm3 (6 * n + j)) = _
                        by_cases h1 : j = kk
                        · rw [h1, if_pos rfl, (hhd kk hk3 (by omega)).1, ← hhh, up_self]
                        · rw [if_neg h1, up_ne _ _ (by rw [hhh, ← (hhd kk hk3 (by omega)).1]; exact fun h => by have := hCI3.2.1 _ _ (by omega) (by omega) h; omega)]
                          by_cases h2 : Rr kk = 0
                          · rw [if_pos h2, (hhd j (by have := hk0 h2; omega) hj).1]; exact (hhd j (by have := hk0 h2; omega) hj).2
                          · rw [if_neg h2]
                            have h4 := hke h2
                            by_cases h3 : j < kk
                            · rw [if_pos h3]; exact hdn j (by omega)
                            · rw [if_neg h3, (hhd j (by omega) hj).1]; exact (hhd j (by omega) hj).2)
                    refine x_iinc (lv' := [(5, .int (iI (((kk : Int)) + (-1)))), (7, .int (iI ((k3 : Int)))), (6, .ref hh), (4, .ref ld), (0, .ref ch), (1, .int (iI (((6 * (n - 1) : Nat) : Int)))), (2, .int (iI (((6 * n : Nat) : Int)))), (3, .int (iI ((d : Int))))]) hx hb d_Chain_divide_249 hl (q := 2) rfl rfl (by decide) rfl (fun ls hl => ?_)
                    refine lv_goto (tgt := 93) hx hb d_Chain_divide_252 (by decide) ?_
                    rw [show (kk : Int) + (-1) = ((kk - 1 : Nat) : Int) by omega] at hl
                    exact ih_LB (kk - 1) f_246 tm3 gg3 cl3 ((up Z4 hh (0))) (by omega) (by omega) hB_246 hCI3 hG3 (fun t ht => ⟨(hT3 t ht).1, by rw [up_ne _ _ (hneh t ht)]; exact (hT3 t ht).2⟩) (fun b hb => by rw [up_ne _ _ (ne_of_not hb hCh)]; exact hZ4 b hb) hst.1 (fun j h1 h2 => hst.2.1 j (by omega) h2) (by rw [show kk - 1 + 1 = kk + 1 - 1 by omega, rE_step al be eg (kk + 1) (by omega) (by omega)]; exact hst.2.2) (fun k h1 h2 => by rw [hfr_246 k h1 h2]; exact hfr4 k h1 h2) _ _ _ B (lv_sub hl [0, 3, 4, 5, 6, 7] rfl)
                  · refine lv_aload hx hb d_Chain_divide_120 (lv_at hl 1 rfl) ?_
                    refine x_bget (a := hh) hx hb hts inX0 hown B hF hSp hB4 hOk (hSh) (hts _ w_40) d_Chain_divide_122 ?_
                    have hsr122 := sign_rng (Z4 hh)
                    refine x_if_eq (tgt := 243) hx hb d_Chain_divide_125 (by decide) (by omega) (fun h125 => ?_) (fun h125 => ?_)
                    · have hke : Rr kk ≠ 0 → k3 = kk := fun h => by first | omega | exact absurd (sign_zr h125) (by rw [hZh]; exact h)
                      have hneh : ∀ t, t < 6 * n → tm t ≠ hh := fun t ht => by rw [hhh, ← (hhd kk hk3 (by omega)).1, ← (hT3 t ht).1]; exact fun h => by have := hCI3.2.1 _ _ (by omega) (by omega) h; omega
                      refine lv_aload hx hb d_Chain_divide_243 (lv_at hl 1 rfl) ?_
                      refine x_lconst (z := 0) hx hb d_Chain_divide_245 (by decide) ?_
                      have hx_246 := hB4.keep (X := [(ch, .inr (1, [.ref tt, .ref tq, .int (iI ((n : Int))), .int (iI tu), .int (iI fi), .ref cl3, .ref cr])), (tt, .inl (cs 3, 42, .inr (.inr (.inr (.inr gg3))))), (tq, .inl (cs 0, 7, .inl (ai tps)))]) hOk
                      obtain ⟨sd_2460, n_2460, lm_2460, c1_2460, c2_2460, c3_2460⟩ := hx_246 hh hSh
                      refine x_callv B hA (va_runV (As := [.long (lI 0)]) (rest := []) ⟨hx, hb, hml, hown, hts⟩ (c_Big_put l D cs _ _ _ hh (Qm hh) sd_2460 n_2460 lm_2460 0 (hSp.fc1 hSh) c1_2460 c2_2460 (by decide)) (cwV 1 hts (gw_V w_293 w_294 w_295 w_3 w_296) rfl rfl rfl (by decide +kernel) ⟨by rw [hRf]; exact Nat.le_of_ble_eq_true rfl, by rw [hRl]; exact Nat.le_of_ble_eq_true rfl⟩) ⟨K0.blind, B.recv (hSp.1 _ (hSh)).1 c1_2460 rfl, B.pre _⟩ rfl rfl hl.1 rfl (lv_room (Nat.le_of_ble_eq_true rfl)) d_Chain_divide_246 ⟨by rw [hRc]; omega, by rw [hRs]; omega⟩) (fun g246 H locs hw B => ?_)
                      obtain ⟨s_246, n_246, l_246, hz_246, rfl⟩ := hw
                      obtain ⟨f_246, hf_246⟩ : ∃ f_246, f_246 = mw (mw f4 [(ch, .inr (1, [.ref tt, .ref tq, .int (iI ((n : Int))), .int (iI tu), .int (iI fi), .ref cl3, .ref cr])), (tt, .inl (cs 3, 42, .inr (.inr (.inr (.inr gg3))))), (tq, .inl (cs 0, 7, .inl (ai tps)))]) [(hh, .inr (0, [.int (iI s_246), .int (iI (n_246 : Int)), .ref (Qm hh)])), (Qm hh, .inl (cs 0, 48, .inl (ai l_246)))] := ⟨_, rfl⟩
                      have hB_246 : BH cs f_246 S Qm (up Z4 hh (0)) := by rw [hf_246]; exact BH.set hSp (hB4.keep (X := [(ch, .inr (1, [.ref tt, .ref tq, .int (iI ((n : Int))), .int (iI tu), .int (iI fi), .ref cl3, .ref cr])), (tt, .inl (cs 3, 42, .inr (.inr (.inr (.inr gg3))))), (tq, .inl (cs 0, 7, .inl (ai tps)))]) hOk) hSh hz_246
                      have hfr_246 : ∀ k, Out S Qm k → k ∉ ([ch, tt, tq] : List Nat) → f_246 k = f4 k := fun k h1 h2 => by rw [hf_246, mw_out (h1.two hSh), mw_out (X := [(ch, .inr (1, [.ref tt, .ref tq, .int (iI ((n : Int))), .int (iI tu), .int (iI fi), .ref cl3, .ref cr])), (tt, .inl (cs 3, 42, .inr (.inr (.inr (.inr gg3))))), (tq, .inl (cs 0, 7, .inl (ai tps)))]) h2]
                      rw [← hf_246] at B
                      have B := B.focus [(ch, .inr (1, [.ref tt, .ref tq, .int (iI ((n : Int))), .int (iI tu), .int (iI fi), .ref cl3, .ref cr])), (tt, .inl (cs 3, 42, .inr (.inr (.inr (.inr gg3))))), (tq, .inl (cs 0, 7, .inl (ai tps)))] (by rw [hf_246]; exact foc hF.1 (fun k hk => (hOk k hk).two hSh))
                      have B : Wb D vwCl (TY cs) L (mw f_246 [(ch, .inr (1, [.ref tt, .ref tq, .int (iI ((n : Int))), .int (iI tu), .int (iI fi), .ref cl3, .ref cr])), (tt, .inl (cs 3, 42, .inr (.inr (.inr (.inr gg3))))), (tq, .inl (cs 0, 7, .inl (ai tps)))]) (AL L s.heap.size) s H _ := B
                      have hst := div_step (P0 := P) (q := q) (P := Rr) (P' := fun j => (up Z4 hh (0)) (tm3 (6 * n + j))) (tp := kk) (d := d) (i := rE al be eg (kk + 1)) (be := be) hRm (by omega) (by omega) hRz hqzz hq00 hRb hqq (fun j hj => by
                          show (up Z4 hh (0)) (tm3 (6 * n + j)) = _
                          by_cases h1 : j = kk
                          · rw [h1, if_pos rfl, (hhd kk hk3 (by omega)).1, ← hhh, up_self]
                          · rw [if_neg h1, up_ne _ _ (by rw [hhh, ← (hhd kk hk3 (by omega)).1]; exact fun h => by have := hCI3.2.1 _ _ (by omega) (by omega) h; omega)]
                            by_cases h2 : Rr kk = 0
                            · rw [if_pos h2, (hhd j (by have := hk0 h2; omega) hj).1]; exact (hhd j (by have := hk0 h2; omega) hj).2
                            · rw [if_neg h2]
                              have h4 := hke h2
                              by_cases h3 : j < kk
                              · rw [if_pos h3]; exact hdn j (by omega)
                              · rw [if_neg h3, (hhd j (by omega) hj).1]; exact (hhd j (by omega) hj).2)
                      refine x_iinc (lv' := [(5, .int (iI (((kk : Int)) + (-1)))), (7, .int (iI ((k3 : Int)))), (6, .ref hh), (4, .ref ld), (0, .ref ch), (1, .int (iI (((6 * (n - 1) : Nat) : Int)))), (2, .int (iI (((6 * n : Nat) : Int)))), (3, .int (iI ((d : Int))))]) hx hb d_Chain_divide_249 hl (q := 2) rfl rfl (by decide) rfl (fun ls hl => ?_)
                      refine lv_goto (tgt := 93) hx hb d_Chain_divide_252 (by decide) ?_
                      rw [show (kk : Int) + (-1) = ((kk - 1 : Nat) : Int) by omega] at hl
                      exact ih_LB (kk - 1) f_246 tm3 gg3 cl3 ((up Z4 hh (0))) (by omega) (by omega) hB_246 hCI3 hG3 (fun t ht => ⟨(hT3 t ht).1, by rw [up_ne _ _ (hneh t ht)]; exact (hT3 t ht).2⟩) (fun b hb => by rw [up_ne _ _ (ne_of_not hb hCh)]; exact hZ4 b hb) hst.1 (fun j h1 h2 => hst.2.1 j (by omega) h2) (by rw [show kk - 1 + 1 = kk + 1 - 1 by omega, rE_step al be eg (kk + 1) (by omega) (by omega)]; exact hst.2.2) (fun k h1 h2 => by rw [hfr_246 k h1 h2]; exact hfr4 k h1 h2) _ _ _ B (lv_sub hl [0, 3, 4, 5, 6, 7] rfl)
                    · obtain ⟨tk, htk⟩ : ∃ tk, tk = tm3 (6 * n + k3) := ⟨_, rfl⟩
                      have hgtk : gg3 (6 * n + k3) = some tk := by rw [htk]; exact hG3 _ (by omega)
                      have hCt : Ck tk := by rw [htk]; exact (hCI3.1 _ (by omega)).1
                      have hSt : S tk := hCS _ hCt
                      have hCl : Ck cl3 := hCI3.2.2.1
                      have hSl : S cl3 := hCS _ hCl
                      have hCr : Ck cr := hCI3.2.2.2.1
                      have hSr : S cr := hCS _ hCr
                      have hlr : cl3 ≠ cr := hCI3.2.2.2.2
                      have hnl : ∀ t, t < 6 * n → tm t ≠ cl3 := fun t ht => by rw [← (hT3 t ht).1]; exact (hCI3.1 t (by omega)).2.1
                      have hnr : ∀ t, t < 6 * n → tm t ≠ cr := fun t ht => by rw [← (hT3 t ht).1]; exact (hCI3.1 t (by omega)).2.2
                      have hldl : ld ≠ cl3 := by rw [hld]; exact hnl _ (by omega)
                      have hldr : ld ≠ cr := by rw [hld]; exact hnr _ (by omega)
                      have htkl : tk ≠ cl3 := by rw [htk]; exact (hCI3.1 _ (by omega)).2.1
                      have htkr : tk ≠ cr := by rw [htk]; exact (hCI3.1 _ (by omega)).2.2
                      have hldt : ld ≠ tk := by rw [hld, htk, ← (hT3 (6 * (n - 1) + d) (by omega)).1]; exact fun h => by have := hCI3.2.1 _ _ (by omega) (by omega) h; omega
                      have hhl : hh ≠ cl3 := by rw [hhh, ← (hhd kk hk3 (by omega)).1]; exact (hCI3.1 _ (by omega)).2.1
                      have hhr : hh ≠ cr := by rw [hhh, ← (hhd kk hk3 (by omega)).1]; exact (hCI3.1 _ (by omega)).2.2
                      have hZd : Z4 ld = q d := by rw [hld, (hT3 _ (by omega)).2, hqd]
                      have hZt : Z4 tk = Rr k3 := by rw [htk, (hhd k3 (Nat.le_refl _) (by omega)).1]; exact (hhd k3 (Nat.le_refl _) (by omega)).2
                      have hrm := dvs_room hRb hqq hrk (a := d) (b := k3) (c := kk) (d := k3 + d - kk) (by omega) (by omega) (by omega) (by omega)
                      have J190 : ∀ (f5 : Nat → va_E) (Z5 : Nat → Int), (BH cs f5 S Qm Z5) → (Z5 cl3 * (q d).sign = nwc Rr q kk d (q d).sign ((q d).natAbs : Int) k3) → (∀ b, b ≠ cl3 → b ≠ cr → Z5 b = Z4 b) → (∀ k, Out S Qm k → k ∉ ([ch, tt, tq] : List Nat) → f5 k = f k) → ∀ (H : Heap) (locs : List Loc) (ls : Array Slot), Wb D vwCl (TY cs) L (mw f5 [(ch, .inr (1, [.ref tt, .ref tq, .int (iI ((n : Int))), .int (iI tu), .int (iI fi), .ref cl3, .ref cr])), (tt, .inl (cs 3, 42, .inr (.inr (.inr (.inr gg3))))), (tq, .inl (cs 0, 7, .inl (ai tps)))]) (AL L s.heap.size) s H locs → lv_has ls 9 [(7, .int (iI ((k3 : Int)))), (6, .ref hh), (5, .int (iI ((kk : Int)))), (4, .ref ld), (0, .ref ch), (1, .int (iI (((6 * (n - 1) : Nat) : Int)))), (2, .int (iI (((6 * n : Nat) : Int)))), (3, .int (iI ((d : Int))))] → W p l e R s m av below meth c H locs (0) (0) Q (F0 m 190 ls []) := by
                        intro f5 Z5 hB5 hzl hZo5 hfr5 H locs ls B hl
                        have hZld : Z5 ld = q d := by rw [hZo5 _ hldl hldr]; exact hZd
                        have hmr := sign_mrng (Z5 cl3) (Z5 ld)
                        refine lv_aload_n hx hb d_Chain_divide_190 rfl (lv_at hl 4 rfl) ?_
                        refine x_get (C := RX1) (T := TX1) (N := 7) hx hb hts inX1 hown B hF 0 rfl rfl 5 (by decide) (hts _ w_59) (fun _ h9 => h9) rfl d_Chain_divide_191 ?_
                        refine lv_dup hx hb d_Chain_divide_194 rfl ?_
                        refine x_bget (a := cl3) hx hb hts inX0 hown B hF hSp hB5 hOk (hSl) (hts _ w_40) d_Chain_divide_195 ?_
                        have hsr195 := sign_rng (Z5 cl3)
                        refine lv_aload hx hb d_Chain_divide_198 (lv_at hl 3 rfl) ?_
                        refine x_bget (a := ld) hx hb hts inX0 hown B hF hSp hB5 hOk (hSd) (hts _ w_40) d_Chain_divide_200 ?_
                        have hsr200 := sign_rng (Z5 ld)
                        refine x_imul hx hb d_Chain_divide_203 ?_
                        refine x_bput (Z5 cl3 * (Z5 ld).sign) hx hb hts inX0 hown B hF hSp hB5 hOk (hSl) (fun n9 lm9 h9 => h9.sgm (sign_nz (by rw [hZld]; exact hq00))) (hts _ w_40) d_Chain_divide_204 (fun f_204 H locs hB_204 hfr_204 B => ?_)
                        have B : Wb D vwCl (TY cs) L (mw f_204 [(ch, .inr (1, [.ref tt, .ref tq, .int (iI ((n : Int))), .int (iI tu), .int (iI fi), .ref cl3, .ref cr])), (tt, .inl (cs 3, 42, .inr (.inr (.inr (.inr gg3))))), (tq, .inl (cs 0, 7, .inl (ai tps)))]) (AL L s.heap.size) s H _ := B
                        refine lv_aload_n hx hb d_Chain_divide_207 rfl (lv_at hl 4 rfl) ?_
                        refine x_get (C := RX1) (T := TX1) (N := 7) hx hb hts inX1 hown B hF 0 rfl rfl 0 (by decide) (hts _ w_52) (fun _ h9 => h9) rfl d_Chain_divide_208 ?_
                        refine lv_iload_n hx hb d_Chain_divide_211 rfl (lv_at hl 6 rfl) ?_
                        refine lv_iload hx hb d_Chain_divide_212 (lv_at hl 0 rfl) ?_
                        refine x_iadd hx hb d_Chain_divide_214 ?_
                        refine x_aald hx hb B hF 1 3 rfl rfl (6 * n + k3) (by omega) (by omega) (by decide) (hgtk) d_Chain_divide_215 ?_
                        refine lv_astore (lv' := [(8, .ref tk), (7, .int (iI ((k3 : Int)))), (6, .ref hh), (5, .int (iI ((kk : Int)))), (4, .ref ld), (0, .ref ch), (1, .int (iI (((6 * (n - 1) : Nat) : Int)))), (2, .int (iI (((6 * n : Nat) : Int)))), (3, .int (iI ((d : Int))))]) hx hb d_Chain_divide_216 hl (by decide) rfl (fun ls hl => ?_)
                        refine lv_aload_n hx hb d_Chain_divide_218 rfl (lv_at hl 5 rfl) ?_
                        refine x_get (C := RX1) (T := TX1) (N := 7) hx hb hts inX1 hown B hF 0 rfl rfl 0 (by decide) (hts _ w_52) (fun _ h9 => h9) rfl d_Chain_divide_219 ?_
                        refine lv_iload_n hx hb d_Chain_divide_222 rfl (lv_at hl 7 rfl) ?_
                        refine lv_iload hx hb d_Chain_divide_223 (lv_at hl 1 rfl) ?_
                        refine x_iadd hx hb d_Chain_divide_225 ?_
                        refine lv_aload_n hx hb d_Chain_divide_226 rfl (lv_at hl 5 rfl) ?_
                        refine x_get (C := RX1) (T := TX1) (N := 7) hx hb hts inX1 hown B hF 0 rfl rfl 5 (by decide) (hts _ w_59) (fun _ h9 => h9) rfl d_Chain_divide_227 ?_
                        obtain ⟨sq230, nq230, lq230, eq230, -, -⟩ := (hB_204.keep (X := [(ch, .inr (1, [.ref tt, .ref tq, .int (iI ((n : Int))), .int (iI tu), .int (iI fi), .ref cl3, .ref cr])), (tt, .inl (cs 3, 42, .inr (.inr (.inr (.inr gg3))))), (tq, .inl (cs 0, 7, .inl (ai tps)))]) hOk) cl3 (hSl)
                        refine x_aast hx hb B hF 1 3 0 rfl rfl (hSp.1 _ (hSl)).1 eq230 rfl (6 * n + k3) (by omega) (by omega) (by decide) d_Chain_divide_230 (fun H locs B => ?_)
                        have B : Wb D vwCl (TY cs) L (mw f_204 [(ch, .inr (1, [.ref tt, .ref tq, .int (iI ((n : Int))), .int (iI tu), .int (iI fi), .ref cl3, .ref cr])), (tt, .inl (cs 3, 42, .inr (.inr (.inr (.inr (va_up gg3 (6 * n + k3) (some cl3))))))), (tq, .inl (cs 0, 7, .inl (ai tps)))]) (AL L s.heap.size) s H _ := B
                        refine lv_aload_n hx hb d_Chain_divide_231 rfl (lv_at hl 5 rfl) ?_
                        refine lv_aload hx hb d_Chain_divide_232 (lv_at hl 0 rfl) ?_
                        refine x_put (C := RX1) (T := TX1) (N := 7) hx hb hts inX1 tyX1 tyX1_ok nmX1 hown B hF 0 rfl rfl 5 (by decide) (hts _ w_59) (fun _ h9 => h9) rfl (tyX1_ok 5 (by decide)) rfl rfl (Nat.le_of_ble_eq_true rfl) d_Chain_divide_234 (fun H locs B => ?_)
                        have B : Wb D vwCl (TY cs) L (mw f_204 [(ch, .inr (1, [.ref tt, .ref tq, .int (iI ((n : Int))), .int (iI tu), .int (iI fi), .ref tk, .ref cr])), (tt, .inl (cs 3, 42, .inr (.inr (.inr (.inr (va_up gg3 (6 * n + k3) (some cl3))))))), (tq, .inl (cs 0, 7, .inl (ai tps)))]) (AL L s.heap.size) s H _ := B
                        refine x_iinc (lv' := [(7, .int (iI (((k3 : Int)) + 1))), (8, .ref tk), (6, .ref hh), (5, .int (iI ((kk : Int)))), (4, .ref ld), (0, .ref ch), (1, .int (iI (((6 * (n - 1) : Nat) : Int)))), (2, .int (iI (((6 * n : Nat) : Int)))), (3, .int (iI ((d : Int))))]) hx hb d_Chain_divide_237 hl (q := 1) rfl rfl (by decide) rfl (fun ls hl => ?_)
                        refine lv_goto (tgt := 113) hx hb d_Chain_divide_240 (by decide) ?_
                        exact ih_LC (k3 + 1) f_204 (va_up tm3 (6 * n + k3) cl3) (va_up gg3 (6 * n + k3) (some cl3)) tk ((up Z5 cl3 (Z5 cl3 * (Z5 ld).sign))) (by omega) (by omega) hB_204 (by rw [htk]; exact hCI3.swap (by omega)) (gg_swap hG3) (fun t ht => ⟨by rw [va_up_ne _ _ (by omega)]; exact (hT3 t ht).1, by rw [up_ne _ _ (hnl t ht), hZo5 _ (hnl t ht) (hnr t ht)]; exact (hT3 t ht).2⟩) (fun b hb => by rw [up_ne _ _ (ne_of_not hb hCl), hZo5 b (ne_of_not hb hCl) (ne_of_not hb hCr)]; exact hZ4 b hb) (fun j h1 h2 => by
                                                have h3 := hhd j (by omega) h2
                                                have h4 := hCI3.1 (6 * n + j) (by omega)
                                                rw [h3.1] at h4
                                                exact ⟨by rw [va_up_ne _ _ (by omega)]; exact h3.1, by rw [up_ne _ _ h4.2.1, hZo5 _ h4.2.1 h4.2.2]; exact h3.2⟩) (fun j hj => by
                                                by_cases hjk : j = k3
                                                · rw [hjk, va_up_self, up_self, hZld]; exact hzl
                                                · have h4 := hCI3.1 (6 * n + j) (by omega)
                                                  rw [va_up_ne _ _ (by omega), up_ne _ _ h4.2.1, hZo5 _ h4.2.1 h4.2.2]; exact hdn j (by omega)) (fun h => absurd (show (Z4 hh).sign = 0 by rw [hZh, h]; rfl) h125) (fun k h1 h2 => by rw [hfr_204 k h1 h2]; exact hfr5 k h1 h2) _ _ _ B (lv_sub hl [0, 2, 3, 4, 5, 6, 7, 8] rfl)
                      refine lv_aload_n hx hb d_Chain_divide_128 rfl (lv_at hl 4 rfl) ?_
                      refine x_get (C := RX1) (T := TX1) (N := 7) hx hb hts inX1 hown B hF 0 rfl rfl 5 (by decide) (hts _ w_59) (fun _ h9 => h9) rfl d_Chain_divide_129 ?_
                      refine lv_aload hx hb d_Chain_divide_132 (lv_at hl 3 rfl) ?_
                      refine lv_aload_n hx hb d_Chain_divide_134 rfl (lv_at hl 4 rfl) ?_
                      refine x_get (C := RX1) (T := TX1) (N := 7) hx hb hts inX1 hown B hF 0 rfl rfl 0 (by decide) (hts _ w_52) (fun _ h9 => h9) rfl d_Chain_divide_135 ?_
                      refine lv_iload_n hx hb d_Chain_divide_138 rfl (lv_at hl 6 rfl) ?_
                      refine lv_iload hx hb d_Chain_divide_139 (lv_at hl 0 rfl) ?_
                      refine x_iadd hx hb d_Chain_divide_141 ?_
                      refine x_aald hx hb B hF 1 3 rfl rfl (6 * n + k3) (by omega) (by omega) (by decide) (hgtk) d_Chain_divide_142 ?_
                      have hx_143 := hB4.keep (X := [(ch, .inr (1, [.ref tt, .ref tq, .int (iI ((n : Int))), .int (iI tu), .int (iI fi), .ref cl3, .ref cr])), (tt, .inl (cs 3, 42, .inr (.inr (.inr (.inr gg3))))), (tq, .inl (cs 0, 7, .inl (ai tps)))]) hOk
                      obtain ⟨sd_1430, n_1430, lm_1430, c1_1430, c2_1430, c3_1430⟩ := hx_143 cl3 hSl
                      obtain ⟨sd_1431, n_1431, lm_1431, c1_1431, c2_1431, c3_1431⟩ := hx_143 ld hSd
                      obtain ⟨sd_1432, n_1432, lm_1432, c1_1432, c2_1432, c3_1432⟩ := hx_143 tk hSt
                      refine x_callv B hA (va_runV (As := [.ref ld, .ref tk]) (rest := []) ⟨hx, hb, hml, hown, hts⟩ (c_Big_product l D cs _ _ _ cl3 (Qm cl3) sd_1430 n_1430 lm_1430 ld (Qm ld) sd_1431 n_1431 lm_1431 (Z4 ld) tk (Qm tk) sd_1432 n_1432 lm_1432 (Z4 tk)  (hSp.fc3 hSl hSd hSt (Ne.symm hldl) (Ne.symm htkl) hldt) c1_1430 c2_1430 c1_1431 c2_1431 c3_1431 c1_1432 c2_1432 c3_1432 (by rw [hZd, hZt]; exact hrm.1)) (cwV 2 hts (gw_V w_306 w_307 w_308 w_3 w_309) rfl rfl rfl (by decide +kernel) ⟨by rw [hRf]; exact Nat.le_of_ble_eq_true rfl, by rw [hRl]; exact Nat.le_of_ble_eq_true rfl⟩) ⟨K0.blind, B.recv (hSp.1 _ (hSl)).1 c1_1430 rfl, B.pre _⟩ rfl rfl hl.1 rfl (lv_room (Nat.le_of_ble_eq_true rfl)) d_Chain_divide_143 ⟨by rw [hRc]; omega, by rw [hRs]; omega⟩) (fun g143 H locs hw B => ?_)
                      obtain ⟨s_143, n_143, l_143, hz_143, rfl⟩ := hw
                      obtain ⟨f_143, hf_143⟩ : ∃ f_143, f_143 = mw (mw f4 [(ch, .inr (1, [.ref tt, .ref tq, .int (iI ((n : Int))), .int (iI tu), .int (iI fi), .ref cl3, .ref cr])), (tt, .inl (cs 3, 42, .inr (.inr (.inr (.inr gg3))))), (tq, .inl (cs 0, 7, .inl (ai tps)))]) [(cl3, .inr (0, [.int (iI s_143), .int (iI (n_143 : Int)), .ref (Qm cl3)])), (Qm cl3, .inl (cs 0, 48, .inl (ai l_143)))] := ⟨_, rfl⟩
                      have hB_143 : BH cs f_143 S Qm (up Z4 cl3 (Z4 ld * Z4 tk)) := by rw [hf_143]; exact BH.set hSp (hB4.keep (X := [(ch, .inr (1, [.ref tt, .ref tq, .int (iI ((n : Int))), .int (iI tu), .int (iI fi), .ref cl3, .ref cr])), (tt, .inl (cs 3, 42, .inr (.inr (.inr (.inr gg3))))), (tq, .inl (cs 0, 7, .inl (ai tps)))]) hOk) hSl hz_143
                      have hfr_143 : ∀ k, Out S Qm k → k ∉ ([ch, tt, tq] : List Nat) → f_143 k = f4 k := fun k h1 h2 => by rw [hf_143, mw_out (h1.two hSl), mw_out (X := [(ch, .inr (1, [.ref tt, .ref tq, .int (iI ((n : Int))), .int (iI tu), .int (iI fi), .ref cl3, .ref cr])), (tt, .inl (cs 3, 42, .inr (.inr (.inr (.inr gg3))))), (tq, .inl (cs 0, 7, .inl (ai tps)))]) h2]
                      rw [← hf_143] at B
                      have B := B.focus [(ch, .inr (1, [.ref tt, .ref tq, .int (iI ((n : Int))), .int (iI tu), .int (iI fi), .ref cl3, .ref cr])), (tt, .inl (cs 3, 42, .inr (.inr (.inr (.inr gg3))))), (tq, .inl (cs 0, 7, .inl (ai tps)))] (by rw [hf_143]; exact foc hF.1 (fun k hk => (hOk k hk).two hSl))
                      have B : Wb D vwCl (TY cs) L (mw f_143 [(ch, .inr (1, [.ref tt, .ref tq, .int (iI ((n : Int))), .int (iI tu), .int (iI fi), .ref cl3, .ref cr])), (tt, .inl (cs 3, 42, .inr (.inr (.inr (.inr gg3))))), (tq, .inl (cs 0, 7, .inl (ai tps)))]) (AL L s.heap.size) s H _ := B
                      refine lv_iload hx hb d_Chain_divide_146 (lv_at hl 0 rfl) ?_
                      refine lv_iload_n hx hb d_Chain_divide_148 rfl (lv_at hl 7 rfl) ?_
                      refine x_iadd hx hb d_Chain_divide_149 ?_
                      refine lv_iload hx hb d_Chain_divide_150 (lv_at hl 2 rfl) ?_
                      refine x_icmp_lt (tgt := 190) hx hb d_Chain_divide_152 (by decide) (by omega) (by omega) (fun h152 => ?_) (fun h152 => ?_)
                      · exact J190 f_143 ((up Z4 cl3 (Z4 ld * Z4 tk))) hB_143 (by rw [up_self, hZd, hZt]; exact nwc_of2 (by omega)) (fun b h1 h2 => by rw [up_ne _ _ h1]) (fun k h1 h2 => by rw [hfr_143 k h1 h2]; exact hfr4 k h1 h2) _ _ _ B (lv_sub hl [0, 1, 2, 3, 4, 5, 6, 7] rfl)
                      · obtain ⟨qk, hqk⟩ : ∃ qk, qk = tm (6 * (n - 1) + (k3 + d - kk)) := ⟨_, rfl⟩
                        have hgqk : gg3 (6 * (n - 1) + (k3 + d - kk)) = some qk := by rw [hqk, ← (hT3 _ (by omega)).1]; exact hG3 _ (by omega)
                        have hSq : S qk := by rw [hqk, ← (hT3 _ (by omega)).1]; exact hCS _ (hCI3.1 _ (by omega)).1
                        have hqkl : qk ≠ cl3 := by rw [hqk]; exact hnl _ (by omega)
                        have hqkr : qk ≠ cr := by rw [hqk]; exact hnr _ (by omega)
                        have hhq : hh ≠ qk := by rw [hqk, hhh, ← (hhd kk hk3 (by omega)).1, ← (hT3 (6 * (n - 1) + (k3 + d - kk)) (by omega)).1]; exact fun h => by have := hCI3.2.1 _ _ (by omega) (by omega) h; omega
                        have z4h : (up Z4 cl3 (Z4 ld * Z4 tk)) hh = Rr kk := by rw [up_ne _ _ hhl]; exact hZh
                        have z4q : (up Z4 cl3 (Z4 ld * Z4 tk)) qk = q (k3 + d - kk) := by rw [up_ne _ _ hqkl, hqk, (hT3 _ (by omega)).2, hqd]
                        refine lv_aload_n hx hb d_Chain_divide_155 rfl (lv_at hl 4 rfl) ?_
                        refine x_get (C := RX1) (T := TX1) (N := 7) hx hb hts inX1 hown B hF 0 rfl rfl 6 (by decide) (hts _ w_60) (fun _ h9 => h9) rfl d_Chain_divide_156 ?_
                        refine lv_aload hx hb d_Chain_divide_159 (lv_at hl 1 rfl) ?_
                        refine lv_aload_n hx hb d_Chain_divide_161 rfl (lv_at hl 4 rfl) ?_
                        refine x_get (C := RX1) (T := TX1) (N := 7) hx hb hts inX1 hown B hF 0 rfl rfl 0 (by decide) (hts _ w_52) (fun _ h9 => h9) rfl d_Chain_divide_162 ?_
                        refine lv_iload_n hx hb d_Chain_divide_165 rfl (lv_at hl 5 rfl) ?_
                        refine lv_iload hx hb d_Chain_divide_166 (lv_at hl 0 rfl) ?_
                        refine x_iadd hx hb d_Chain_divide_168 ?_
                        refine lv_iload_n hx hb d_Chain_divide_169 rfl (lv_at hl 7 rfl) ?_
                        refine x_iadd hx hb d_Chain_divide_170 ?_
                        refine lv_iload hx hb d_Chain_divide_171 (lv_at hl 2 rfl) ?_
                        refine x_isub hx hb d_Chain_divide_173 ?_
                        refine x_aald hx hb B hF 1 3 rfl rfl (6 * (n - 1) + (k3 + d - kk)) (by omega) (by omega) (by decide) (hgqk) d_Chain_divide_174 ?_
                        have hx_175 := hB_143.keep (X := [(ch, .inr (1, [.ref tt, .ref tq, .int (iI ((n : Int))), .int (iI tu), .int (iI fi), .ref cl3, .ref cr])), (tt, .inl (cs 3, 42, .inr (.inr (.inr (.inr gg3))))), (tq, .inl (cs 0, 7, .inl (ai tps)))]) hOk
                        obtain ⟨sd_1750, n_1750, lm_1750, c1_1750, c2_1750, c3_1750⟩ := hx_175 cr hSr
                        obtain ⟨sd_1751, n_1751, lm_1751, c1_1751, c2_1751, c3_1751⟩ := hx_175 hh hSh
                        obtain ⟨sd_1752, n_1752, lm_1752, c1_1752, c2_1752, c3_1752⟩ := hx_175 qk hSq
                        refine x_callv B hA (va_runV (As := [.ref hh, .ref qk]) (rest := []) ⟨hx, hb, hml, hown, hts⟩ (c_Big_product l D cs _ _ _ cr (Qm cr) sd_1750 n_1750 lm_1750 hh (Qm hh) sd_1751 n_1751 lm_1751 ((up Z4 cl3 (Z4 ld * Z4 tk)) hh) qk (Qm qk) sd_1752 n_1752 lm_1752 ((up Z4 cl3 (Z4 ld * Z4 tk)) qk)  (hSp.fc3 hSr hSh hSq (Ne.symm hhr) (Ne.symm hqkr) hhq) c1_1750 c2_1750 c1_1751 c2_1751 c3_1751 c1_1752 c2_1752 c3_1752 (by rw [z4h, z4q]; exact hrm.2.1)) (cwV 2 hts (gw_V w_306 w_307 w_308 w_3 w_309) rfl rfl rfl (by decide +kernel) ⟨by rw [hRf]; exact Nat.le_of_ble_eq_true rfl, by rw [hRl]; exact Nat.le_of_ble_eq_true rfl⟩) ⟨K0.blind, B.recv (hSp.1 _ (hSr)).1 c1_1750 rfl, B.pre _⟩ rfl rfl hl.1 rfl (lv_room (Nat.le_of_ble_eq_true rfl)) d_Chain_divide_175 ⟨by rw [hRc]; omega, by rw [hRs]; omega⟩) (fun g175 H locs hw B => ?_)
                        obtain ⟨s_175, n_175, l_175, hz_175, rfl⟩ := hw
                        obtain ⟨f_175, hf_175⟩ : ∃ f_175, f_175 = mw (mw f_143 [(ch, .inr (1, [.ref tt, .ref tq, .int (iI ((n : Int))), .int (iI tu), .int (iI fi), .ref cl3, .ref cr])), (tt, .inl (cs 3, 42, .inr (.inr (.inr (.inr gg3))))), (tq, .inl (cs 0, 7, .inl (ai tps)))]) [(cr, .inr (0, [.int (iI s_175), .int (iI (n_175 : Int)), .ref (Qm cr)])), (Qm cr, .inl (cs 0, 48, .inl (ai l_175)))] := ⟨_, rfl⟩
                        have hB_175 : BH cs f_175 S Qm (up ((up Z4 cl3 (Z4 ld * Z4 tk))) cr ((up Z4 cl3 (Z4 ld * Z4 tk)) hh * (up Z4 cl3 (Z4 ld * Z4 tk)) qk)) := by rw [hf_175]; exact BH.set hSp (hB_143.keep (X := [(ch, .inr (1, [.ref tt, .ref tq, .int (iI ((n : Int))), .int (iI tu), .int (iI fi), .ref cl3, .ref cr])), (tt, .inl (cs 3, 42, .inr (.inr (.inr (.inr gg3))))), (tq, .inl (cs 0, 7, .inl (ai tps)))]) hOk) hSr hz_175
                        have hfr_175 : ∀ k, Out S Qm k → k ∉ ([ch, tt, tq] : List Nat) → f_175 k = f_143 k := fun k h1 h2 => by rw [hf_175, mw_out (h1.two hSr), mw_out (X := [(ch, .inr (1, [.ref tt, .ref tq, .int (iI ((n : Int))), .int (iI tu), .int (iI fi), .ref cl3, .ref cr])), (tt, .inl (cs 3, 42, .inr (.inr (.inr (.inr gg3))))), (tq, .inl (cs 0, 7, .inl (ai tps)))]) h2]
                        rw [← hf_175] at B
                        have B := B.focus [(ch, .inr (1, [.ref tt, .ref tq, .int (iI ((n : Int))), .int (iI tu), .int (iI fi), .ref cl3, .ref cr])), (tt, .inl (cs 3, 42, .inr (.inr (.inr (.inr gg3))))), (tq, .inl (cs 0, 7, .inl (ai tps)))] (by rw [hf_175]; exact foc hF.1 (fun k hk => (hOk k hk).two hSr))
                        have B : Wb D vwCl (TY cs) L (mw f_175 [(ch, .inr (1, [.ref tt, .ref tq, .int (iI ((n : Int))), .int (iI tu), .int (iI fi), .ref cl3, .ref cr])), (tt, .inl (cs 3, 42, .inr (.inr (.inr (.inr gg3))))), (tq, .inl (cs 0, 7, .inl (ai tps)))]) (AL L s.heap.size) s H _ := B
                        refine lv_aload_n hx hb d_Chain_divide_178 rfl (lv_at hl 4 rfl) ?_
                        refine x_get (C := RX1) (T := TX1) (N := 7) hx hb hts inX1 hown B hF 0 rfl rfl 5 (by decide) (hts _ w_59) (fun _ h9 => h9) rfl d_Chain_divide_179 ?_
                        refine lv_aload_n hx hb d_Chain_divide_182 rfl (lv_at hl 4 rfl) ?_
                        refine x_get (C := RX1) (T := TX1) (N := 7) hx hb hts inX1 hown B hF 0 rfl rfl 6 (by decide) (hts _ w_60) (fun _ h9 => h9) rfl d_Chain_divide_183 ?_
                        refine x_iconst hx hb d_Chain_divide_186 ?_
                        have z5l : (up (up Z4 cl3 (Z4 ld * Z4 tk)) cr ((up Z4 cl3 (Z4 ld * Z4 tk)) hh * (up Z4 cl3 (Z4 ld * Z4 tk)) qk)) cl3 = q d * Rr k3 := by rw [up_ne _ _ hlr, up_self, hZd, hZt]
                        have z5r : (up (up Z4 cl3 (Z4 ld * Z4 tk)) cr ((up Z4 cl3 (Z4 ld * Z4 tk)) hh * (up Z4 cl3 (Z4 ld * Z4 tk)) qk)) cr = Rr kk * q (k3 + d - kk) := by rw [up_self, z4h, z4q]
                        have hx_187 := hB_175.keep (X := [(ch, .inr (1, [.ref tt, .ref tq, .int (iI ((n : Int))), .int (iI tu), .int (iI fi), .ref cl3, .ref cr])), (tt, .inl (cs 3, 42, .inr (.inr (.inr (.inr gg3))))), (tq, .inl (cs 0, 7, .inl (ai tps)))]) hOk
                        obtain ⟨sd_1870, n_1870, lm_1870, c1_1870, c2_1870, c3_1870⟩ := hx_187 cl3 hSl
                        obtain ⟨sd_1871, n_1871, lm_1871, c1_1871, c2_1871, c3_1871⟩ := hx_187 cr hSr
                        refine x_callv B hA (va_runV (As := [.ref cr, .int (iI (-1))]) (rest := []) ⟨hx, hb, hml, hown, hts⟩ (c_Big_add l D cs _ _ _ cl3 (Qm cl3) sd_1870 n_1870 lm_1870 ((up ((up Z4 cl3 (Z4 ld * Z4 tk))) cr ((up Z4 cl3 (Z4 ld * Z4 tk)) hh * (up Z4 cl3 (Z4 ld * Z4 tk)) qk)) cl3) cr (Qm cr) sd_1871 n_1871 lm_1871 ((up ((up Z4 cl3 (Z4 ld * Z4 tk))) cr ((up Z4 cl3 (Z4 ld * Z4 tk)) hh * (up Z4 cl3 (Z4 ld * Z4 tk)) qk)) cr) (-1) (hSp.fc2 hSl hSr hlr) c1_1870 c2_1870 c3_1870 c1_1871 c2_1871 c3_1871 (Or.inr rfl) (by rw [z5l, z5r]; exact hrm.2.2)) (cwV 2 hts (gw_V w_310 w_311 w_312 w_3 w_313) rfl rfl rfl (by decide +kernel) ⟨by rw [hRf]; exact Nat.le_of_ble_eq_true rfl, by rw [hRl]; exact Nat.le_of_ble_eq_true rfl⟩) ⟨K0.blind, B.recv (hSp.1 _ (hSl)).1 c1_1870 rfl, B.pre _⟩ rfl rfl hl.1 rfl (lv_room (Nat.le_of_ble_eq_true rfl)) d_Chain_divide_187 ⟨by rw [hRc]; omega, by rw [hRs]; omega⟩) (fun g187 H locs hw B => ?_)
                        obtain ⟨s_187, n_187, l_187, hz_187, rfl⟩ := hw
                        obtain ⟨f_187, hf_187⟩ : ∃ f_187, f_187 = mw (mw f_175 [(ch, .inr (1, [.ref tt, .ref tq, .int (iI ((n : Int))), .int (iI tu), .int (iI fi), .ref cl3, .ref cr])), (tt, .inl (cs 3, 42, .inr (.inr (.inr (.inr gg3))))), (tq, .inl (cs 0, 7, .inl (ai tps)))]) [(cl3, .inr (0, [.int (iI s_187), .int (iI (n_187 : Int)), .ref (Qm cl3)])), (Qm cl3, .inl (cs 0, 48, .inl (ai l_187)))] := ⟨_, rfl⟩
                        have hB_187 : BH cs f_187 S Qm (up ((up ((up Z4 cl3 (Z4 ld * Z4 tk))) cr ((up Z4 cl3 (Z4 ld * Z4 tk)) hh * (up Z4 cl3 (Z4 ld * Z4 tk)) qk))) cl3 ((up (up Z4 cl3 (Z4 ld * Z4 tk)) cr ((up Z4 cl3 (Z4 ld * Z4 tk)) hh * (up Z4 cl3 (Z4 ld * Z4 tk)) qk)) cl3 + -1 * (up (up Z4 cl3 (Z4 ld * Z4 tk)) cr ((up Z4 cl3 (Z4 ld * Z4 tk)) hh * (up Z4 cl3 (Z4 ld * Z4 tk)) qk)) cr)) := by rw [hf_187]; exact BH.set hSp (hB_175.keep (X := [(ch, .inr (1, [.ref tt, .ref tq, .int (iI ((n : Int))), .int (iI tu), .int (iI fi), .ref cl3, .ref cr])), (tt, .inl (cs 3, 42, .inr (.inr (.inr (.inr gg3))))), (tq, .inl (cs 0, 7, .inl (ai tps)))]) hOk) hSl hz_187
                        have hfr_187 : ∀ k, Out S Qm k → k ∉ ([ch, tt, tq] : List Nat) → f_187 k = f_175 k := fun k h1 h2 => by rw [hf_187, mw_out (h1.two hSl), mw_out (X := [(ch, .inr (1, [.ref tt, .ref tq, .int (iI ((n : Int))), .int (iI tu), .int (iI fi), .ref cl3, .ref cr])), (tt, .inl (cs 3, 42, .inr (.inr (.inr (.inr gg3))))), (tq, .inl (cs 0, 7, .inl (ai tps)))]) h2]
                        rw [← hf_187] at B
                        have B := B.focus [(ch, .inr (1, [.ref tt, .ref tq, .int (iI ((n : Int))), .int (iI tu), .int (iI fi), .ref cl3, .ref cr])), (tt, .inl (cs 3, 42, .inr (.inr (.inr (.inr gg3))))), (tq, .inl (cs 0, 7, .inl (ai tps)))] (by rw [hf_187]; exact foc hF.1 (fun k hk => (hOk k hk).two hSl))
                        have B : Wb D vwCl (TY cs) L (mw f_187 [(ch, .inr (1, [.ref tt, .ref tq, .int (iI ((n : Int))), .int (iI tu), .int (iI fi), .ref cl3, .ref cr])), (tt, .inl (cs 3, 42, .inr (.inr (.inr (.inr gg3))))), (tq, .inl (cs 0, 7, .inl (ai tps)))]) (AL L s.heap.size) s H _ := B
                        exact J190 f_187 ((up ((up ((up Z4 cl3 (Z4 ld * Z4 tk))) cr ((up Z4 cl3 (Z4 ld * Z4 tk)) hh * (up Z4 cl3 (Z4 ld * Z4 tk)) qk))) cl3 ((up (up Z4 cl3 (Z4 ld * Z4 tk)) cr ((up Z4 cl3 (Z4 ld * Z4 tk)) hh * (up Z4 cl3 (Z4 ld * Z4 tk)) qk)) cl3 + -1 * (up (up Z4 cl3 (Z4 ld * Z4 tk)) cr ((up Z4 cl3 (Z4 ld * Z4 tk)) hh * (up Z4 cl3 (Z4 ld * Z4 tk)) qk)) cr))) hB_187 (by rw [up_self, z5l, z5r]; exact nwc_of (by omega) (by omega)) (fun b h1 h2 => by rw [up_ne _ _ h1, up_ne _ _ h2, up_ne _ _ h1]) (fun k h1 h2 => by rw [hfr_187 k h1 h2, hfr_175 k h1 h2, hfr_143 k h1 h2]; exact hfr4 k h1 h2) _ _ _ B (lv_sub hl [0, 1, 2, 3, 4, 5, 6, 7] rfl)
              exact LC _ 0 f3 tm2 gg2 cl2 Z3 (Nat.lt_succ_self _) (by omega) hB3 hCI2 hG2 hT2 hZ3 (fun j _ _ => ⟨rfl, (hRd j).symm⟩) (fun j hj => by omega) (fun _ => rfl) hfr3 _ _ _ B (lv_sub hl [0, 1, 2, 3, 4, 5, 6, 7] rfl)
        exact LB _ eg f2 tm gg cl Z2 (Nat.lt_succ_self _) (by omega) hB2 hCI hG (fun t ht => ⟨rfl, hZo _ (fun j hj => hinj _ _ (by omega) (by omega) (by omega))⟩) (fun b hb => hZo b (fun j hj h => hb (by rw [h]; exact (hCI.1 _ (by omega)).1))) ((Rem.refl P q).cgr (fun j hj => hI j (by omega))) (fun j h1 h2 => (hI j (by omega)).trans (by rw [hPd]; exact hPz j h1 h2)) (RowB.congr (RowB.up hPb (show al ≤ rE al be eg (eg + 1) by unfold rE; omega)) (fun j hj => (hI j (by omega)).trans (hPd j))) hfr2 _ _ _ B (lv_sub hl [0, 1, 2, 3, 4, 5] rfl)
      · have hS1 : S (tm (6 * n + k)) := hCS _ (hCI.1 _ (by omega)).1
        have hS2 : S (tm (6 * (n - 2) + k)) := hCS _ (hCI.1 _ (by omega)).1
        refine lv_aload_n hx hb d_Chain_divide_40 rfl (lv_at hl 1 rfl) ?_
        refine x_get (C := RX1) (T := TX1) (N := 7) hx hb hts inX1 hown B hF 0 rfl rfl 0 (by decide) (hts _ w_52) (fun _ h9 => h9) rfl d_Chain_divide_41 ?_
        refine lv_iload_n hx hb d_Chain_divide_44 rfl (lv_at hl 3 rfl) ?_
        refine lv_iload hx hb d_Chain_divide_45 (lv_at hl 0 rfl) ?_
        refine x_iadd hx hb d_Chain_divide_47 ?_
        refine x_aald hx hb B hF 1 3 rfl rfl (6 * n + k) (by omega) (by omega) (by decide) (hG _ (by omega)) d_Chain_divide_48 ?_
        refine lv_aload_n hx hb d_Chain_divide_49 rfl (lv_at hl 1 rfl) ?_
        refine x_get (C := RX1) (T := TX1) (N := 7) hx hb hts inX1 hown B hF 0 rfl rfl 0 (by decide) (hts _ w_52) (fun _ h9 => h9) rfl d_Chain_divide_50 ?_
        refine lv_iload_n hx hb d_Chain_divide_53 rfl (lv_at hl 2 rfl) ?_
        refine x_bipush hx hb d_Chain_divide_54 (by decide) ?_
        refine x_isub hx hb d_Chain_divide_56 ?_
        refine lv_iload hx hb d_Chain_divide_57 (lv_at hl 0 rfl) ?_
        refine x_iadd hx hb d_Chain_divide_59 ?_
        refine x_aald hx hb B hF 1 3 rfl rfl (6 * (n - 2) + k) (by omega) (by omega) (by decide) (hG _ (by omega)) d_Chain_divide_60 ?_
        have hx_61 := hB2.keep (X := [(ch, .inr (1, [.ref tt, .ref tq, .int (iI ((n : Int))), .int (iI tu), .int (iI fi), .ref cl, .ref cr])), (tt, .inl (cs 3, 42, .inr (.inr (.inr (.inr gg))))), (tq, .inl (cs 0, 7, .inl (ai tps)))]) hOk
        obtain ⟨sd_610, n_610, lm_610, c1_610, c2_610, c3_610⟩ := hx_61 (tm (6 * n + k)) hS1
        obtain ⟨sd_611, n_611, lm_611, c1_611, c2_611, c3_611⟩ := hx_61 (tm (6 * (n - 2) + k)) hS2
        refine x_callv B hA (va_runV (As := [.ref ((tm (6 * (n - 2) + k)))]) (rest := []) ⟨hx, hb, hml, hown, hts⟩ (c_Big_copy l D cs _ _ _ (tm (6 * n + k)) (Qm (tm (6 * n + k))) sd_610 n_610 lm_610 (tm (6 * (n - 2) + k)) (Qm (tm (6 * (n - 2) + k))) sd_611 n_611 lm_611 (Z2 (tm (6 * (n - 2) + k)))  (hSp.fc2 hS1 hS2 (hinj _ _ (by omega) (by omega) (by omega))) c1_610 c2_610 c1_611 c2_611 c3_611 ) (cwV 1 hts (gw_V w_302 w_303 w_304 w_3 w_305) rfl rfl rfl (by decide +kernel) ⟨by rw [hRf]; exact Nat.le_of_ble_eq_true rfl, by rw [hRl]; exact Nat.le_of_ble_eq_true rfl⟩) ⟨K0.blind, B.recv (hSp.1 _ (hS1)).1 c1_610 rfl, B.pre _⟩ rfl rfl hl.1 rfl (lv_room (Nat.le_of_ble_eq_true rfl)) d_Chain_divide_61 ⟨by rw [hRc]; omega, by rw [hRs]; omega⟩) (fun g61 H locs hw B => ?_)
        obtain ⟨s_61, n_61, l_61, hz_61, rfl⟩ := hw
        obtain ⟨f_61, hf_61⟩ : ∃ f_61, f_61 = mw (mw f2 [(ch, .inr (1, [.ref tt, .ref tq, .int (iI ((n : Int))), .int (iI tu), .int (iI fi), .ref cl, .ref cr])), (tt, .inl (cs 3, 42, .inr (.inr (.inr (.inr gg))))), (tq, .inl (cs 0, 7, .inl (ai tps)))]) [((tm (6 * n + k)), .inr (0, [.int (iI s_61), .int (iI (n_61 : Int)), .ref (Qm (tm (6 * n + k)))])), (Qm (tm (6 * n + k)), .inl (cs 0, 48, .inl (ai l_61)))] := ⟨_, rfl⟩
        have hB_61 : BH cs f_61 S Qm (up Z2 (tm (6 * n + k)) (Z2 (tm (6 * (n - 2) + k)))) := by rw [hf_61]; exact BH.set hSp (hB2.keep (X := [(ch, .inr (1, [.ref tt, .ref tq, .int (iI ((n : Int))), .int (iI tu), .int (iI fi), .ref cl, .ref cr])), (tt, .inl (cs 3, 42, .inr (.inr (.inr (.inr gg))))), (tq, .inl (cs 0, 7, .inl (ai tps)))]) hOk) hS1 hz_61
        have hfr_61 : ∀ k, Out S Qm k → k ∉ ([ch, tt, tq] : List Nat) → f_61 k = f2 k := fun k h1 h2 => by rw [hf_61, mw_out (h1.two hS1), mw_out (X := [(ch, .inr (1, [.ref tt, .ref tq, .int (iI ((n : Int))), .int (iI tu), .int (iI fi), .ref cl, .ref cr])), (tt, .inl (cs 3, 42, .inr (.inr (.inr (.inr gg))))), (tq, .inl (cs 0, 7, .inl (ai tps)))]) h2]
        rw [← hf_61] at B
        have B := B.focus [(ch, .inr (1, [.ref tt, .ref tq, .int (iI ((n : Int))), .int (iI tu), .int (iI fi), .ref cl, .ref cr])), (tt, .inl (cs 3, 42, .inr (.inr (.inr (.inr gg))))), (tq, .inl (cs 0, 7, .inl (ai tps)))] (by rw [hf_61]; exact foc hF.1 (fun k hk => (hOk k hk).two hS1))
        have B : Wb D vwCl (TY cs) L (mw f_61 [(ch, .inr (1, [.ref tt, .ref tq, .int (iI ((n : Int))), .int (iI tu), .int (iI fi), .ref cl, .ref cr])), (tt, .inl (cs 3, 42, .inr (.inr (.inr (.inr gg))))), (tq, .inl (cs 0, 7, .inl (ai tps)))]) (AL L s.heap.size) s H _ := B
        refine x_iinc (lv' := [(4, .int (iI (((k : Int)) + 1))), (0, .ref ch), (1, .int (iI (((6 * (n - 1) : Nat) : Int)))), (2, .int (iI (((6 * n : Nat) : Int)))), (3, .int (iI ((d : Int))))]) hx hb d_Chain_divide_64 hl (q := 0) rfl rfl (by decide) rfl (fun ls hl => ?_)
        refine lv_goto (tgt := 33) hx hb d_Chain_divide_67 (by decide) ?_
        exact ih_LA (k + 1) f_61 ((up Z2 (tm (6 * n + k)) (Z2 (tm (6 * (n - 2) + k))))) (by omega) (by omega) hB_61 (fun j hj => by
                    by_cases hjk : j = k
                    · rw [hjk, up_self, hZo _ (fun i hi => hinj _ _ (by omega) (by omega) (by omega)), ← hPd]
                    · rw [up_ne _ _ (hinj _ _ (by omega) (by omega) (by omega))]; exact hI j (by omega)) (fun b hb => by rw [up_ne _ _ (hb k (by omega))]; exact hZo b hb) (fun k h1 h2 => by rw [hfr_61 k h1 h2]; exact hfr2 k h1 h2) _ _ _ B (lv_sub hl [0, 1, 2, 3, 4] rfl)
  exact LA _ 0 f Zf (Nat.lt_succ_self _) (by omega) hB (fun j hj => by omega) (fun b _ => rfl) (fun k _ _ => rfl) _ _ _ B (lv_sub hl [0, 4, 3, 2, 1] rfl)
