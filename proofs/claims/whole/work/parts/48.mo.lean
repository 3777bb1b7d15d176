theorem d_Mo_add_0 : decode prog_9_method_11_code 0 = .ok (.aload_n 0, 1) := by decide +kernel
theorem d_Mo_add_1 : decode prog_9_method_11_code 1 = .ok (.getfield 16, 3) := by decide +kernel
theorem d_Mo_add_4 : decode prog_9_method_11_code 4 = .ok (.iload_n 3, 1) := by decide +kernel
theorem d_Mo_add_5 : decode prog_9_method_11_code 5 = .ok (.iaload, 1) := by decide +kernel
theorem d_Mo_add_6 : decode prog_9_method_11_code 6 = .ok (.iload 4, 2) := by decide +kernel
theorem d_Mo_add_8 : decode prog_9_method_11_code 8 = .ok (.imul, 1) := by decide +kernel
theorem d_Mo_add_9 : decode prog_9_method_11_code 9 = .ok (.istore 5, 2) := by decide +kernel
theorem d_Mo_add_11 : decode prog_9_method_11_code 11 = .ok (.aload_n 0, 1) := by decide +kernel
theorem d_Mo_add_12 : decode prog_9_method_11_code 12 = .ok (.getfield 13, 3) := by decide +kernel
theorem d_Mo_add_15 : decode prog_9_method_11_code 15 = .ok (.iload_n 2, 1) := by decide +kernel
theorem d_Mo_add_16 : decode prog_9_method_11_code 16 = .ok (.iaload, 1) := by decide +kernel
theorem d_Mo_add_17 : decode prog_9_method_11_code 17 = .ok (.aload_n 0, 1) := by decide +kernel
theorem d_Mo_add_18 : decode prog_9_method_11_code 18 = .ok (.getfield 13, 3) := by decide +kernel
theorem d_Mo_add_21 : decode prog_9_method_11_code 21 = .ok (.iload_n 3, 1) := by decide +kernel
theorem d_Mo_add_22 : decode prog_9_method_11_code 22 = .ok (.iaload, 1) := by decide +kernel
theorem d_Mo_add_23 : decode prog_9_method_11_code 23 = .ok (.if_icmp .le 12, 3) := by decide +kernel
theorem d_Mo_add_26 : decode prog_9_method_11_code 26 = .ok (.aload_n 0, 1) := by decide +kernel
theorem d_Mo_add_27 : decode prog_9_method_11_code 27 = .ok (.getfield 13, 3) := by decide +kernel
theorem d_Mo_add_30 : decode prog_9_method_11_code 30 = .ok (.iload_n 2, 1) := by decide +kernel
theorem d_Mo_add_31 : decode prog_9_method_11_code 31 = .ok (.iaload, 1) := by decide +kernel
theorem d_Mo_add_32 : decode prog_9_method_11_code 32 = .ok (.goto 9, 3) := by decide +kernel
theorem d_Mo_add_35 : decode prog_9_method_11_code 35 = .ok (.aload_n 0, 1) := by decide +kernel
theorem d_Mo_add_36 : decode prog_9_method_11_code 36 = .ok (.getfield 13, 3) := by decide +kernel
theorem d_Mo_add_39 : decode prog_9_method_11_code 39 = .ok (.iload_n 3, 1) := by decide +kernel
theorem d_Mo_add_40 : decode prog_9_method_11_code 40 = .ok (.iaload, 1) := by decide +kernel
theorem d_Mo_add_41 : decode prog_9_method_11_code 41 = .ok (.istore 6, 2) := by decide +kernel
theorem d_Mo_add_43 : decode prog_9_method_11_code 43 = .ok (.iload 5, 2) := by decide +kernel
theorem d_Mo_add_45 : decode prog_9_method_11_code 45 = .ok (.ifCond .ne 10, 3) := by decide +kernel
theorem d_Mo_add_48 : decode prog_9_method_11_code 48 = .ok (.aload_n 0, 1) := by decide +kernel
theorem d_Mo_add_49 : decode prog_9_method_11_code 49 = .ok (.iload_n 1, 1) := by decide +kernel
theorem d_Mo_add_50 : decode prog_9_method_11_code 50 = .ok (.iload_n 2, 1) := by decide +kernel
theorem d_Mo_add_51 : decode prog_9_method_11_code 51 = .ok (.invokevirtual 65, 3) := by decide +kernel
theorem d_Mo_add_54 : decode prog_9_method_11_code 54 = .ok (.return_, 1) := by decide +kernel
theorem d_Mo_add_55 : decode prog_9_method_11_code 55 = .ok (.aload_n 0, 1) := by decide +kernel
theorem d_Mo_add_56 : decode prog_9_method_11_code 56 = .ok (.getfield 16, 3) := by decide +kernel
theorem d_Mo_add_59 : decode prog_9_method_11_code 59 = .ok (.iload_n 2, 1) := by decide +kernel
theorem d_Mo_add_60 : decode prog_9_method_11_code 60 = .ok (.iaload, 1) := by decide +kernel
theorem d_Mo_add_61 : decode prog_9_method_11_code 61 = .ok (.ifCond .eq 14, 3) := by decide +kernel
theorem d_Mo_add_64 : decode prog_9_method_11_code 64 = .ok (.aload_n 0, 1) := by decide +kernel
theorem d_Mo_add_65 : decode prog_9_method_11_code 65 = .ok (.getfield 16, 3) := by decide +kernel
theorem d_Mo_add_68 : decode prog_9_method_11_code 68 = .ok (.iload_n 2, 1) := by decide +kernel
theorem d_Mo_add_69 : decode prog_9_method_11_code 69 = .ok (.iaload, 1) := by decide +kernel
theorem d_Mo_add_70 : decode prog_9_method_11_code 70 = .ok (.iload 5, 2) := by decide +kernel
theorem d_Mo_add_72 : decode prog_9_method_11_code 72 = .ok (.if_icmp .ne 88, 3) := by decide +kernel
theorem d_Mo_add_75 : decode prog_9_method_11_code 75 = .ok (.lconst 0, 1) := by decide +kernel
theorem d_Mo_add_76 : decode prog_9_method_11_code 76 = .ok (.lstore 7, 2) := by decide +kernel
theorem d_Mo_add_78 : decode prog_9_method_11_code 78 = .ok (.iconst 0, 1) := by decide +kernel
theorem d_Mo_add_79 : decode prog_9_method_11_code 79 = .ok (.istore 9, 2) := by decide +kernel
theorem d_Mo_add_81 : decode prog_9_method_11_code 81 = .ok (.iload 9, 2) := by decide +kernel
theorem d_Mo_add_83 : decode prog_9_method_11_code 83 = .ok (.iload 6, 2) := by decide +kernel
theorem d_Mo_add_85 : decode prog_9_method_11_code 85 = .ok (.if_icmp .gt 51, 3) := by decide +kernel
theorem d_Mo_add_88 : decode prog_9_method_11_code 88 = .ok (.lload 7, 2) := by decide +kernel
theorem d_Mo_add_90 : decode prog_9_method_11_code 90 = .ok (.aload_n 0, 1) := by decide +kernel
theorem d_Mo_add_91 : decode prog_9_method_11_code 91 = .ok (.iload_n 2, 1) := by decide +kernel
theorem d_Mo_add_92 : decode prog_9_method_11_code 92 = .ok (.iload 9, 2) := by decide +kernel
theorem d_Mo_add_94 : decode prog_9_method_11_code 94 = .ok (.invokevirtual 69, 3) := by decide +kernel
theorem d_Mo_add_97 : decode prog_9_method_11_code 97 = .ok (.aload_n 0, 1) := by decide +kernel
theorem d_Mo_add_98 : decode prog_9_method_11_code 98 = .ok (.iload_n 3, 1) := by decide +kernel
theorem d_Mo_add_99 : decode prog_9_method_11_code 99 = .ok (.iload 9, 2) := by decide +kernel
theorem d_Mo_add_101 : decode prog_9_method_11_code 101 = .ok (.invokevirtual 69, 3) := by decide +kernel
theorem d_Mo_add_104 : decode prog_9_method_11_code 104 = .ok (.ladd, 1) := by decide +kernel
theorem d_Mo_add_105 : decode prog_9_method_11_code 105 = .ok (.ladd, 1) := by decide +kernel
theorem d_Mo_add_106 : decode prog_9_method_11_code 106 = .ok (.lstore 7, 2) := by decide +kernel
theorem d_Mo_add_108 : decode prog_9_method_11_code 108 = .ok (.aload_n 0, 1) := by decide +kernel
theorem d_Mo_add_109 : decode prog_9_method_11_code 109 = .ok (.getfield 7, 3) := by decide +kernel
theorem d_Mo_add_112 : decode prog_9_method_11_code 112 = .ok (.bipush 64, 2) := by decide +kernel
theorem d_Mo_add_114 : decode prog_9_method_11_code 114 = .ok (.iload_n 1, 1) := by decide +kernel
theorem d_Mo_add_115 : decode prog_9_method_11_code 115 = .ok (.imul, 1) := by decide +kernel
theorem d_Mo_add_116 : decode prog_9_method_11_code 116 = .ok (.iload 9, 2) := by decide +kernel
theorem d_Mo_add_118 : decode prog_9_method_11_code 118 = .ok (.iadd, 1) := by decide +kernel
theorem d_Mo_add_119 : decode prog_9_method_11_code 119 = .ok (.lload 7, 2) := by decide +kernel
theorem d_Mo_add_121 : decode prog_9_method_11_code 121 = .ok (.l2i, 1) := by decide +kernel
theorem d_Mo_add_122 : decode prog_9_method_11_code 122 = .ok (.iastore, 1) := by decide +kernel
theorem d_Mo_add_123 : decode prog_9_method_11_code 123 = .ok (.lload 7, 2) := by decide +kernel
theorem d_Mo_add_125 : decode prog_9_method_11_code 125 = .ok (.bipush 32, 2) := by decide +kernel
theorem d_Mo_add_127 : decode prog_9_method_11_code 127 = .ok (.lushr, 1) := by decide +kernel
theorem d_Mo_add_128 : decode prog_9_method_11_code 128 = .ok (.lstore 7, 2) := by decide +kernel
theorem d_Mo_add_130 : decode prog_9_method_11_code 130 = .ok (.iinc 9 1, 3) := by decide +kernel
theorem d_Mo_add_133 : decode prog_9_method_11_code 133 = .ok (.goto (-52), 3) := by decide +kernel
theorem d_Mo_add_136 : decode prog_9_method_11_code 136 = .ok (.aload_n 0, 1) := by decide +kernel
theorem d_Mo_add_137 : decode prog_9_method_11_code 137 = .ok (.getfield 16, 3) := by decide +kernel
theorem d_Mo_add_140 : decode prog_9_method_11_code 140 = .ok (.iload_n 1, 1) := by decide +kernel
theorem d_Mo_add_141 : decode prog_9_method_11_code 141 = .ok (.iload 5, 2) := by decide +kernel
theorem d_Mo_add_143 : decode prog_9_method_11_code 143 = .ok (.iastore, 1) := by decide +kernel
theorem d_Mo_add_144 : decode prog_9_method_11_code 144 = .ok (.aload_n 0, 1) := by decide +kernel
theorem d_Mo_add_145 : decode prog_9_method_11_code 145 = .ok (.getfield 13, 3) := by decide +kernel
theorem d_Mo_add_148 : decode prog_9_method_11_code 148 = .ok (.iload_n 1, 1) := by decide +kernel
theorem d_Mo_add_149 : decode prog_9_method_11_code 149 = .ok (.iload 6, 2) := by decide +kernel
theorem d_Mo_add_151 : decode prog_9_method_11_code 151 = .ok (.iconst 1, 1) := by decide +kernel
theorem d_Mo_add_152 : decode prog_9_method_11_code 152 = .ok (.iadd, 1) := by decide +kernel
theorem d_Mo_add_153 : decode prog_9_method_11_code 153 = .ok (.iastore, 1) := by decide +kernel
theorem d_Mo_add_154 : decode prog_9_method_11_code 154 = .ok (.aload_n 0, 1) := by decide +kernel
theorem d_Mo_add_155 : decode prog_9_method_11_code 155 = .ok (.iload_n 1, 1) := by decide +kernel
theorem d_Mo_add_156 : decode prog_9_method_11_code 156 = .ok (.invokevirtual 73, 3) := by decide +kernel
theorem d_Mo_add_159 : decode prog_9_method_11_code 159 = .ok (.return_, 1) := by decide +kernel
theorem d_Mo_add_160 : decode prog_9_method_11_code 160 = .ok (.aload_n 0, 1) := by decide +kernel
theorem d_Mo_add_161 : decode prog_9_method_11_code 161 = .ok (.iload_n 2, 1) := by decide +kernel
theorem d_Mo_add_162 : decode prog_9_method_11_code 162 = .ok (.iload_n 3, 1) := by decide +kernel
theorem d_Mo_add_163 : decode prog_9_method_11_code 163 = .ok (.invokevirtual 61, 3) := by decide +kernel
theorem d_Mo_add_166 : decode prog_9_method_11_code 166 = .ok (.ifCond .lt 7, 3) := by decide +kernel
theorem d_Mo_add_169 : decode prog_9_method_11_code 169 = .ok (.iconst 1, 1) := by decide +kernel
theorem d_Mo_add_170 : decode prog_9_method_11_code 170 = .ok (.goto 4, 3) := by decide +kernel
theorem d_Mo_add_173 : decode prog_9_method_11_code 173 = .ok (.iconst 0, 1) := by decide +kernel
theorem d_Mo_add_174 : decode prog_9_method_11_code 174 = .ok (.istore 7, 2) := by decide +kernel
theorem d_Mo_add_176 : decode prog_9_method_11_code 176 = .ok (.iload 7, 2) := by decide +kernel
theorem d_Mo_add_178 : decode prog_9_method_11_code 178 = .ok (.ifCond .eq 7, 3) := by decide +kernel
theorem d_Mo_add_181 : decode prog_9_method_11_code 181 = .ok (.iload_n 2, 1) := by decide +kernel
theorem d_Mo_add_182 : decode prog_9_method_11_code 182 = .ok (.goto 4, 3) := by decide +kernel
theorem d_Mo_add_185 : decode prog_9_method_11_code 185 = .ok (.iload_n 3, 1) := by decide +kernel
theorem d_Mo_add_186 : decode prog_9_method_11_code 186 = .ok (.istore 8, 2) := by decide +kernel
theorem d_Mo_add_188 : decode prog_9_method_11_code 188 = .ok (.iload 7, 2) := by decide +kernel
theorem d_Mo_add_190 : decode prog_9_method_11_code 190 = .ok (.ifCond .eq 7, 3) := by decide +kernel
theorem d_Mo_add_193 : decode prog_9_method_11_code 193 = .ok (.iload_n 3, 1) := by decide +kernel
theorem d_Mo_add_194 : decode prog_9_method_11_code 194 = .ok (.goto 4, 3) := by decide +kernel
theorem d_Mo_add_197 : decode prog_9_method_11_code 197 = .ok (.iload_n 2, 1) := by decide +kernel
theorem d_Mo_add_198 : decode prog_9_method_11_code 198 = .ok (.istore 9, 2) := by decide +kernel
theorem d_Mo_add_200 : decode prog_9_method_11_code 200 = .ok (.iload 7, 2) := by decide +kernel
theorem d_Mo_add_202 : decode prog_9_method_11_code 202 = .ok (.ifCond .eq 12, 3) := by decide +kernel
theorem d_Mo_add_205 : decode prog_9_method_11_code 205 = .ok (.aload_n 0, 1) := by decide +kernel
theorem d_Mo_add_206 : decode prog_9_method_11_code 206 = .ok (.getfield 16, 3) := by decide +kernel
theorem d_Mo_add_209 : decode prog_9_method_11_code 209 = .ok (.iload_n 2, 1) := by decide +kernel
theorem d_Mo_add_210 : decode prog_9_method_11_code 210 = .ok (.iaload, 1) := by decide +kernel
theorem d_Mo_add_211 : decode prog_9_method_11_code 211 = .ok (.goto 5, 3) := by decide +kernel
theorem d_Mo_add_214 : decode prog_9_method_11_code 214 = .ok (.iload 5, 2) := by decide +kernel
theorem d_Mo_add_216 : decode prog_9_method_11_code 216 = .ok (.istore 10, 2) := by decide +kernel
theorem d_Mo_add_218 : decode prog_9_method_11_code 218 = .ok (.lconst 0, 1) := by decide +kernel
theorem d_Mo_add_219 : decode prog_9_method_11_code 219 = .ok (.lstore 11, 2) := by decide +kernel
theorem d_Mo_add_221 : decode prog_9_method_11_code 221 = .ok (.aload_n 0, 1) := by decide +kernel
theorem d_Mo_add_222 : decode prog_9_method_11_code 222 = .ok (.getfield 13, 3) := by decide +kernel
theorem d_Mo_add_225 : decode prog_9_method_11_code 225 = .ok (.iload 8, 2) := by decide +kernel
theorem d_Mo_add_227 : decode prog_9_method_11_code 227 = .ok (.iaload, 1) := by decide +kernel
theorem d_Mo_add_228 : decode prog_9_method_11_code 228 = .ok (.istore 13, 2) := by decide +kernel
theorem d_Mo_add_230 : decode prog_9_method_11_code 230 = .ok (.iconst 0, 1) := by decide +kernel
theorem d_Mo_add_231 : decode prog_9_method_11_code 231 = .ok (.istore 14, 2) := by decide +kernel
theorem d_Mo_add_233 : decode prog_9_method_11_code 233 = .ok (.iload 14, 2) := by decide +kernel
theorem d_Mo_add_235 : decode prog_9_method_11_code 235 = .ok (.iload 13, 2) := by decide +kernel
theorem d_Mo_add_237 : decode prog_9_method_11_code 237 = .ok (.if_icmp .ge 53, 3) := by decide +kernel
theorem d_Mo_add_240 : decode prog_9_method_11_code 240 = .ok (.lload 11, 2) := by decide +kernel
theorem d_Mo_add_242 : decode prog_9_method_11_code 242 = .ok (.aload_n 0, 1) := by decide +kernel
theorem d_Mo_add_243 : decode prog_9_method_11_code 243 = .ok (.iload 8, 2) := by decide +kernel
theorem d_Mo_add_245 : decode prog_9_method_11_code 245 = .ok (.iload 14, 2) := by decide +kernel
theorem d_Mo_add_247 : decode prog_9_method_11_code 247 = .ok (.invokevirtual 69, 3) := by decide +kernel
theorem d_Mo_add_250 : decode prog_9_method_11_code 250 = .ok (.aload_n 0, 1) := by decide +kernel
theorem d_Mo_add_251 : decode prog_9_method_11_code 251 = .ok (.iload 9, 2) := by decide +kernel
theorem d_Mo_add_253 : decode prog_9_method_11_code 253 = .ok (.iload 14, 2) := by decide +kernel
theorem d_Mo_add_255 : decode prog_9_method_11_code 255 = .ok (.invokevirtual 69, 3) := by decide +kernel
theorem d_Mo_add_258 : decode prog_9_method_11_code 258 = .ok (.lsub, 1) := by decide +kernel
theorem d_Mo_add_259 : decode prog_9_method_11_code 259 = .ok (.ladd, 1) := by decide +kernel
theorem d_Mo_add_260 : decode prog_9_method_11_code 260 = .ok (.lstore 11, 2) := by decide +kernel
theorem d_Mo_add_262 : decode prog_9_method_11_code 262 = .ok (.aload_n 0, 1) := by decide +kernel
theorem d_Mo_add_263 : decode prog_9_method_11_code 263 = .ok (.getfield 7, 3) := by decide +kernel
theorem d_Mo_add_266 : decode prog_9_method_11_code 266 = .ok (.bipush 64, 2) := by decide +kernel
theorem d_Mo_add_268 : decode prog_9_method_11_code 268 = .ok (.iload_n 1, 1) := by decide +kernel
theorem d_Mo_add_269 : decode prog_9_method_11_code 269 = .ok (.imul, 1) := by decide +kernel
theorem d_Mo_add_270 : decode prog_9_method_11_code 270 = .ok (.iload 14, 2) := by decide +kernel
theorem d_Mo_add_272 : decode prog_9_method_11_code 272 = .ok (.iadd, 1) := by decide +kernel
theorem d_Mo_add_273 : decode prog_9_method_11_code 273 = .ok (.lload 11, 2) := by decide +kernel
theorem d_Mo_add_275 : decode prog_9_method_11_code 275 = .ok (.l2i, 1) := by decide +kernel
theorem d_Mo_add_276 : decode prog_9_method_11_code 276 = .ok (.iastore, 1) := by decide +kernel
theorem d_Mo_add_277 : decode prog_9_method_11_code 277 = .ok (.lload 11, 2) := by decide +kernel
theorem d_Mo_add_279 : decode prog_9_method_11_code 279 = .ok (.bipush 32, 2) := by decide +kernel
theorem d_Mo_add_281 : decode prog_9_method_11_code 281 = .ok (.lshr, 1) := by decide +kernel
theorem d_Mo_add_282 : decode prog_9_method_11_code 282 = .ok (.lstore 11, 2) := by decide +kernel
theorem d_Mo_add_284 : decode prog_9_method_11_code 284 = .ok (.iinc 14 1, 3) := by decide +kernel
theorem d_Mo_add_287 : decode prog_9_method_11_code 287 = .ok (.goto (-54), 3) := by decide +kernel
theorem d_Mo_add_290 : decode prog_9_method_11_code 290 = .ok (.aload_n 0, 1) := by decide +kernel
theorem d_Mo_add_291 : decode prog_9_method_11_code 291 = .ok (.getfield 13, 3) := by decide +kernel
theorem d_Mo_add_294 : decode prog_9_method_11_code 294 = .ok (.iload_n 1, 1) := by decide +kernel
theorem d_Mo_add_295 : decode prog_9_method_11_code 295 = .ok (.iload 13, 2) := by decide +kernel
theorem d_Mo_add_297 : decode prog_9_method_11_code 297 = .ok (.iastore, 1) := by decide +kernel
theorem d_Mo_add_298 : decode prog_9_method_11_code 298 = .ok (.aload_n 0, 1) := by decide +kernel
theorem d_Mo_add_299 : decode prog_9_method_11_code 299 = .ok (.getfield 16, 3) := by decide +kernel
theorem d_Mo_add_302 : decode prog_9_method_11_code 302 = .ok (.iload_n 1, 1) := by decide +kernel
theorem d_Mo_add_303 : decode prog_9_method_11_code 303 = .ok (.iload 10, 2) := by decide +kernel
theorem d_Mo_add_305 : decode prog_9_method_11_code 305 = .ok (.iastore, 1) := by decide +kernel
theorem d_Mo_add_306 : decode prog_9_method_11_code 306 = .ok (.aload_n 0, 1) := by decide +kernel
theorem d_Mo_add_307 : decode prog_9_method_11_code 307 = .ok (.iload_n 1, 1) := by decide +kernel
theorem d_Mo_add_308 : decode prog_9_method_11_code 308 = .ok (.invokevirtual 73, 3) := by decide +kernel
theorem d_Mo_add_311 : decode prog_9_method_11_code 311 = .ok (.return_, 1) := by decide +kernel
set_option maxHeartbeats 8000000 in
set_option maxRecDepth 100000 in
theorem c_Mo_add (l : Launch) (D : va_G) (cs : Nat → ClassId) (L : List Nat) (f : Nat → va_E) (sz : Nat) (y m1 m2 m3 m5 m6 m7 m8 m9 m10 m11 m12 m13 m15 : Nat) (th pn rw_ fu fb : Int) (lm mn sn Z : Nat → Int) (t x w : Nat) (by_ : Int) (hF : Fc L [y, m1, m2, m3]) (ha : f y = .inr (7, [.int (iI th), .ref m1, .ref m2, .ref m3, .int (iI pn), .ref m5, .ref m6, .ref m7, .ref m8, .ref m9, .ref m10, .ref m11, .ref m12, .ref m13, .int (iI rw_), .ref m15, .long (lI fu), .long (lI fb)])) (hm1 : f m1 = .inl (cs 0, 11520, .inl (ai lm))) (hm2 : f m2 = .inl (cs 0, 180, .inl (ai mn))) (hm3 : f m3 = .inl (cs 0, 180, .inl (ai sn))) (hRS : RS lm mn sn Z) (ht8 : t < 180) (hx8 : x < 180) (hw8 : w < 180) (hby : by_ = 1 ∨ by_ = -1) (hxr : ((Z x).natAbs : Int) < Mp 63) (hwr : ((Z w).natAbs : Int) < Mp 63) : Met l (⟨"RealRootsModel", "add", "(IIII)V"⟩ : MethodName) (.code (⟨"RealRootsModel", "add", "(IIII)V"⟩ : MethodName) prog_9_method_11_code 15 (Option.none : Option Jvm.ClassFile.FieldType) :: gw) ({ frames := 2, cells := 0, slots := 0, locals := 60 }) (va_Pc [.ref y, .int (iI ((t : Int))), .int (iI ((x : Int))), .int (iI ((w : Int))), .int (iI by_)] (K0 D vwCl (TY cs) L f sz)) (va_Qv (fun (g : Nat → va_E) => ∃ lm' mn' sn' : Nat → Int, RS lm' mn' sn' (up Z t (Z x + by_ * Z w)) ∧ g = mw f [(m1, .inl (cs 0, 11520, .inl (ai (lm')))), (m2, .inl (cs 0, 180, .inl (ai (mn')))), (m3, .inl (cs 0, 180, .inl (ai (sn'))))]) (K1 D vwCl (TY cs) (AL L sz) L) (AL L sz)) 0 0 (AL L sz) := by
  refine Met.ofW (cc := prog_9_method_11_code) (maxL := 15) (ret := (Option.none : Option Jvm.ClassFile.FieldType)) (by decide) rfl ?_
  intro p e s m args below meth c s₁ Bd hml hv
  obtain ⟨rfl, hk0⟩ := hv
  obtain ⟨hsz, B⟩ := hk0.start
  subst hsz
  have hx := Bd.exec
  have hb := Bd.bytes
  have hr := Bd.returns
  have hlocks := Bd.notSynchronized
  have hts0 := atoms_spec Bd.pre
  have hown : s.vm.findClass RX7 = some m.cls := findClass_of_methodNamed Bd.named
  have hA : ∀ q, s.heap.size ≤ q → AL L s.heap.size q := fun _ h => Or.inr h
  have hl := lv_entry ([.ref y, .int (iI ((t : Int))), .int (iI ((x : Int))), .int (iI ((w : Int))), .int (iI by_)]) (n := 15) (Nat.le_of_ble_eq_true rfl)
  rw [lg_entry_eq]
  generalize (lg_sl ([.ref y, .int (iI ((t : Int))), .int (iI ((x : Int))), .int (iI ((w : Int))), .int (iI by_)]) ++ List.replicate (15 - (lg_sl ([.ref y, .int (iI ((t : Int))), .int (iI ((x : Int))), .int (iI ((w : Int))), .int (iI by_)])).length) Slot.unset).toArray = ls at hl ⊢
  refine absQ (fun Q R av hQ hR hav => ?_)
  have hts : ∀ w ∈ gw, w.before av s = true := by rw [hav]; exact fun w h => hts0 w (List.mem_cons_of_mem _ h)
  have hRf : R.frames = 2 := by rw [hR]; rfl
  have hRl : R.locals = 60 := by rw [hR]; rfl
  have hRc : R.cells = 0 := by rw [hR]; rfl
  have hRs : R.slots = 0 := by rw [hR]; rfl
  clear hR hts0 Bd
  have hl : lv_has ls 15 [(0, .ref y), (1, .int (iI ((t : Int)))), (2, .int (iI ((x : Int)))), (3, .int (iI ((w : Int)))), (4, .int (iI by_))] := hl
  obtain ⟨nx, hnx, hn8, hMx, htx, hvx⟩ := (hRS x hx8).nat
  obtain ⟨nw, hnw, hw64, hMw, htw, hvw⟩ := (hRS w hw8).nat
  have hsx := (hRS x hx8).side
  have hsw := (hRS w hw8).side
  have hsb : -1 ≤ sn w * by_ ∧ sn w * by_ ≤ 1 := by rcases hby with h | h <;> rw [h] <;> omega
  have hnx63 : nx ≤ 63 := by have := (hRS x hx8).size 63 hxr; omega
  have hnw63 : nw ≤ 63 := by have := (hRS w hw8).size 63 hwr; omega
  have hfx : ∀ q ∈ ([(y, .inr (7, [.int (iI th), .ref m1, .ref m2, .ref m3, .int (iI pn), .ref m5, .ref m6, .ref m7, .ref m8, .ref m9, .ref m10, .ref m11, .ref m12, .ref m13, .int (iI rw_), .ref m15, .long (lI fu), .long (lI fb)])), (m1, .inl (cs 0, 11520, .inl (ai lm))), (m2, .inl (cs 0, 180, .inl (ai mn))), (m3, .inl (cs 0, 180, .inl (ai sn)))] : List (Nat × va_E)), f q.1 = q.2 := fun q hq => by
    simp only [List.mem_cons, List.not_mem_nil, or_false] at hq
    rcases hq with rfl | rfl | rfl | rfl
    · exact ha
    · exact hm1
    · exact hm2
    · exact hm3
  have hmw : mw f [(y, .inr (7, [.int (iI th), .ref m1, .ref m2, .ref m3, .int (iI pn), .ref m5, .ref m6, .ref m7, .ref m8, .ref m9, .ref m10, .ref m11, .ref m12, .ref m13, .int (iI rw_), .ref m15, .long (lI fu), .long (lI fb)])), (m1, .inl (cs 0, 11520, .inl (ai lm))), (m2, .inl (cs 0, 180, .inl (ai mn))), (m3, .inl (cs 0, 180, .inl (ai sn)))] = f := mw_self (fun k a e hk => hfx (a, e) (List.mem_of_getElem? hk))
  have B := B.focus [(y, .inr (7, [.int (iI th), .ref m1, .ref m2, .ref m3, .int (iI pn), .ref m5, .ref m6, .ref m7, .ref m8, .ref m9, .ref m10, .ref m11, .ref m12, .ref m13, .int (iI rw_), .ref m15, .long (lI fu), .long (lI fb)])), (m1, .inl (cs 0, 11520, .inl (ai lm))), (m2, .inl (cs 0, 180, .inl (ai mn))), (m3, .inl (cs 0, 180, .inl (ai sn)))] hfx
  refine lv_aload_n hx hb d_Mo_add_0 rfl (lv_at hl 0 rfl) ?_
  refine x_get (C := RX7) (T := TX7) (N := 18) hx hb hts inX7 hown B hF 0 rfl rfl 3 (by decide) (hts _ w_680) (fun _ h9 => h9) rfl d_Mo_add_1 ?_
  refine lv_iload_n hx hb d_Mo_add_4 rfl (lv_at hl 3 rfl) ?_
  refine x_iald hx hb B hF 3 0 rfl rfl w (by omega) (by omega) (by decide) d_Mo_add_5 ?_
  refine lv_iload hx hb d_Mo_add_6 (lv_at hl 4 rfl) ?_
  refine x_imul hx hb d_Mo_add_8 ?_
  refine lv_istore (lv' := [(5, .int (iI ((sn w) * by_))), (0, .ref y), (1, .int (iI ((t : Int)))), (2, .int (iI ((x : Int)))), (3, .int (iI ((w : Int)))), (4, .int (iI by_))]) hx hb d_Mo_add_9 hl (by decide) rfl (fun ls hl => ?_)
  have J1 : ∀ (nm : Nat), (nx ≤ nm ∧ nw ≤ nm ∧ (nm = nx ∨ nm = nw)) → ∀ (H : Heap) (locs : List Loc) (ls : Array Slot), Wb D vwCl (TY cs) L (mw f [(y, .inr (7, [.int (iI th), .ref m1, .ref m2, .ref m3, .int (iI pn), .ref m5, .ref m6, .ref m7, .ref m8, .ref m9, .ref m10, .ref m11, .ref m12, .ref m13, .int (iI rw_), .ref m15, .long (lI fu), .long (lI fb)])), (m1, .inl (cs 0, 11520, .inl (ai lm))), (m2, .inl (cs 0, 180, .inl (ai mn))), (m3, .inl (cs 0, 180, .inl (ai sn)))]) (AL L s.heap.size) s H locs → lv_has ls 15 [(5, .int (iI ((sn w) * by_))), (0, .ref y), (1, .int (iI ((t : Int)))), (2, .int (iI ((x : Int)))), (3, .int (iI ((w : Int)))), (4, .int (iI by_))] → W p l e R s m av below meth c H locs (0) (0) Q (F0 m 41 ls [.int (iI ((nm : Int)))]) := by
    intro nm hnm H locs ls B hl
    refine lv_istore (lv' := [(6, .int (iI ((nm : Int)))), (5, .int (iI ((sn w) * by_))), (0, .ref y), (1, .int (iI ((t : Int)))), (2, .int (iI ((x : Int)))), (3, .int (iI ((w : Int)))), (4, .int (iI by_))]) hx hb d_Mo_add_41 hl (by decide) rfl (fun ls hl => ?_)
    refine lv_iload hx hb d_Mo_add_43 (lv_at hl 1 rfl) ?_
    refine x_if_ne (tgt := 55) hx hb d_Mo_add_45 (by decide) (by omega) (fun h45 => ?_) (fun h45 => ?_)
    · have J75 : ∀ (uu : Unit), (sn x = 0 ∨ sn x = sn w * by_) → (sn w * by_ ≠ 0) → ∀ (H : Heap) (locs : List Loc) (ls : Array Slot), Wb D vwCl (TY cs) L (mw f [(y, .inr (7, [.int (iI th), .ref m1, .ref m2, .ref m3, .int (iI pn), .ref m5, .ref m6, .ref m7, .ref m8, .ref m9, .ref m10, .ref m11, .ref m12, .ref m13, .int (iI rw_), .ref m15, .long (lI fu), .long (lI fb)])), (m1, .inl (cs 0, 11520, .inl (ai lm))), (m2, .inl (cs 0, 180, .inl (ai mn))), (m3, .inl (cs 0, 180, .inl (ai sn)))]) (AL L s.heap.size) s H locs → lv_has ls 15 [(6, .int (iI ((nm : Int)))), (5, .int (iI ((sn w) * by_))), (0, .ref y), (1, .int (iI ((t : Int)))), (2, .int (iI ((x : Int)))), (3, .int (iI ((w : Int)))), (4, .int (iI by_))] → W p l e R s m av below meth c H locs (0) (0) Q (F0 m 75 ls []) := by
        intro uu hsame hs0 H locs ls B hl
        refine x_lconst (z := 0) hx hb d_Mo_add_75 (by decide) ?_
        refine lv_lstore (lv' := [(7, .long (lI 0)), (6, .int (iI ((nm : Int)))), (5, .int (iI ((sn w) * by_))), (0, .ref y), (1, .int (iI ((t : Int)))), (2, .int (iI ((x : Int)))), (3, .int (iI ((w : Int)))), (4, .int (iI by_))]) hx hb d_Mo_add_76 hl (by decide) rfl (fun ls hl => ?_)
        refine x_iconst hx hb d_Mo_add_78 ?_
        refine lv_istore (lv' := [(9, .int (iI 0)), (7, .long (lI 0)), (6, .int (iI ((nm : Int)))), (5, .int (iI ((sn w) * by_))), (0, .ref y), (1, .int (iI ((t : Int)))), (2, .int (iI ((x : Int)))), (3, .int (iI ((w : Int)))), (4, .int (iI by_))]) hx hb d_Mo_add_79 hl (by decide) rfl (fun ls hl => ?_)
        have L1 : ∀ (fuel : Nat) (k : Nat) (cy : Int) (lm2 : Nat → Int), nm + 1 - k < fuel → (k ≤ nm + 1) → (MAdd (mAt (fl lm x) nx) (mAt (fl lm w) nw) 1 k cy (fl lm2 t)) → (Off t lm mn sn lm2 mn sn) → (∀ j, k ≤ j → j < 64 → fl lm2 x j = fl lm x j) → (∀ j, k ≤ j → j < 64 → fl lm2 w j = fl lm w j) → (0 ≤ cy) → ∀ (H : Heap) (locs : List Loc) (ls : Array Slot), Wb D vwCl (TY cs) L (mw f [(y, .inr (7, [.int (iI th), .ref m1, .ref m2, .ref m3, .int (iI pn), .ref m5, .ref m6, .ref m7, .ref m8, .ref m9, .ref m10, .ref m11, .ref m12, .ref m13, .int (iI rw_), .ref m15, .long (lI fu), .long (lI fb)])), (m1, .inl (cs 0, 11520, .inl (ai lm2))), (m2, .inl (cs 0, 180, .inl (ai mn))), (m3, .inl (cs 0, 180, .inl (ai sn)))]) (AL L s.heap.size) s H locs → lv_has ls 15 [(9, .int (iI ((k : Int)))), (7, .long (lI cy)), (6, .int (iI ((nm : Int)))), (5, .int (iI ((sn w) * by_))), (0, .ref y), (1, .int (iI ((t : Int)))), (2, .int (iI ((x : Int)))), (3, .int (iI ((w : Int)))), (4, .int (iI by_))] → W p l e R s m av below meth c H locs (0) (0) Q (F0 m 81 ls []) := by
          intro fuel
          induction fuel with
          | zero => intro k cy lm2 hfu; exact absurd hfu (Nat.not_lt_zero _)
          | succ fuel ih_L1 =>
            intro k cy lm2 hfu_L1 hk hI hO hJx hJw hc0 H locs ls B hl
            have hc1 := hI.1
            have hc2 := hI.2.1
            refine lv_iload hx hb d_Mo_add_81 (lv_at hl 0 rfl) ?_
            refine lv_iload hx hb d_Mo_add_83 (lv_at hl 2 rfl) ?_
            refine x_icmp_gt (tgt := 136) hx hb d_Mo_add_85 (by decide) (by omega) (by omega) (fun h85 => ?_) (fun h85 => ?_)
            · have hsm := sum_same (u := Z x) (v := Z w) (s := sn w * by_) hby hsx hsw rfl hs0 hsame
              refine lv_aload_n hx hb d_Mo_add_136 rfl (lv_at hl 4 rfl) ?_
              refine x_get (C := RX7) (T := TX7) (N := 18) hx hb hts inX7 hown B hF 0 rfl rfl 3 (by decide) (hts _ w_680) (fun _ h9 => h9) rfl d_Mo_add_137 ?_
              refine lv_iload_n hx hb d_Mo_add_140 rfl (lv_at hl 5 rfl) ?_
              refine lv_iload hx hb d_Mo_add_141 (lv_at hl 3 rfl) ?_
              refine x_iast hx hb B hF 3 0 rfl rfl t (by omega) (by omega) (by decide) d_Mo_add_143 (fun H locs B => ?_)
              have B : Wb D vwCl (TY cs) L (mw f [(y, .inr (7, [.int (iI th), .ref m1, .ref m2, .ref m3, .int (iI pn), .ref m5, .ref m6, .ref m7, .ref m8, .ref m9, .ref m10, .ref m11, .ref m12, .ref m13, .int (iI rw_), .ref m15, .long (lI fu), .long (lI fb)])), (m1, .inl (cs 0, 11520, .inl (ai lm2))), (m2, .inl (cs 0, 180, .inl (ai mn))), (m3, .inl (cs 0, 180, .inl (ai (up sn t ((sn w) * by_)))))]) (AL L s.heap.size) s H _ := B
              refine lv_aload_n hx hb d_Mo_add_144 rfl (lv_at hl 4 rfl) ?_
              refine x_get (C := RX7) (T := TX7) (N := 18) hx hb hts inX7 hown B hF 0 rfl rfl 2 (by decide) (hts _ w_679) (fun _ h9 => h9) rfl d_Mo_add_145 ?_
              refine lv_iload_n hx hb d_Mo_add_148 rfl (lv_at hl 5 rfl) ?_
              refine lv_iload hx hb d_Mo_add_149 (lv_at hl 2 rfl) ?_
              refine x_iconst hx hb d_Mo_add_151 ?_
              refine x_iadd hx hb d_Mo_add_152 ?_
              refine x_iast hx hb B hF 2 0 rfl rfl t (by omega) (by omega) (by decide) d_Mo_add_153 (fun H locs B => ?_)
              have B : Wb D vwCl (TY cs) L (mw f [(y, .inr (7, [.int (iI th), .ref m1, .ref m2, .ref m3, .int (iI pn), .ref m5, .ref m6, .ref m7, .ref m8, .ref m9, .ref m10, .ref m11, .ref m12, .ref m13, .int (iI rw_), .ref m15, .long (lI fu), .long (lI fb)])), (m1, .inl (cs 0, 11520, .inl (ai lm2))), (m2, .inl (cs 0, 180, .inl (ai (up mn t (((nm : Int)) + 1))))), (m3, .inl (cs 0, 180, .inl (ai (up sn t ((sn w) * by_)))))]) (AL L s.heap.size) s H _ := B
              refine lv_aload_n hx hb d_Mo_add_154 rfl (lv_at hl 4 rfl) ?_
              refine lv_iload_n hx hb d_Mo_add_155 rfl (lv_at hl 5 rfl) ?_
              refine x_callv B hA (va_runV (As := [.int (iI ((t : Int)))]) (rest := []) ⟨hx, hb, hml, hown, hts⟩ (c_Mo_trim l D cs _ _ _ y m1 m2 m3 m5 m6 m7 m8 m9 m10 m11 m12 m13 m15 th pn rw_ fu fb lm2 (up mn t (((nm : Int)) + 1)) (up sn t ((sn w) * by_)) Z t (nm + 1) (Z x + by_ * Z w) hF (mw_get (X := [(y, .inr (7, [.int (iI th), .ref m1, .ref m2, .ref m3, .int (iI pn), .ref m5, .ref m6, .ref m7, .ref m8, .ref m9, .ref m10, .ref m11, .ref m12, .ref m13, .int (iI rw_), .ref m15, .long (lI fu), .long (lI fb)])), (m1, .inl (cs 0, 11520, .inl (ai lm2))), (m2, .inl (cs 0, 180, .inl (ai (up mn t (((nm : Int)) + 1))))), (m3, .inl (cs 0, 180, .inl (ai (up sn t ((sn w) * by_)))))]) hF.1 (k := 0) rfl) (mw_get (X := [(y, .inr (7, [.int (iI th), .ref m1, .ref m2, .ref m3, .int (iI pn), .ref m5, .ref m6, .ref m7, .ref m8, .ref m9, .ref m10, .ref m11, .ref m12, .ref m13, .int (iI rw_), .ref m15, .long (lI fu), .long (lI fb)])), (m1, .inl (cs 0, 11520, .inl (ai lm2))), (m2, .inl (cs 0, 180, .inl (ai (up mn t (((nm : Int)) + 1))))), (m3, .inl (cs 0, 180, .inl (ai (up sn t ((sn w) * by_)))))]) hF.1 (k := 1) rfl) (mw_get (X := [(y, .inr (7, [.int (iI th), .ref m1, .ref m2, .ref m3, .int (iI pn), .ref m5, .ref m6, .ref m7, .ref m8, .ref m9, .ref m10, .ref m11, .ref m12, .ref m13, .int (iI rw_), .ref m15, .long (lI fu), .long (lI fb)])), (m1, .inl (cs 0, 11520, .inl (ai lm2))), (m2, .inl (cs 0, 180, .inl (ai (up mn t (((nm : Int)) + 1))))), (m3, .inl (cs 0, 180, .inl (ai (up sn t ((sn w) * by_)))))]) hF.1 (k := 2) rfl) (mw_get (X := [(y, .inr (7, [.int (iI th), .ref m1, .ref m2, .ref m3, .int (iI pn), .ref m5, .ref m6, .ref m7, .ref m8, .ref m9, .ref m10, .ref m11, .ref m12, .ref m13, .int (iI rw_), .ref m15, .long (lI fu), .long (lI fb)])), (m1, .inl (cs 0, 11520, .inl (ai lm2))), (m2, .inl (cs 0, 180, .inl (ai (up mn t (((nm : Int)) + 1))))), (m3, .inl (cs 0, 180, .inl (ai (up sn t ((sn w) * by_)))))]) hF.1 (k := 3) rfl) (hRS.get ((hO.sign _).many _)) ht8 (by rw [up_self]; omega) (by omega) (by
        have h9 := hsm.1
        rw [h9, ← hvx, ← hvw]
        exact MAdd.sum (show MAdd (mAt (fl lm x) nx) (mAt (fl lm w) nw) 1 (nm + 1) cy (fl lm2 t) by rw [show nm + 1 = k by omega]; exact hI) (by omega) (by omega) hMx hMw) (fun _ => by rw [up_self]; exact hsm.2)) (cwV 1 hts (gw_V w_816 w_818 s_40 w_8 w_819) rfl rfl rfl (by decide +kernel) ⟨by rw [hRf]; exact Nat.le_of_ble_eq_true rfl, by rw [hRl]; exact Nat.le_of_ble_eq_true rfl⟩) ⟨K0.blind, B.recv (hF.2 _ (mw_key (k := 0) (X := [(y, .inr (7, [.int (iI th), .ref m1, .ref m2, .ref m3, .int (iI pn), .ref m5, .ref m6, .ref m7, .ref m8, .ref m9, .ref m10, .ref m11, .ref m12, .ref m13, .int (iI rw_), .ref m15, .long (lI fu), .long (lI fb)])), (m1, .inl (cs 0, 11520, .inl (ai lm2))), (m2, .inl (cs 0, 180, .inl (ai (up mn t (((nm : Int)) + 1))))), (m3, .inl (cs 0, 180, .inl (ai (up sn t ((sn w) * by_)))))]) rfl)) (mw_get (X := [(y, .inr (7, [.int (iI th), .ref m1, .ref m2, .ref m3, .int (iI pn), .ref m5, .ref m6, .ref m7, .ref m8, .ref m9, .ref m10, .ref m11, .ref m12, .ref m13, .int (iI rw_), .ref m15, .long (lI fu), .long (lI fb)])), (m1, .inl (cs 0, 11520, .inl (ai lm2))), (m2, .inl (cs 0, 180, .inl (ai (up mn t (((nm : Int)) + 1))))), (m3, .inl (cs 0, 180, .inl (ai (up sn t ((sn w) * by_)))))]) hF.1 (k := 0) rfl) rfl, B.pre _⟩ rfl rfl hl.1 rfl (lv_room (Nat.le_of_ble_eq_true rfl)) d_Mo_add_156 ⟨by rw [hRc]; omega, by rw [hRs]; omega⟩) (fun g156 H locs hw B => ?_)
              obtain ⟨lm156, mn156, sn156, hR2, rfl⟩ := hw
              have B := B.of_eq (mw_put3 (X := [(y, .inr (7, [.int (iI th), .ref m1, .ref m2, .ref m3, .int (iI pn), .ref m5, .ref m6, .ref m7, .ref m8, .ref m9, .ref m10, .ref m11, .ref m12, .ref m13, .int (iI rw_), .ref m15, .long (lI fu), .long (lI fb)])), (m1, .inl (cs 0, 11520, .inl (ai lm2))), (m2, .inl (cs 0, 180, .inl (ai (up mn t (((nm : Int)) + 1))))), (m3, .inl (cs 0, 180, .inl (ai (up sn t ((sn w) * by_)))))]) hF.1 (k1 := 1) (k2 := 2) (k3 := 3) rfl rfl rfl)
              have B : Wb D vwCl (TY cs) L (mw f [(y, .inr (7, [.int (iI th), .ref m1, .ref m2, .ref m3, .int (iI pn), .ref m5, .ref m6, .ref m7, .ref m8, .ref m9, .ref m10, .ref m11, .ref m12, .ref m13, .int (iI rw_), .ref m15, .long (lI fu), .long (lI fb)])), (m1, .inl (cs 0, 11520, .inl (ai lm156))), (m2, .inl (cs 0, 180, .inl (ai mn156))), (m3, .inl (cs 0, 180, .inl (ai sn156)))]) (AL L s.heap.size) s H _ := B
              subst hQ hav
              exact x_vret hx hb hr hlocks B d_Mo_add_159 (⟨_, _, _, hR2, mw_drop (f := f) (X := [(m1, .inl (cs 0, 11520, .inl (ai lm156))), (m2, .inl (cs 0, 180, .inl (ai mn156))), (m3, .inl (cs 0, 180, .inl (ai sn156)))]) ha (List.nodup_cons.mp hF.1).1⟩)
            · refine lv_lload hx hb d_Mo_add_88 (lv_at hl 1 rfl) ?_
              refine lv_aload_n hx hb d_Mo_add_90 rfl (lv_at hl 4 rfl) ?_
              refine lv_iload_n hx hb d_Mo_add_91 rfl (lv_at hl 6 rfl) ?_
              refine lv_iload hx hb d_Mo_add_92 (lv_at hl 0 rfl) ?_
              refine x_calll B hA (va_runV (As := [.int (iI ((x : Int))), .int (iI ((k : Int)))]) (rest := [.long (lI cy)]) ⟨hx, hb, hml, hown, hts⟩ (c_Mo_limbOf l D cs _ _ _ y m1 m2 m3 m5 m6 m7 m8 m9 m10 m11 m12 m13 m15 th pn rw_ fu fb lm2 mn sn x k nx hF (mw_get (X := [(y, .inr (7, [.int (iI th), .ref m1, .ref m2, .ref m3, .int (iI pn), .ref m5, .ref m6, .ref m7, .ref m8, .ref m9, .ref m10, .ref m11, .ref m12, .ref m13, .int (iI rw_), .ref m15, .long (lI fu), .long (lI fb)])), (m1, .inl (cs 0, 11520, .inl (ai lm2))), (m2, .inl (cs 0, 180, .inl (ai mn))), (m3, .inl (cs 0, 180, .inl (ai sn)))]) hF.1 (k := 0) rfl) (mw_get (X := [(y, .inr (7, [.int (iI th), .ref m1, .ref m2, .ref m3, .int (iI pn), .ref m5, .ref m6, .ref m7, .ref m8, .ref m9, .ref m10, .ref m11, .ref m12, .ref m13, .int (iI rw_), .ref m15, .long (lI fu), .long (lI fb)])), (m1, .inl (cs 0, 11520, .inl (ai lm2))), (m2, .inl (cs 0, 180, .inl (ai mn))), (m3, .inl (cs 0, 180, .inl (ai sn)))]) hF.1 (k := 1) rfl) (mw_get (X := [(y, .inr (7, [.int (iI th), .ref m1, .ref m2, .ref m3, .int (iI pn), .ref m5, .ref m6, .ref m7, .ref m8, .ref m9, .ref m10, .ref m11, .ref m12, .ref m13, .int (iI rw_), .ref m15, .long (lI fu), .long (lI fb)])), (m1, .inl (cs 0, 11520, .inl (ai lm2))), (m2, .inl (cs 0, 180, .inl (ai mn))), (m3, .inl (cs 0, 180, .inl (ai sn)))]) hF.1 (k := 2) rfl) (mw_get (X := [(y, .inr (7, [.int (iI th), .ref m1, .ref m2, .ref m3, .int (iI pn), .ref m5, .ref m6, .ref m7, .ref m8, .ref m9, .ref m10, .ref m11, .ref m12, .ref m13, .int (iI rw_), .ref m15, .long (lI fu), .long (lI fb)])), (m1, .inl (cs 0, 11520, .inl (ai lm2))), (m2, .inl (cs 0, 180, .inl (ai mn))), (m3, .inl (cs 0, 180, .inl (ai sn)))]) hF.1 (k := 3) rfl) (by omega) (by omega) (hnx) (by omega) (fun h9 => by rw [hJx k (Nat.le_refl _) (by omega)]; exact hMx k h9)) (cwV 2 hts (gw_V w_824 w_826 s_42 w_8 w_827) rfl rfl rfl (by decide +kernel) ⟨by rw [hRf]; exact Nat.le_of_ble_eq_true rfl, by rw [hRl]; exact Nat.le_of_ble_eq_true rfl⟩) ⟨K0.blind, B.recv (hF.2 _ (mw_key (k := 0) (X := [(y, .inr (7, [.int (iI th), .ref m1, .ref m2, .ref m3, .int (iI pn), .ref m5, .ref m6, .ref m7, .ref m8, .ref m9, .ref m10, .ref m11, .ref m12, .ref m13, .int (iI rw_), .ref m15, .long (lI fu), .long (lI fb)])), (m1, .inl (cs 0, 11520, .inl (ai lm2))), (m2, .inl (cs 0, 180, .inl (ai mn))), (m3, .inl (cs 0, 180, .inl (ai sn)))]) rfl)) (mw_get (X := [(y, .inr (7, [.int (iI th), .ref m1, .ref m2, .ref m3, .int (iI pn), .ref m5, .ref m6, .ref m7, .ref m8, .ref m9, .ref m10, .ref m11, .ref m12, .ref m13, .int (iI rw_), .ref m15, .long (lI fu), .long (lI fb)])), (m1, .inl (cs 0, 11520, .inl (ai lm2))), (m2, .inl (cs 0, 180, .inl (ai mn))), (m3, .inl (cs 0, 180, .inl (ai sn)))]) hF.1 (k := 0) rfl) rfl, B.pre _⟩ rfl rfl hl.1 rfl (lv_room (Nat.le_of_ble_eq_true rfl)) d_Mo_add_94 ⟨by rw [hRc]; omega, by rw [hRs]; omega⟩) (fun r94 g94 H locs hw B => ?_)
              obtain ⟨rfl, rfl⟩ := hw
              rw [mAt_of (n := nx) (hJx k (Nat.le_refl _) (by omega))]
              have B : Wb D vwCl (TY cs) L (mw f [(y, .inr (7, [.int (iI th), .ref m1, .ref m2, .ref m3, .int (iI pn), .ref m5, .ref m6, .ref m7, .ref m8, .ref m9, .ref m10, .ref m11, .ref m12, .ref m13, .int (iI rw_), .ref m15, .long (lI fu), .long (lI fb)])), (m1, .inl (cs 0, 11520, .inl (ai lm2))), (m2, .inl (cs 0, 180, .inl (ai mn))), (m3, .inl (cs 0, 180, .inl (ai sn)))]) (AL L s.heap.size) s H _ := B
              refine lv_aload_n hx hb d_Mo_add_97 rfl (lv_at hl 4 rfl) ?_
              refine lv_iload_n hx hb d_Mo_add_98 rfl (lv_at hl 7 rfl) ?_
              refine lv_iload hx hb d_Mo_add_99 (lv_at hl 0 rfl) ?_
              refine x_calll B hA (va_runV (As := [.int (iI ((w : Int))), .int (iI ((k : Int)))]) (rest := [.long (lI (mAt (fl lm x) nx k)), .long (lI cy)]) ⟨hx, hb, hml, hown, hts⟩ (c_Mo_limbOf l D cs _ _ _ y m1 m2 m3 m5 m6 m7 m8 m9 m10 m11 m12 m13 m15 th pn rw_ fu fb lm2 mn sn w k nw hF (mw_get (X := [(y, .inr (7, [.int (iI th), .ref m1, .ref m2, .ref m3, .int (iI pn), .ref m5, .ref m6, .ref m7, .ref m8, .ref m9, .ref m10, .ref m11, .ref m12, .ref m13, .int (iI rw_), .ref m15, .long (lI fu), .long (lI fb)])), (m1, .inl (cs 0, 11520, .inl (ai lm2))), (m2, .inl (cs 0, 180, .inl (ai mn))), (m3, .inl (cs 0, 180, .inl (ai sn)))]) hF.1 (k := 0) rfl) (mw_get (X := [(y, .inr (7, [.int (iI th), .ref m1, .ref m2, .ref m3, .int (iI pn), .ref m5, .ref m6, .ref m7, .ref m8, .ref m9, .ref m10, .ref m11, .ref m12, .ref m13, .int (iI rw_), .ref m15, .long (lI fu), .long (lI fb)])), (m1, .inl (cs 0, 11520, .inl (ai lm2))), (m2, .inl (cs 0, 180, .inl (ai mn))), (m3, .inl (cs 0, 180, .inl (ai sn)))]) hF.1 (k := 1) rfl) (mw_get (X := [(y, .inr (7, [.int (iI th), .ref m1, .ref m2, .ref m3, .int (iI pn), .ref m5, .ref m6, .ref m7, .ref m8, .ref m9, .ref m10, .ref m11, .ref m12, .ref m13, .int (iI rw_), .ref m15, .long (lI fu), .long (lI fb)])), (m1, .inl (cs 0, 11520, .inl (ai lm2))), (m2, .inl (cs 0, 180, .inl (ai mn))), (m3, .inl (cs 0, 180, .inl (ai sn)))]) hF.1 (k := 2) rfl) (mw_get (X := [(y, .inr (7, [.int (iI th), .ref m1, .ref m2, .ref m3, .int (iI pn), .ref m5, .ref m6, .ref m7, .ref m8, .ref m9, .ref m10, .ref m11, .ref m12, .ref m13, .int (iI rw_), .ref m15, .long (lI fu), .long (lI fb)])), (m1, .inl (cs 0, 11520, .inl (ai lm2))), (m2, .inl (cs 0, 180, .inl (ai mn))), (m3, .inl (cs 0, 180, .inl (ai sn)))]) hF.1 (k := 3) rfl) (by omega) (by omega) (hnw) (by omega) (fun h9 => by rw [hJw k (Nat.le_refl _) (by omega)]; exact hMw k h9)) (cwV 2 hts (gw_V w_824 w_826 s_42 w_8 w_827) rfl rfl rfl (by decide +kernel) ⟨by rw [hRf]; exact Nat.le_of_ble_eq_true rfl, by rw [hRl]; exact Nat.le_of_ble_eq_true rfl⟩) ⟨K0.blind, B.recv (hF.2 _ (mw_key (k := 0) (X := [(y, .inr (7, [.int (iI th), .ref m1, .ref m2, .ref m3, .int (iI pn), .ref m5, .ref m6, .ref m7, .ref m8, .ref m9, .ref m10, .ref m11, .ref m12, .ref m13, .int (iI rw_), .ref m15, .long (lI fu), .long (lI fb)])), (m1, .inl (cs 0, 11520, .inl (ai lm2))), (m2, .inl (cs 0, 180, .inl (ai mn))), (m3, .inl (cs 0, 180, .inl (ai sn)))]) rfl)) (mw_get (X := [(y, .inr (7, [.int (iI th), .ref m1, .ref m2, .ref m3, .int (iI pn), .ref m5, .ref m6, .ref m7, .ref m8, .ref m9, .ref m10, .ref m11, .ref m12, .ref m13, .int (iI rw_), .ref m15, .long (lI fu), .long (lI fb)])), (m1, .inl (cs 0, 11520, .inl (ai lm2))), (m2, .inl (cs 0, 180, .inl (ai mn))), (m3, .inl (cs 0, 180, .inl (ai sn)))]) hF.1 (k := 0) rfl) rfl, B.pre _⟩ rfl rfl hl.1 rfl (lv_room (Nat.le_of_ble_eq_true rfl)) d_Mo_add_101 ⟨by rw [hRc]; omega, by rw [hRs]; omega⟩) (fun r101 g101 H locs hw B => ?_)
              obtain ⟨rfl, rfl⟩ := hw
              rw [mAt_of (n := nw) (hJw k (Nat.le_refl _) (by omega))]
              have B : Wb D vwCl (TY cs) L (mw f [(y, .inr (7, [.int (iI th), .ref m1, .ref m2, .ref m3, .int (iI pn), .ref m5, .ref m6, .ref m7, .ref m8, .ref m9, .ref m10, .ref m11, .ref m12, .ref m13, .int (iI rw_), .ref m15, .long (lI fu), .long (lI fb)])), (m1, .inl (cs 0, 11520, .inl (ai lm2))), (m2, .inl (cs 0, 180, .inl (ai mn))), (m3, .inl (cs 0, 180, .inl (ai sn)))]) (AL L s.heap.size) s H _ := B
              refine x_ladd hx hb d_Mo_add_104 ?_
              refine x_ladd hx hb d_Mo_add_105 ?_
              refine lv_lstore (lv' := [(7, .long (lI (cy + ((mAt (fl lm x) nx k) + (mAt (fl lm w) nw k))))), (9, .int (iI ((k : Int)))), (6, .int (iI ((nm : Int)))), (5, .int (iI ((sn w) * by_))), (0, .ref y), (1, .int (iI ((t : Int)))), (2, .int (iI ((x : Int)))), (3, .int (iI ((w : Int)))), (4, .int (iI by_))]) hx hb d_Mo_add_106 hl (by decide) rfl (fun ls hl => ?_)
              have hax := mAt_range hMx k
              have haw := mAt_range hMw k
              have hstep := hI.step (w := cy + (mAt (fl lm x) nx k + mAt (fl lm w) nw k)) hax haw (Or.inl rfl) (by omega)
              refine lv_aload_n hx hb d_Mo_add_108 rfl (lv_at hl 4 rfl) ?_
              refine x_get (C := RX7) (T := TX7) (N := 18) hx hb hts inX7 hown B hF 0 rfl rfl 1 (by decide) (hts _ w_678) (fun _ h9 => h9) rfl d_Mo_add_109 ?_
              refine x_bipush hx hb d_Mo_add_112 (by decide) ?_
              refine lv_iload_n hx hb d_Mo_add_114 rfl (lv_at hl 5 rfl) ?_
              refine x_imul hx hb d_Mo_add_115 ?_
              refine lv_iload hx hb d_Mo_add_116 (lv_at hl 1 rfl) ?_
              refine x_iadd hx hb d_Mo_add_118 ?_
              refine lv_lload hx hb d_Mo_add_119 (lv_at hl 0 rfl) ?_
              refine x_l2iw hx hb d_Mo_add_121 ?_
              refine x_iast hx hb B hF 1 0 rfl rfl (64 * t + k) (by omega) (by omega) (by decide) d_Mo_add_122 (fun H locs B => ?_)
              have B : Wb D vwCl (TY cs) L (mw f [(y, .inr (7, [.int (iI th), .ref m1, .ref m2, .ref m3, .int (iI pn), .ref m5, .ref m6, .ref m7, .ref m8, .ref m9, .ref m10, .ref m11, .ref m12, .ref m13, .int (iI rw_), .ref m15, .long (lI fu), .long (lI fb)])), (m1, .inl (cs 0, 11520, .inl (ai (up lm2 (64 * t + k) ((cy + ((mAt (fl lm x) nx k) + (mAt (fl lm w) nw k))) % 4294967296))))), (m2, .inl (cs 0, 180, .inl (ai mn))), (m3, .inl (cs 0, 180, .inl (ai sn)))]) (AL L s.heap.size) s H _ := B
              refine lv_lload hx hb d_Mo_add_123 (lv_at hl 0 rfl) ?_
              refine x_bipush hx hb d_Mo_add_125 (by decide) ?_
              refine x_lushr32 hx hb d_Mo_add_127 (by omega) ?_
              refine lv_lstore (lv' := [(7, .long (lI ((cy + ((mAt (fl lm x) nx k) + (mAt (fl lm w) nw k))) / 4294967296))), (9, .int (iI ((k : Int)))), (6, .int (iI ((nm : Int)))), (5, .int (iI ((sn w) * by_))), (0, .ref y), (1, .int (iI ((t : Int)))), (2, .int (iI ((x : Int)))), (3, .int (iI ((w : Int)))), (4, .int (iI by_))]) hx hb d_Mo_add_128 hl (by decide) rfl (fun ls hl => ?_)
              refine x_iinc (lv' := [(9, .int (iI (((k : Int)) + 1))), (7, .long (lI ((cy + ((mAt (fl lm x) nx k) + (mAt (fl lm w) nw k))) / 4294967296))), (6, .int (iI ((nm : Int)))), (5, .int (iI ((sn w) * by_))), (0, .ref y), (1, .int (iI ((t : Int)))), (2, .int (iI ((x : Int)))), (3, .int (iI ((w : Int)))), (4, .int (iI by_))]) hx hb d_Mo_add_130 hl (q := 1) rfl rfl (by decide) rfl (fun ls hl => ?_)
              refine lv_goto (tgt := 81) hx hb d_Mo_add_133 (by decide) ?_
              exact ih_L1 (k + 1) ((cy + ((mAt (fl lm x) nx k) + (mAt (fl lm w) nw k))) / 4294967296) (up lm2 (64 * t + k) ((cy + ((mAt (fl lm x) nx k) + (mAt (fl lm w) nw k))) % 4294967296)) (by omega) (by omega) (by rw [fl_up]; exact hstep.1) (hO.limb (by omega) _) (fun j h1 h2 => by
          by_cases htx : t = x
          · rw [htx, fl_up, up_ne _ _ (by omega)]; exact hJx j (by omega) h2
          · rw [fl_out _ _ (by omega) h2 htx]; exact hJx j (by omega) h2) (fun j h1 h2 => by
          by_cases htx : t = w
          · rw [htx, fl_up, up_ne _ _ (by omega)]; exact hJw j (by omega) h2
          · rw [fl_out _ _ (by omega) h2 htx]; exact hJw j (by omega) h2) (by omega) _ _ _ B (lv_sub hl [0, 1, 2, 3, 4, 5, 6, 7, 8] rfl)
        exact L1 _ 0 0 lm (Nat.lt_succ_self _) (by omega) MAdd.first (Off.refl t lm mn sn) (fun j _ _ => rfl) (fun j _ _ => rfl) (by omega) _ _ _ B (lv_sub hl [0, 1, 2, 3, 4, 5, 6, 7, 8] rfl)
      refine lv_aload_n hx hb d_Mo_add_55 rfl (lv_at hl 2 rfl) ?_
      refine x_get (C := RX7) (T := TX7) (N := 18) hx hb hts inX7 hown B hF 0 rfl rfl 3 (by decide) (hts _ w_680) (fun _ h9 => h9) rfl d_Mo_add_56 ?_
      refine lv_iload_n hx hb d_Mo_add_59 rfl (lv_at hl 4 rfl) ?_
      refine x_iald hx hb B hF 3 0 rfl rfl x (by omega) (by omega) (by decide) d_Mo_add_60 ?_
      refine x_if_eq (tgt := 75) hx hb d_Mo_add_61 (by decide) (by omega) (fun h61 => ?_) (fun h61 => ?_)
      · exact J75 (()) (by omega) (by omega) _ _ _ B (lv_sub hl [0, 1, 2, 3, 4, 5, 6] rfl)
      · refine lv_aload_n hx hb d_Mo_add_64 rfl (lv_at hl 2 rfl) ?_
        refine x_get (C := RX7) (T := TX7) (N := 18) hx hb hts inX7 hown B hF 0 rfl rfl 3 (by decide) (hts _ w_680) (fun _ h9 => h9) rfl d_Mo_add_65 ?_
        refine lv_iload_n hx hb d_Mo_add_68 rfl (lv_at hl 4 rfl) ?_
        refine x_iald hx hb B hF 3 0 rfl rfl x (by omega) (by omega) (by decide) d_Mo_add_69 ?_
        refine lv_iload hx hb d_Mo_add_70 (lv_at hl 1 rfl) ?_
        refine x_icmp_ne (tgt := 160) hx hb d_Mo_add_72 (by decide) (by omega) (by omega) (fun h72 => ?_) (fun h72 => ?_)
        · have hs0 : sn w * by_ ≠ 0 := by omega
          have J218 : ∀ (ag : Nat) (bg : Nat) (tt : Int), ((ag = x ∧ bg = w ∧ ((Z w).natAbs : Int) ≤ ((Z x).natAbs : Int) ∧ tt = sn x) ∨ (ag = w ∧ bg = x ∧ ((Z x).natAbs : Int) ≤ ((Z w).natAbs : Int) ∧ tt = sn w * by_)) → ∀ (H : Heap) (locs : List Loc) (ls : Array Slot), Wb D vwCl (TY cs) L (mw f [(y, .inr (7, [.int (iI th), .ref m1, .ref m2, .ref m3, .int (iI pn), .ref m5, .ref m6, .ref m7, .ref m8, .ref m9, .ref m10, .ref m11, .ref m12, .ref m13, .int (iI rw_), .ref m15, .long (lI fu), .long (lI fb)])), (m1, .inl (cs 0, 11520, .inl (ai lm))), (m2, .inl (cs 0, 180, .inl (ai mn))), (m3, .inl (cs 0, 180, .inl (ai sn)))]) (AL L s.heap.size) s H locs → lv_has ls 15 [(10, .int (iI tt)), (9, .int (iI ((bg : Int)))), (8, .int (iI ((ag : Int)))), (6, .int (iI ((nm : Int)))), (5, .int (iI ((sn w) * by_))), (0, .ref y), (1, .int (iI ((t : Int)))), (2, .int (iI ((x : Int)))), (3, .int (iI ((w : Int)))), (4, .int (iI by_))] → W p l e R s m av below meth c H locs (0) (0) Q (F0 m 218 ls []) := by
            intro ag bg tt hag H locs ls B hl
            have ha8 : ag < 180 := by omega
            have hb8 : bg < 180 := by omega
            obtain ⟨na, hna, ha64, hMa, hta, hva⟩ := (hRS ag ha8).nat
            obtain ⟨nb, hnb, hb64, hMb, htb, hvb⟩ := (hRS bg hb8).nat
            have hle : ((Z bg).natAbs : Int) ≤ ((Z ag).natAbs : Int) := by rcases hag with ⟨h1, h2, h3, _⟩ | ⟨h1, h2, h3, _⟩ <;> rw [h1, h2] <;> exact h3
            have hsd := sum_diff (u := Z x) (v := Z w) (s := sn w * by_) hby hsx hsw rfl hs0 (by omega) (by omega)
            have hsd2 : (((Z x + by_ * Z w).natAbs : Nat) : Int) = ((Z ag).natAbs : Int) - ((Z bg).natAbs : Int) ∧ (Z x + by_ * Z w ≠ 0 → tt = (Z x + by_ * Z w).sign) := by rcases hag with ⟨h1, h2, h3, h4⟩ | ⟨h1, h2, h3, h4⟩ <;> rw [h1, h2, h4]; exact hsd.1 h3; exact hsd.2 h3
            have hnab : nb ≤ na := by rcases Nat.lt_or_ge na nb with h | h; have := Ms_size_lt hMa hMb (by omega) (htb (by omega)) h; omega; exact h
            refine x_lconst (z := 0) hx hb d_Mo_add_218 (by decide) ?_
            refine lv_lstore (lv' := [(11, .long (lI 0)), (10, .int (iI tt)), (9, .int (iI ((bg : Int)))), (8, .int (iI ((ag : Int)))), (6, .int (iI ((nm : Int)))), (5, .int (iI ((sn w) * by_))), (0, .ref y), (1, .int (iI ((t : Int)))), (2, .int (iI ((x : Int)))), (3, .int (iI ((w : Int)))), (4, .int (iI by_))]) hx hb d_Mo_add_219 hl (by decide) rfl (fun ls hl => ?_)
            refine lv_aload_n hx hb d_Mo_add_221 rfl (lv_at hl 6 rfl) ?_
            refine x_get (C := RX7) (T := TX7) (N := 18) hx hb hts inX7 hown B hF 0 rfl rfl 2 (by decide) (hts _ w_679) (fun _ h9 => h9) rfl d_Mo_add_222 ?_
            refine lv_iload hx hb d_Mo_add_225 (lv_at hl 3 rfl) ?_
            refine x_iald hx hb B hF 2 0 rfl rfl ag (by omega) (by omega) (by decide) d_Mo_add_227 ?_
            refine lv_istore (lv' := [(13, .int (iI (mn ag))), (11, .long (lI 0)), (10, .int (iI tt)), (9, .int (iI ((bg : Int)))), (8, .int (iI ((ag : Int)))), (6, .int (iI ((nm : Int)))), (5, .int (iI ((sn w) * by_))), (0, .ref y), (1, .int (iI ((t : Int)))), (2, .int (iI ((x : Int)))), (3, .int (iI ((w : Int)))), (4, .int (iI by_))]) hx hb d_Mo_add_228 hl (by decide) rfl (fun ls hl => ?_)
            refine x_iconst hx hb d_Mo_add_230 ?_
            refine lv_istore (lv' := [(14, .int (iI 0)), (13, .int (iI (mn ag))), (11, .long (lI 0)), (10, .int (iI tt)), (9, .int (iI ((bg : Int)))), (8, .int (iI ((ag : Int)))), (6, .int (iI ((nm : Int)))), (5, .int (iI ((sn w) * by_))), (0, .ref y), (1, .int (iI ((t : Int)))), (2, .int (iI ((x : Int)))), (3, .int (iI ((w : Int)))), (4, .int (iI by_))]) hx hb d_Mo_add_231 hl (by decide) rfl (fun ls hl => ?_)
            have L2 : ∀ (fuel : Nat) (k : Nat) (cy : Int) (lm2 : Nat → Int), na - k < fuel → (k ≤ na) → (MAdd (mAt (fl lm ag) na) (mAt (fl lm bg) nb) (-1) k cy (fl lm2 t)) → (Off t lm mn sn lm2 mn sn) → (∀ j, k ≤ j → j < 64 → fl lm2 ag j = fl lm ag j) → (∀ j, k ≤ j → j < 64 → fl lm2 bg j = fl lm bg j) → ∀ (H : Heap) (locs : List Loc) (ls : Array Slot), Wb D vwCl (TY cs) L (mw f [(y, .inr (7, [.int (iI th), .ref m1, .ref m2, .ref m3, .int (iI pn), .ref m5, .ref m6, .ref m7, .ref m8, .ref m9, .ref m10, .ref m11, .ref m12, .ref m13, .int (iI rw_), .ref m15, .long (lI fu), .long (lI fb)])), (m1, .inl (cs 0, 11520, .inl (ai lm2))), (m2, .inl (cs 0, 180, .inl (ai mn))), (m3, .inl (cs 0, 180, .inl (ai sn)))]) (AL L s.heap.size) s H locs → lv_has ls 15 [(14, .int (iI ((k : Int)))), (13, .int (iI ((na : Int)))), (11, .long (lI cy)), (10, .int (iI tt)), (9, .int (iI ((bg : Int)))), (8, .int (iI ((ag : Int)))), (6, .int (iI ((nm : Int)))), (5, .int (iI ((sn w) * by_))), (0, .ref y), (1, .int (iI ((t : Int)))), (2, .int (iI ((x : Int)))), (3, .int (iI ((w : Int)))), (4, .int (iI by_))] → W p l e R s m av below meth c H locs (0) (0) Q (F0 m 233 ls []) := by
              intro fuel
              induction fuel with
              | zero => intro k cy lm2 hfu; exact absurd hfu (Nat.not_lt_zero _)
              | succ fuel ih_L2 =>
                intro k cy lm2 hfu_L2 hk hI hO hJa hJb H locs ls B hl
                have hc1 := hI.1
                have hc2 := hI.2.1
                refine lv_iload hx hb d_Mo_add_233 (lv_at hl 0 rfl) ?_
                refine lv_iload hx hb d_Mo_add_235 (lv_at hl 1 rfl) ?_
                refine x_icmp_ge (tgt := 290) hx hb d_Mo_add_237 (by decide) (by omega) (by omega) (fun h237 => ?_) (fun h237 => ?_)
                · have e9 : k = na := by omega
                  have hI9 := hI
                  rw [e9] at hI9
                  refine lv_aload_n hx hb d_Mo_add_290 rfl (lv_at hl 8 rfl) ?_
                  refine x_get (C := RX7) (T := TX7) (N := 18) hx hb hts inX7 hown B hF 0 rfl rfl 2 (by decide) (hts _ w_679) (fun _ h9 => h9) rfl d_Mo_add_291 ?_
                  refine lv_iload_n hx hb d_Mo_add_294 rfl (lv_at hl 9 rfl) ?_
                  refine lv_iload hx hb d_Mo_add_295 (lv_at hl 1 rfl) ?_
                  refine x_iast hx hb B hF 2 0 rfl rfl t (by omega) (by omega) (by decide) d_Mo_add_297 (fun H locs B => ?_)
                  have B : Wb D vwCl (TY cs) L (mw f [(y, .inr (7, [.int (iI th), .ref m1, .ref m2, .ref m3, .int (iI pn), .ref m5, .ref m6, .ref m7, .ref m8, .ref m9, .ref m10, .ref m11, .ref m12, .ref m13, .int (iI rw_), .ref m15, .long (lI fu), .long (lI fb)])), (m1, .inl (cs 0, 11520, .inl (ai lm2))), (m2, .inl (cs 0, 180, .inl (ai (up mn t ((na : Int)))))), (m3, .inl (cs 0, 180, .inl (ai sn)))]) (AL L s.heap.size) s H _ := B
                  refine lv_aload_n hx hb d_Mo_add_298 rfl (lv_at hl 8 rfl) ?_
                  refine x_get (C := RX7) (T := TX7) (N := 18) hx hb hts inX7 hown B hF 0 rfl rfl 3 (by decide) (hts _ w_680) (fun _ h9 => h9) rfl d_Mo_add_299 ?_
                  refine lv_iload_n hx hb d_Mo_add_302 rfl (lv_at hl 9 rfl) ?_
                  refine lv_iload hx hb d_Mo_add_303 (lv_at hl 3 rfl) ?_
                  refine x_iast hx hb B hF 3 0 rfl rfl t (by omega) (by omega) (by decide) d_Mo_add_305 (fun H locs B => ?_)
                  have B : Wb D vwCl (TY cs) L (mw f [(y, .inr (7, [.int (iI th), .ref m1, .ref m2, .ref m3, .int (iI pn), .ref m5, .ref m6, .ref m7, .ref m8, .ref m9, .ref m10, .ref m11, .ref m12, .ref m13, .int (iI rw_), .ref m15, .long (lI fu), .long (lI fb)])), (m1, .inl (cs 0, 11520, .inl (ai lm2))), (m2, .inl (cs 0, 180, .inl (ai (up mn t ((na : Int)))))), (m3, .inl (cs 0, 180, .inl (ai (up sn t tt))))]) (AL L s.heap.size) s H _ := B
                  refine lv_aload_n hx hb d_Mo_add_306 rfl (lv_at hl 8 rfl) ?_
                  refine lv_iload_n hx hb d_Mo_add_307 rfl (lv_at hl 9 rfl) ?_
                  refine x_callv B hA (va_runV (As := [.int (iI ((t : Int)))]) (rest := []) ⟨hx, hb, hml, hown, hts⟩ (c_Mo_trim l D cs _ _ _ y m1 m2 m3 m5 m6 m7 m8 m9 m10 m11 m12 m13 m15 th pn rw_ fu fb lm2 (up mn t ((na : Int))) (up sn t tt) Z t na (Z x + by_ * Z w) hF (mw_get (X := [(y, .inr (7, [.int (iI th), .ref m1, .ref m2, .ref m3, .int (iI pn), .ref m5, .ref m6, .ref m7, .ref m8, .ref m9, .ref m10, .ref m11, .ref m12, .ref m13, .int (iI rw_), .ref m15, .long (lI fu), .long (lI fb)])), (m1, .inl (cs 0, 11520, .inl (ai lm2))), (m2, .inl (cs 0, 180, .inl (ai (up mn t ((na : Int)))))), (m3, .inl (cs 0, 180, .inl (ai (up sn t tt))))]) hF.1 (k := 0) rfl) (mw_get (X := [(y, .inr (7, [.int (iI th), .ref m1, .ref m2, .ref m3, .int (iI pn), .ref m5, .ref m6, .ref m7, .ref m8, .ref m9, .ref m10, .ref m11, .ref m12, .ref m13, .int (iI rw_), .ref m15, .long (lI fu), .long (lI fb)])), (m1, .inl (cs 0, 11520, .inl (ai lm2))), (m2, .inl (cs 0, 180, .inl (ai (up mn t ((na : Int)))))), (m3, .inl (cs 0, 180, .inl (ai (up sn t tt))))]) hF.1 (k := 1) rfl) (mw_get (X := [(y, .inr (7, [.int (iI th), .ref m1, .ref m2, .ref m3, .int (iI pn), .ref m5, .ref m6, .ref m7, .ref m8, .ref m9, .ref m10, .ref m11, .ref m12, .ref m13, .int (iI rw_), .ref m15, .long (lI fu), .long (lI fb)])), (m1, .inl (cs 0, 11520, .inl (ai lm2))), (m2, .inl (cs 0, 180, .inl (ai (up mn t ((na : Int)))))), (m3, .inl (cs 0, 180, .inl (ai (up sn t tt))))]) hF.1 (k := 2) rfl) (mw_get (X := [(y, .inr (7, [.int (iI th), .ref m1, .ref m2, .ref m3, .int (iI pn), .ref m5, .ref m6, .ref m7, .ref m8, .ref m9, .ref m10, .ref m11, .ref m12, .ref m13, .int (iI rw_), .ref m15, .long (lI fu), .long (lI fb)])), (m1, .inl (cs 0, 11520, .inl (ai lm2))), (m2, .inl (cs 0, 180, .inl (ai (up mn t ((na : Int)))))), (m3, .inl (cs 0, 180, .inl (ai (up sn t tt))))]) hF.1 (k := 3) rfl)  (hRS.get ((hO.many _).sign _)) ht8 (by rw [up_self]) ha64 (by
        rw [hsd2.1, ← hva, ← hvb]
        exact MAdd.diff hI9 (by omega) hnab hMa hMb (by omega)) (fun h9 => by rw [up_self]; exact hsd2.2 h9)) (cwV 1 hts (gw_V w_816 w_818 s_40 w_8 w_819) rfl rfl rfl (by decide +kernel) ⟨by rw [hRf]; exact Nat.le_of_ble_eq_true rfl, by rw [hRl]; exact Nat.le_of_ble_eq_true rfl⟩) ⟨K0.blind, B.recv (hF.2 _ (mw_key (k := 0) (X := [(y, .inr (7, [.int (iI th), .ref m1, .ref m2, .ref m3, .int (iI pn), .ref m5, .ref m6, .ref m7, .ref m8, .ref m9, .ref m10, .ref m11, .ref m12, .ref m13, .int (iI rw_), .ref m15, .long (lI fu), .long (lI fb)])), (m1, .inl (cs 0, 11520, .inl (ai lm2))), (m2, .inl (cs 0, 180, .inl (ai (up mn t ((na : Int)))))), (m3, .inl (cs 0, 180, .inl (ai (up sn t tt))))]) rfl)) (mw_get (X := [(y, .inr (7, [.int (iI th), .ref m1, .ref m2, .ref m3, .int (iI pn), .ref m5, .ref m6, .ref m7, .ref m8, .ref m9, .ref m10, .ref m11, .ref m12, .ref m13, .int (iI rw_), .ref m15, .long (lI fu), .long (lI fb)])), (m1, .inl (cs 0, 11520, .inl (ai lm2))), (m2, .inl (cs 0, 180, .inl (ai (up mn t ((na : Int)))))), (m3, .inl (cs 0, 180, .inl (ai (up sn t tt))))]) hF.1 (k := 0) rfl) rfl, B.pre _⟩ rfl rfl hl.1 rfl (lv_room (Nat.le_of_ble_eq_true rfl)) d_Mo_add_308 ⟨by rw [hRc]; omega, by rw [hRs]; omega⟩) (fun g308 H locs hw B => ?_)
                  obtain ⟨lm308, mn308, sn308, hR2, rfl⟩ := hw
                  have B := B.of_eq (mw_put3 (X := [(y, .inr (7, [.int (iI th), .ref m1, .ref m2, .ref m3, .int (iI pn), .ref m5, .ref m6, .ref m7, .ref m8, .ref m9, .ref m10, .ref m11, .ref m12, .ref m13, .int (iI rw_), .ref m15, .long (lI fu), .long (lI fb)])), (m1, .inl (cs 0, 11520, .inl (ai lm2))), (m2, .inl (cs 0, 180, .inl (ai (up mn t ((na : Int)))))), (m3, .inl (cs 0, 180, .inl (ai (up sn t tt))))]) hF.1 (k1 := 1) (k2 := 2) (k3 := 3) rfl rfl rfl)
                  have B : Wb D vwCl (TY cs) L (mw f [(y, .inr (7, [.int (iI th), .ref m1, .ref m2, .ref m3, .int (iI pn), .ref m5, .ref m6, .ref m7, .ref m8, .ref m9, .ref m10, .ref m11, .ref m12, .ref m13, .int (iI rw_), .ref m15, .long (lI fu), .long (lI fb)])), (m1, .inl (cs 0, 11520, .inl (ai lm308))), (m2, .inl (cs 0, 180, .inl (ai mn308))), (m3, .inl (cs 0, 180, .inl (ai sn308)))]) (AL L s.heap.size) s H _ := B
                  subst hQ hav
                  exact x_vret hx hb hr hlocks B d_Mo_add_311 (⟨_, _, _, hR2, mw_drop (f := f) (X := [(m1, .inl (cs 0, 11520, .inl (ai lm308))), (m2, .inl (cs 0, 180, .inl (ai mn308))), (m3, .inl (cs 0, 180, .inl (ai sn308)))]) ha (List.nodup_cons.mp hF.1).1⟩)
                · refine lv_lload hx hb d_Mo_add_240 (lv_at hl 2 rfl) ?_
                  refine lv_aload_n hx hb d_Mo_add_242 rfl (lv_at hl 8 rfl) ?_
                  refine lv_iload hx hb d_Mo_add_243 (lv_at hl 5 rfl) ?_
                  refine lv_iload hx hb d_Mo_add_245 (lv_at hl 0 rfl) ?_
                  refine x_calll B hA (va_runV (As := [.int (iI ((ag : Int))), .int (iI ((k : Int)))]) (rest := [.long (lI cy)]) ⟨hx, hb, hml, hown, hts⟩ (c_Mo_limbOf l D cs _ _ _ y m1 m2 m3 m5 m6 m7 m8 m9 m10 m11 m12 m13 m15 th pn rw_ fu fb lm2 mn sn ag k na hF (mw_get (X := [(y, .inr (7, [.int (iI th), .ref m1, .ref m2, .ref m3, .int (iI pn), .ref m5, .ref m6, .ref m7, .ref m8, .ref m9, .ref m10, .ref m11, .ref m12, .ref m13, .int (iI rw_), .ref m15, .long (lI fu), .long (lI fb)])), (m1, .inl (cs 0, 11520, .inl (ai lm2))), (m2, .inl (cs 0, 180, .inl (ai mn))), (m3, .inl (cs 0, 180, .inl (ai sn)))]) hF.1 (k := 0) rfl) (mw_get (X := [(y, .inr (7, [.int (iI th), .ref m1, .ref m2, .ref m3, .int (iI pn), .ref m5, .ref m6, .ref m7, .ref m8, .ref m9, .ref m10, .ref m11, .ref m12, .ref m13, .int (iI rw_), .ref m15, .long (lI fu), .long (lI fb)])), (m1, .inl (cs 0, 11520, .inl (ai lm2))), (m2, .inl (cs 0, 180, .inl (ai mn))), (m3, .inl (cs 0, 180, .inl (ai sn)))]) hF.1 (k := 1) rfl) (mw_get (X := [(y, .inr (7, [.int (iI th), .ref m1, .ref m2, .ref m3, .int (iI pn), .ref m5, .ref m6, .ref m7, .ref m8, .ref m9, .ref m10, .ref m11, .ref m12, .ref m13, .int (iI rw_), .ref m15, .long (lI fu), .long (lI fb)])), (m1, .inl (cs 0, 11520, .inl (ai lm2))), (m2, .inl (cs 0, 180, .inl (ai mn))), (m3, .inl (cs 0, 180, .inl (ai sn)))]) hF.1 (k := 2) rfl) (mw_get (X := [(y, .inr (7, [.int (iI th), .ref m1, .ref m2, .ref m3, .int (iI pn), .ref m5, .ref m6, .ref m7, .ref m8, .ref m9, .ref m10, .ref m11, .ref m12, .ref m13, .int (iI rw_), .ref m15, .long (lI fu), .long (lI fb)])), (m1, .inl (cs 0, 11520, .inl (ai lm2))), (m2, .inl (cs 0, 180, .inl (ai mn))), (m3, .inl (cs 0, 180, .inl (ai sn)))]) hF.1 (k := 3) rfl) (by omega) (by omega) (hna) (by omega) (fun h9 => by rw [hJa k (Nat.le_refl _) (by omega)]; exact hMa k h9)) (cwV 2 hts (gw_V w_824 w_826 s_42 w_8 w_827) rfl rfl rfl (by decide +kernel) ⟨by rw [hRf]; exact Nat.le_of_ble_eq_true rfl, by rw [hRl]; exact Nat.le_of_ble_eq_true rfl⟩) ⟨K0.blind, B.recv (hF.2 _ (mw_key (k := 0) (X := [(y, .inr (7, [.int (iI th), .ref m1, .ref m2, .ref m3, .int (iI pn), .ref m5, .ref m6, .ref m7, .ref m8, .ref m9, .ref m10, .ref m11, .ref m12, .ref m13, .int (iI rw_), .ref m15, .long (lI fu), .long (lI fb)])), (m1, .inl (cs 0, 11520, .inl (ai lm2))), (m2, .inl (cs 0, 180, .inl (ai mn))), (m3, .inl (cs 0, 180, .inl (ai sn)))]) rfl)) (mw_get (X := [(y, .inr (7, [.int (iI th), .ref m1, .ref m2, .ref m3, .int (iI pn), .ref m5, .ref m6, .ref m7, .ref m8, .ref m9, .ref m10, .ref m11, .ref m12, .ref m13, .int (iI rw_), .ref m15, .long (lI fu), .long (lI fb)])), (m1, .inl (cs 0, 11520, .inl (ai lm2))), (m2, .inl (cs 0, 180, .inl (ai mn))), (m3, .inl (cs 0, 180, .inl (ai sn)))]) hF.1 (k := 0) rfl) rfl, B.pre _⟩ rfl rfl hl.1 rfl (lv_room (Nat.le_of_ble_eq_true rfl)) d_Mo_add_247 ⟨by rw [hRc]; omega, by rw [hRs]; omega⟩) (fun r247 g247 H locs hw B => ?_)
                  obtain ⟨rfl, rfl⟩ := hw
                  rw [mAt_of (n := na) (hJa k (Nat.le_refl _) (by omega))]
                  have B : Wb D vwCl (TY cs) L (mw f [(y, .inr (7, [.int (iI th), .ref m1, .ref m2, .ref m3, .int (iI pn), .ref m5, .ref m6, .ref m7, .ref m8, .ref m9, .ref m10, .ref m11, .ref m12, .ref m13, .int (iI rw_), .ref m15, .long (lI fu), .long (lI fb)])), (m1, .inl (cs 0, 11520, .inl (ai lm2))), (m2, .inl (cs 0, 180, .inl (ai mn))), (m3, .inl (cs 0, 180, .inl (ai sn)))]) (AL L s.heap.size) s H _ := B
                  refine lv_aload_n hx hb d_Mo_add_250 rfl (lv_at hl 8 rfl) ?_
                  refine lv_iload hx hb d_Mo_add_251 (lv_at hl 4 rfl) ?_
                  refine lv_iload hx hb d_Mo_add_253 (lv_at hl 0 rfl) ?_
                  refine x_calll B hA (va_runV (As := [.int (iI ((bg : Int))), .int (iI ((k : Int)))]) (rest := [.long (lI (mAt (fl lm ag) na k)), .long (lI cy)]) ⟨hx, hb, hml, hown, hts⟩ (c_Mo_limbOf l D cs _ _ _ y m1 m2 m3 m5 m6 m7 m8 m9 m10 m11 m12 m13 m15 th pn rw_ fu fb lm2 mn sn bg k nb hF (mw_get (X := [(y, .inr (7, [.int (iI th), .ref m1, .ref m2, .ref m3, .int (iI pn), .ref m5, .ref m6, .ref m7, .ref m8, .ref m9, .ref m10, .ref m11, .ref m12, .ref m13, .int (iI rw_), .ref m15, .long (lI fu), .long (lI fb)])), (m1, .inl (cs 0, 11520, .inl (ai lm2))), (m2, .inl (cs 0, 180, .inl (ai mn))), (m3, .inl (cs 0, 180, .inl (ai sn)))]) hF.1 (k := 0) rfl) (mw_get (X := [(y, .inr (7, [.int (iI th), .ref m1, .ref m2, .ref m3, .int (iI pn), .ref m5, .ref m6, .ref m7, .ref m8, .ref m9, .ref m10, .ref m11, .ref m12, .ref m13, .int (iI rw_), .ref m15, .long (lI fu), .long (lI fb)])), (m1, .inl (cs 0, 11520, .inl (ai lm2))), (m2, .inl (cs 0, 180, .inl (ai mn))), (m3, .inl (cs 0, 180, .inl (ai sn)))]) hF.1 (k := 1) rfl) (mw_get (X := [(y, .inr (7, [.int (iI th), .ref m1, .ref m2, .ref m3, .int (iI pn), .ref m5, .ref m6, .ref m7, .ref m8, .ref m9, .ref m10, .ref m11, .ref m12, .ref m13, .int (iI rw_), .ref m15, .long (lI fu), .long (lI fb)])), (m1, .inl (cs 0, 11520, .inl (ai lm2))), (m2, .inl (cs 0, 180, .inl (ai mn))), (m3, .inl (cs 0, 180, .inl (ai sn)))]) hF.1 (k := 2) rfl) (mw_get (X := [(y, .inr (7, [.int (iI th), .ref m1, .ref m2, .ref m3, .int (iI pn), .ref m5, .ref m6, .ref m7, .ref m8, .ref m9, .ref m10, .ref m11, .ref m12, .ref m13, .int (iI rw_), .ref m15, .long (lI fu), .long (lI fb)])), (m1, .inl (cs 0, 11520, .inl (ai lm2))), (m2, .inl (cs 0, 180, .inl (ai mn))), (m3, .inl (cs 0, 180, .inl (ai sn)))]) hF.1 (k := 3) rfl) (by omega) (by omega) (hnb) (by omega) (fun h9 => by rw [hJb k (Nat.le_refl _) (by omega)]; exact hMb k h9)) (cwV 2 hts (gw_V w_824 w_826 s_42 w_8 w_827) rfl rfl rfl (by decide +kernel) ⟨by rw [hRf]; exact Nat.le_of_ble_eq_true rfl, by rw [hRl]; exact Nat.le_of_ble_eq_true rfl⟩) ⟨K0.blind, B.recv (hF.2 _ (mw_key (k := 0) (X := [(y, .inr (7, [.int (iI th), .ref m1, .ref m2, .ref m3, .int (iI pn), .ref m5, .ref m6, .ref m7, .ref m8, .ref m9, .ref m10, .ref m11, .ref m12, .ref m13, .int (iI rw_), .ref m15, .long (lI fu), .long (lI fb)])), (m1, .inl (cs 0, 11520, .inl (ai lm2))), (m2, .inl (cs 0, 180, .inl (ai mn))), (m3, .inl (cs 0, 180, .inl (ai sn)))]) rfl)) (mw_get (X := [(y, .inr (7, [.int (iI th), .ref m1, .ref m2, .ref m3, .int (iI pn), .ref m5, .ref m6, .ref m7, .ref m8, .ref m9, .ref m10, .ref m11, .ref m12, .ref m13, .int (iI rw_), .ref m15, .long (lI fu), .long (lI fb)])), (m1, .inl (cs 0, 11520, .inl (ai lm2))), (m2, .inl (cs 0, 180, .inl (ai mn))), (m3, .inl (cs 0, 180, .inl (ai sn)))]) hF.1 (k := 0) rfl) rfl, B.pre _⟩ rfl rfl hl.1 rfl (lv_room (Nat.le_of_ble_eq_true rfl)) d_Mo_add_255 ⟨by rw [hRc]; omega, by rw [hRs]; omega⟩) (fun r255 g255 H locs hw B => ?_)
                  obtain ⟨rfl, rfl⟩ := hw
                  rw [mAt_of (n := nb) (hJb k (Nat.le_refl _) (by omega))]
                  have B : Wb D vwCl (TY cs) L (mw f [(y, .inr (7, [.int (iI th), .ref m1, .ref m2, .ref m3, .int (iI pn), .ref m5, .ref m6, .ref m7, .ref m8, .ref m9, .ref m10, .ref m11, .ref m12, .ref m13, .int (iI rw_), .ref m15, .long (lI fu), .long (lI fb)])), (m1, .inl (cs 0, 11520, .inl (ai lm2))), (m2, .inl (cs 0, 180, .inl (ai mn))), (m3, .inl (cs 0, 180, .inl (ai sn)))]) (AL L s.heap.size) s H _ := B
                  refine x_lsub hx hb d_Mo_add_258 ?_
                  refine x_ladd hx hb d_Mo_add_259 ?_
                  refine lv_lstore (lv' := [(11, .long (lI (cy + ((mAt (fl lm ag) na k) - (mAt (fl lm bg) nb k))))), (14, .int (iI ((k : Int)))), (13, .int (iI ((na : Int)))), (10, .int (iI tt)), (9, .int (iI ((bg : Int)))), (8, .int (iI ((ag : Int)))), (6, .int (iI ((nm : Int)))), (5, .int (iI ((sn w) * by_))), (0, .ref y), (1, .int (iI ((t : Int)))), (2, .int (iI ((x : Int)))), (3, .int (iI ((w : Int)))), (4, .int (iI by_))]) hx hb d_Mo_add_260 hl (by decide) rfl (fun ls hl => ?_)
                  have hax := mAt_range hMa k
                  have haw := mAt_range hMb k
                  have hstep := hI.step (w := cy + (mAt (fl lm ag) na k - mAt (fl lm bg) nb k)) hax haw (Or.inr rfl) (by omega)
                  refine lv_aload_n hx hb d_Mo_add_262 rfl (lv_at hl 8 rfl) ?_
                  refine x_get (C := RX7) (T := TX7) (N := 18) hx hb hts inX7 hown B hF 0 rfl rfl 1 (by decide) (hts _ w_678) (fun _ h9 => h9) rfl d_Mo_add_263 ?_
                  refine x_bipush hx hb d_Mo_add_266 (by decide) ?_
                  refine lv_iload_n hx hb d_Mo_add_268 rfl (lv_at hl 9 rfl) ?_
                  refine x_imul hx hb d_Mo_add_269 ?_
                  refine lv_iload hx hb d_Mo_add_270 (lv_at hl 1 rfl) ?_
                  refine x_iadd hx hb d_Mo_add_272 ?_
                  refine lv_lload hx hb d_Mo_add_273 (lv_at hl 0 rfl) ?_
                  refine x_l2iw hx hb d_Mo_add_275 ?_
                  refine x_iast hx hb B hF 1 0 rfl rfl (64 * t + k) (by omega) (by omega) (by decide) d_Mo_add_276 (fun H locs B => ?_)
                  have B : Wb D vwCl (TY cs) L (mw f [(y, .inr (7, [.int (iI th), .ref m1, .ref m2, .ref m3, .int (iI pn), .ref m5, .ref m6, .ref m7, .ref m8, .ref m9, .ref m10, .ref m11, .ref m12, .ref m13, .int (iI rw_), .ref m15, .long (lI fu), .long (lI fb)])), (m1, .inl (cs 0, 11520, .inl (ai (up lm2 (64 * t + k) ((cy + ((mAt (fl lm ag) na k) - (mAt (fl lm bg) nb k))) % 4294967296))))), (m2, .inl (cs 0, 180, .inl (ai mn))), (m3, .inl (cs 0, 180, .inl (ai sn)))]) (AL L s.heap.size) s H _ := B
                  refine lv_lload hx hb d_Mo_add_277 (lv_at hl 0 rfl) ?_
                  refine x_bipush hx hb d_Mo_add_279 (by decide) ?_
                  refine x_lshr32 hx hb d_Mo_add_281 (by omega) ?_
                  refine lv_lstore (lv' := [(11, .long (lI ((cy + ((mAt (fl lm ag) na k) - (mAt (fl lm bg) nb k))) / 4294967296))), (14, .int (iI ((k : Int)))), (13, .int (iI ((na : Int)))), (10, .int (iI tt)), (9, .int (iI ((bg : Int)))), (8, .int (iI ((ag : Int)))), (6, .int (iI ((nm : Int)))), (5, .int (iI ((sn w) * by_))), (0, .ref y), (1, .int (iI ((t : Int)))), (2, .int (iI ((x : Int)))), (3, .int (iI ((w : Int)))), (4, .int (iI by_))]) hx hb d_Mo_add_282 hl (by decide) rfl (fun ls hl => ?_)
                  refine x_iinc (lv' := [(14, .int (iI (((k : Int)) + 1))), (11, .long (lI ((cy + ((mAt (fl lm ag) na k) - (mAt (fl lm bg) nb k))) / 4294967296))), (13, .int (iI ((na : Int)))), (10, .int (iI tt)), (9, .int (iI ((bg : Int)))), (8, .int (iI ((ag : Int)))), (6, .int (iI ((nm : Int)))), (5, .int (iI ((sn w) * by_))), (0, .ref y), (1, .int (iI ((t : Int)))), (2, .int (iI ((x : Int)))), (3, .int (iI ((w : Int)))), (4, .int (iI by_))]) hx hb d_Mo_add_284 hl (q := 1) rfl rfl (by decide) rfl (fun ls hl => ?_)
                  refine lv_goto (tgt := 233) hx hb d_Mo_add_287 (by decide) ?_
                  exact ih_L2 (k + 1) ((cy + ((mAt (fl lm ag) na k) - (mAt (fl lm bg) nb k))) / 4294967296) (up lm2 (64 * t + k) ((cy + ((mAt (fl lm ag) na k) - (mAt (fl lm bg) nb k))) % 4294967296)) (by omega) (by omega) (by rw [fl_up]; exact hstep.1) (hO.limb (by omega) _) (fun j h1 h2 => by
          by_cases htx : t = ag
          · rw [htx, fl_up, up_ne _ _ (by omega)]; exact hJa j (by omega) h2
          · rw [fl_out _ _ (by omega) h2 htx]; exact hJa j (by omega) h2) (fun j h1 h2 => by
          by_cases htx : t = bg
          · rw [htx, fl_up, up_ne _ _ (by omega)]; exact hJb j (by omega) h2
          · rw [fl_out _ _ (by omega) h2 htx]; exact hJb j (by omega) h2) _ _ _ B (lv_sub hl [0, 2, 1, 3, 4, 5, 6, 7, 8, 9, 10, 11, 12] rfl)
            rw [hna] at hl
            exact L2 _ 0 0 lm (Nat.lt_succ_self _) (by omega) MAdd.first (Off.refl t lm mn sn) (fun j _ _ => rfl) (fun j _ _ => rfl) _ _ _ B (lv_sub hl [0, 1, 2, 3, 4, 5, 6, 7, 8, 9, 10, 11, 12] rfl)
          refine lv_aload_n hx hb d_Mo_add_160 rfl (lv_at hl 2 rfl) ?_
          refine lv_iload_n hx hb d_Mo_add_161 rfl (lv_at hl 4 rfl) ?_
          refine lv_iload_n hx hb d_Mo_add_162 rfl (lv_at hl 5 rfl) ?_
          refine x_calli B hA (va_runV (As := [.int (iI ((x : Int))), .int (iI ((w : Int)))]) (rest := []) ⟨hx, hb, hml, hown, hts⟩ (c_Mo_sizes l D cs _ _ _ y m1 m2 m3 m5 m6 m7 m8 m9 m10 m11 m12 m13 m15 th pn rw_ fu fb lm mn sn Z x w hF (mw_get (X := [(y, .inr (7, [.int (iI th), .ref m1, .ref m2, .ref m3, .int (iI pn), .ref m5, .ref m6, .ref m7, .ref m8, .ref m9, .ref m10, .ref m11, .ref m12, .ref m13, .int (iI rw_), .ref m15, .long (lI fu), .long (lI fb)])), (m1, .inl (cs 0, 11520, .inl (ai lm))), (m2, .inl (cs 0, 180, .inl (ai mn))), (m3, .inl (cs 0, 180, .inl (ai sn)))]) hF.1 (k := 0) rfl) (mw_get (X := [(y, .inr (7, [.int (iI th), .ref m1, .ref m2, .ref m3, .int (iI pn), .ref m5, .ref m6, .ref m7, .ref m8, .ref m9, .ref m10, .ref m11, .ref m12, .ref m13, .int (iI rw_), .ref m15, .long (lI fu), .long (lI fb)])), (m1, .inl (cs 0, 11520, .inl (ai lm))), (m2, .inl (cs 0, 180, .inl (ai mn))), (m3, .inl (cs 0, 180, .inl (ai sn)))]) hF.1 (k := 1) rfl) (mw_get (X := [(y, .inr (7, [.int (iI th), .ref m1, .ref m2, .ref m3, .int (iI pn), .ref m5, .ref m6, .ref m7, .ref m8, .ref m9, .ref m10, .ref m11, .ref m12, .ref m13, .int (iI rw_), .ref m15, .long (lI fu), .long (lI fb)])), (m1, .inl (cs 0, 11520, .inl (ai lm))), (m2, .inl (cs 0, 180, .inl (ai mn))), (m3, .inl (cs 0, 180, .inl (ai sn)))]) hF.1 (k := 2) rfl) (mw_get (X := [(y, .inr (7, [.int (iI th), .ref m1, .ref m2, .ref m3, .int (iI pn), .ref m5, .ref m6, .ref m7, .ref m8, .ref m9, .ref m10, .ref m11, .ref m12, .ref m13, .int (iI rw_), .ref m15, .long (lI fu), .long (lI fb)])), (m1, .inl (cs 0, 11520, .inl (ai lm))), (m2, .inl (cs 0, 180, .inl (ai mn))), (m3, .inl (cs 0, 180, .inl (ai sn)))]) hF.1 (k := 3) rfl) hRS hx8 hw8) (cwV 2 hts (gw_V w_828 w_830 s_43 w_8 w_831) rfl rfl rfl (by decide +kernel) ⟨by rw [hRf]; exact Nat.le_of_ble_eq_true rfl, by rw [hRl]; exact Nat.le_of_ble_eq_true rfl⟩) ⟨K0.blind, B.recv (hF.2 _ (mw_key (k := 0) (X := [(y, .inr (7, [.int (iI th), .ref m1, .ref m2, .ref m3, .int (iI pn), .ref m5, .ref m6, .ref m7, .ref m8, .ref m9, .ref m10, .ref m11, .ref m12, .ref m13, .int (iI rw_), .ref m15, .long (lI fu), .long (lI fb)])), (m1, .inl (cs 0, 11520, .inl (ai lm))), (m2, .inl (cs 0, 180, .inl (ai mn))), (m3, .inl (cs 0, 180, .inl (ai sn)))]) rfl)) (mw_get (X := [(y, .inr (7, [.int (iI th), .ref m1, .ref m2, .ref m3, .int (iI pn), .ref m5, .ref m6, .ref m7, .ref m8, .ref m9, .ref m10, .ref m11, .ref m12, .ref m13, .int (iI rw_), .ref m15, .long (lI fu), .long (lI fb)])), (m1, .inl (cs 0, 11520, .inl (ai lm))), (m2, .inl (cs 0, 180, .inl (ai mn))), (m3, .inl (cs 0, 180, .inl (ai sn)))]) hF.1 (k := 0) rfl) rfl, B.pre _⟩ rfl rfl hl.1 rfl (lv_room (Nat.le_of_ble_eq_true rfl)) d_Mo_add_163 ⟨by rw [hRc]; omega, by rw [hRs]; omega⟩) (fun r163 g163 H locs hw B => ?_)
          obtain ⟨rfl, rfl⟩ := hw
          have B : Wb D vwCl (TY cs) L (mw f [(y, .inr (7, [.int (iI th), .ref m1, .ref m2, .ref m3, .int (iI pn), .ref m5, .ref m6, .ref m7, .ref m8, .ref m9, .ref m10, .ref m11, .ref m12, .ref m13, .int (iI rw_), .ref m15, .long (lI fu), .long (lI fb)])), (m1, .inl (cs 0, 11520, .inl (ai lm))), (m2, .inl (cs 0, 180, .inl (ai mn))), (m3, .inl (cs 0, 180, .inl (ai sn)))]) (AL L s.heap.size) s H _ := B
          generalize hcm : cmq ((Z x).natAbs : Int) ((Z w).natAbs : Int) = cc9
          have hcr : -1 ≤ cc9 ∧ cc9 ≤ 1 := by rw [← hcm]; unfold cmq; split; omega; split <;> omega
          have hge : 0 ≤ cc9 → ((Z w).natAbs : Int) ≤ ((Z x).natAbs : Int) := fun h => by rw [← hcm] at h; revert h; unfold cmq; split; omega; split <;> omega
          have hlt9 : cc9 < 0 → ((Z x).natAbs : Int) ≤ ((Z w).natAbs : Int) := fun h => by rw [← hcm] at h; revert h; unfold cmq; split; omega; split <;> omega
          refine x_if_lt (tgt := 173) hx hb d_Mo_add_166 (by decide) (by omega) (fun h166 => ?_) (fun h166 => ?_)
          · refine x_iconst hx hb d_Mo_add_173 ?_
            refine lv_istore (lv' := [(7, .int (iI 0)), (6, .int (iI ((nm : Int)))), (5, .int (iI ((sn w) * by_))), (0, .ref y), (1, .int (iI ((t : Int)))), (2, .int (iI ((x : Int)))), (3, .int (iI ((w : Int)))), (4, .int (iI by_))]) hx hb d_Mo_add_174 hl (by decide) rfl (fun ls hl => ?_)
            refine lv_iload hx hb d_Mo_add_176 (lv_at hl 0 rfl) ?_
            refine x_if_eq (tgt := 185) hx hb d_Mo_add_178 (by decide) (by omega) (fun h178 => ?_) (fun h178 => ?_)
            · refine lv_iload_n hx hb d_Mo_add_185 rfl (lv_at hl 6 rfl) ?_
              refine lv_istore (lv' := [(8, .int (iI ((w : Int)))), (7, .int (iI 0)), (6, .int (iI ((nm : Int)))), (5, .int (iI ((sn w) * by_))), (0, .ref y), (1, .int (iI ((t : Int)))), (2, .int (iI ((x : Int)))), (3, .int (iI ((w : Int)))), (4, .int (iI by_))]) hx hb d_Mo_add_186 hl (by decide) rfl (fun ls hl => ?_)
              refine lv_iload hx hb d_Mo_add_188 (lv_at hl 1 rfl) ?_
              refine x_if_eq (tgt := 197) hx hb d_Mo_add_190 (by decide) (by omega) (fun h190 => ?_) (fun h190 => ?_)
              · refine lv_iload_n hx hb d_Mo_add_197 rfl (lv_at hl 6 rfl) ?_
                refine lv_istore (lv' := [(9, .int (iI ((x : Int)))), (8, .int (iI ((w : Int)))), (7, .int (iI 0)), (6, .int (iI ((nm : Int)))), (5, .int (iI ((sn w) * by_))), (0, .ref y), (1, .int (iI ((t : Int)))), (2, .int (iI ((x : Int)))), (3, .int (iI ((w : Int)))), (4, .int (iI by_))]) hx hb d_Mo_add_198 hl (by decide) rfl (fun ls hl => ?_)
                refine lv_iload hx hb d_Mo_add_200 (lv_at hl 2 rfl) ?_
                refine x_if_eq (tgt := 214) hx hb d_Mo_add_202 (by decide) (by omega) (fun h202 => ?_) (fun h202 => ?_)
                · refine lv_iload hx hb d_Mo_add_214 (lv_at hl 4 rfl) ?_
                  refine lv_istore (lv' := [(10, .int (iI ((sn w) * by_))), (9, .int (iI ((x : Int)))), (8, .int (iI ((w : Int)))), (7, .int (iI 0)), (6, .int (iI ((nm : Int)))), (5, .int (iI ((sn w) * by_))), (0, .ref y), (1, .int (iI ((t : Int)))), (2, .int (iI ((x : Int)))), (3, .int (iI ((w : Int)))), (4, .int (iI by_))]) hx hb d_Mo_add_216 hl (by decide) rfl (fun ls hl => ?_)
                  exact J218 w x (sn w * by_) (Or.inr ⟨rfl, rfl, by have := hlt9 (by omega); omega, rfl⟩) _ _ _ B (lv_sub hl [0, 1, 2, 4, 5, 6, 7, 8, 9, 10] rfl)
                · exfalso; omega
              · exfalso; omega
            · exfalso; omega
          · refine x_iconst hx hb d_Mo_add_169 ?_
            refine lv_goto (tgt := 174) hx hb d_Mo_add_170 (by decide) ?_
            refine lv_istore (lv' := [(7, .int (iI 1)), (6, .int (iI ((nm : Int)))), (5, .int (iI ((sn w) * by_))), (0, .ref y), (1, .int (iI ((t : Int)))), (2, .int (iI ((x : Int)))), (3, .int (iI ((w : Int)))), (4, .int (iI by_))]) hx hb d_Mo_add_174 hl (by decide) rfl (fun ls hl => ?_)
            refine lv_iload hx hb d_Mo_add_176 (lv_at hl 0 rfl) ?_
            refine x_if_eq (tgt := 185) hx hb d_Mo_add_178 (by decide) (by omega) (fun h178 => ?_) (fun h178 => ?_)
            · exfalso; omega
            · refine lv_iload_n hx hb d_Mo_add_181 rfl (lv_at hl 5 rfl) ?_
              refine lv_goto (tgt := 186) hx hb d_Mo_add_182 (by decide) ?_
              refine lv_istore (lv' := [(8, .int (iI ((x : Int)))), (7, .int (iI 1)), (6, .int (iI ((nm : Int)))), (5, .int (iI ((sn w) * by_))), (0, .ref y), (1, .int (iI ((t : Int)))), (2, .int (iI ((x : Int)))), (3, .int (iI ((w : Int)))), (4, .int (iI by_))]) hx hb d_Mo_add_186 hl (by decide) rfl (fun ls hl => ?_)
              refine lv_iload hx hb d_Mo_add_188 (lv_at hl 1 rfl) ?_
              refine x_if_eq (tgt := 197) hx hb d_Mo_add_190 (by decide) (by omega) (fun h190 => ?_) (fun h190 => ?_)
              · exfalso; omega
              · refine lv_iload_n hx hb d_Mo_add_193 rfl (lv_at hl 7 rfl) ?_
                refine lv_goto (tgt := 198) hx hb d_Mo_add_194 (by decide) ?_
                refine lv_istore (lv' := [(9, .int (iI ((w : Int)))), (8, .int (iI ((x : Int)))), (7, .int (iI 1)), (6, .int (iI ((nm : Int)))), (5, .int (iI ((sn w) * by_))), (0, .ref y), (1, .int (iI ((t : Int)))), (2, .int (iI ((x : Int)))), (3, .int (iI ((w : Int)))), (4, .int (iI by_))]) hx hb d_Mo_add_198 hl (by decide) rfl (fun ls hl => ?_)
                refine lv_iload hx hb d_Mo_add_200 (lv_at hl 2 rfl) ?_
                refine x_if_eq (tgt := 214) hx hb d_Mo_add_202 (by decide) (by omega) (fun h202 => ?_) (fun h202 => ?_)
                · exfalso; omega
                · refine lv_aload_n hx hb d_Mo_add_205 rfl (lv_at hl 5 rfl) ?_
                  refine x_get (C := RX7) (T := TX7) (N := 18) hx hb hts inX7 hown B hF 0 rfl rfl 3 (by decide) (hts _ w_680) (fun _ h9 => h9) rfl d_Mo_add_206 ?_
                  refine lv_iload_n hx hb d_Mo_add_209 rfl (lv_at hl 7 rfl) ?_
                  refine x_iald hx hb B hF 3 0 rfl rfl x (by omega) (by omega) (by decide) d_Mo_add_210 ?_
                  refine lv_goto (tgt := 216) hx hb d_Mo_add_211 (by decide) ?_
                  refine lv_istore (lv' := [(10, .int (iI (sn x))), (9, .int (iI ((w : Int)))), (8, .int (iI ((x : Int)))), (7, .int (iI 1)), (6, .int (iI ((nm : Int)))), (5, .int (iI ((sn w) * by_))), (0, .ref y), (1, .int (iI ((t : Int)))), (2, .int (iI ((x : Int)))), (3, .int (iI ((w : Int)))), (4, .int (iI by_))]) hx hb d_Mo_add_216 hl (by decide) rfl (fun ls hl => ?_)
                  exact J218 x w (sn x) (Or.inl ⟨rfl, rfl, by have := hge (by omega); omega, rfl⟩) _ _ _ B (lv_sub hl [0, 1, 2, 4, 5, 6, 7, 8, 9, 10] rfl)
        · exact J75 (()) (by omega) (by omega) _ _ _ B (lv_sub hl [0, 1, 2, 3, 4, 5, 6] rfl)
    · refine lv_aload_n hx hb d_Mo_add_48 rfl (lv_at hl 2 rfl) ?_
      refine lv_iload_n hx hb d_Mo_add_49 rfl (lv_at hl 3 rfl) ?_
      refine lv_iload_n hx hb d_Mo_add_50 rfl (lv_at hl 4 rfl) ?_
      refine x_callv B hA (va_runV (As := [.int (iI ((t : Int))), .int (iI ((x : Int)))]) (rest := []) ⟨hx, hb, hml, hown, hts⟩ (c_Mo_copy l D cs _ _ _ y m1 m2 m3 m5 m6 m7 m8 m9 m10 m11 m12 m13 m15 th pn rw_ fu fb lm mn sn Z t x hF (mw_get (X := [(y, .inr (7, [.int (iI th), .ref m1, .ref m2, .ref m3, .int (iI pn), .ref m5, .ref m6, .ref m7, .ref m8, .ref m9, .ref m10, .ref m11, .ref m12, .ref m13, .int (iI rw_), .ref m15, .long (lI fu), .long (lI fb)])), (m1, .inl (cs 0, 11520, .inl (ai lm))), (m2, .inl (cs 0, 180, .inl (ai mn))), (m3, .inl (cs 0, 180, .inl (ai sn)))]) hF.1 (k := 0) rfl) (mw_get (X := [(y, .inr (7, [.int (iI th), .ref m1, .ref m2, .ref m3, .int (iI pn), .ref m5, .ref m6, .ref m7, .ref m8, .ref m9, .ref m10, .ref m11, .ref m12, .ref m13, .int (iI rw_), .ref m15, .long (lI fu), .long (lI fb)])), (m1, .inl (cs 0, 11520, .inl (ai lm))), (m2, .inl (cs 0, 180, .inl (ai mn))), (m3, .inl (cs 0, 180, .inl (ai sn)))]) hF.1 (k := 1) rfl) (mw_get (X := [(y, .inr (7, [.int (iI th), .ref m1, .ref m2, .ref m3, .int (iI pn), .ref m5, .ref m6, .ref m7, .ref m8, .ref m9, .ref m10, .ref m11, .ref m12, .ref m13, .int (iI rw_), .ref m15, .long (lI fu), .long (lI fb)])), (m1, .inl (cs 0, 11520, .inl (ai lm))), (m2, .inl (cs 0, 180, .inl (ai mn))), (m3, .inl (cs 0, 180, .inl (ai sn)))]) hF.1 (k := 2) rfl) (mw_get (X := [(y, .inr (7, [.int (iI th), .ref m1, .ref m2, .ref m3, .int (iI pn), .ref m5, .ref m6, .ref m7, .ref m8, .ref m9, .ref m10, .ref m11, .ref m12, .ref m13, .int (iI rw_), .ref m15, .long (lI fu), .long (lI fb)])), (m1, .inl (cs 0, 11520, .inl (ai lm))), (m2, .inl (cs 0, 180, .inl (ai mn))), (m3, .inl (cs 0, 180, .inl (ai sn)))]) hF.1 (k := 3) rfl) hRS ht8 hx8) (cwV 2 hts (gw_V w_804 w_806 s_38 w_8 w_807) rfl rfl rfl (by decide +kernel) ⟨by rw [hRf]; exact Nat.le_of_ble_eq_true rfl, by rw [hRl]; exact Nat.le_of_ble_eq_true rfl⟩) ⟨K0.blind, B.recv (hF.2 _ (mw_key (k := 0) (X := [(y, .inr (7, [.int (iI th), .ref m1, .ref m2, .ref m3, .int (iI pn), .ref m5, .ref m6, .ref m7, .ref m8, .ref m9, .ref m10, .ref m11, .ref m12, .ref m13, .int (iI rw_), .ref m15, .long (lI fu), .long (lI fb)])), (m1, .inl (cs 0, 11520, .inl (ai lm))), (m2, .inl (cs 0, 180, .inl (ai mn))), (m3, .inl (cs 0, 180, .inl (ai sn)))]) rfl)) (mw_get (X := [(y, .inr (7, [.int (iI th), .ref m1, .ref m2, .ref m3, .int (iI pn), .ref m5, .ref m6, .ref m7, .ref m8, .ref m9, .ref m10, .ref m11, .ref m12, .ref m13, .int (iI rw_), .ref m15, .long (lI fu), .long (lI fb)])), (m1, .inl (cs 0, 11520, .inl (ai lm))), (m2, .inl (cs 0, 180, .inl (ai mn))), (m3, .inl (cs 0, 180, .inl (ai sn)))]) hF.1 (k := 0) rfl) rfl, B.pre _⟩ rfl rfl hl.1 rfl (lv_room (Nat.le_of_ble_eq_true rfl)) d_Mo_add_51 ⟨by rw [hRc]; omega, by rw [hRs]; omega⟩) (fun g51 H locs hw B => ?_)
      obtain ⟨lm51, mn51, sn51, hR2, rfl⟩ := hw
      have B := B.of_eq (mw_put3 (X := [(y, .inr (7, [.int (iI th), .ref m1, .ref m2, .ref m3, .int (iI pn), .ref m5, .ref m6, .ref m7, .ref m8, .ref m9, .ref m10, .ref m11, .ref m12, .ref m13, .int (iI rw_), .ref m15, .long (lI fu), .long (lI fb)])), (m1, .inl (cs 0, 11520, .inl (ai lm))), (m2, .inl (cs 0, 180, .inl (ai mn))), (m3, .inl (cs 0, 180, .inl (ai sn)))]) hF.1 (k1 := 1) (k2 := 2) (k3 := 3) rfl rfl rfl)
      have B : Wb D vwCl (TY cs) L (mw f [(y, .inr (7, [.int (iI th), .ref m1, .ref m2, .ref m3, .int (iI pn), .ref m5, .ref m6, .ref m7, .ref m8, .ref m9, .ref m10, .ref m11, .ref m12, .ref m13, .int (iI rw_), .ref m15, .long (lI fu), .long (lI fb)])), (m1, .inl (cs 0, 11520, .inl (ai lm51))), (m2, .inl (cs 0, 180, .inl (ai mn51))), (m3, .inl (cs 0, 180, .inl (ai sn51)))]) (AL L s.heap.size) s H _ := B
      have hz0 : Z w = 0 := by rcases hsw with h | h | h; exfalso; rcases hby with h1 | h1 <;> rw [h1, h.1] at h45 <;> omega; exact h.2; exfalso; rcases hby with h1 | h1 <;> rw [h1, h.1] at h45 <;> omega
      subst hQ hav
      exact x_vret hx hb hr hlocks B d_Mo_add_54 (⟨_, _, _, by rw [hz0, Int.mul_zero, Int.add_zero]; exact hR2, mw_drop (f := f) (X := [(m1, .inl (cs 0, 11520, .inl (ai lm51))), (m2, .inl (cs 0, 180, .inl (ai mn51))), (m3, .inl (cs 0, 180, .inl (ai sn51)))]) ha (List.nodup_cons.mp hF.1).1⟩)
  refine lv_aload_n hx hb d_Mo_add_11 rfl (lv_at hl 1 rfl) ?_
  refine x_get (C := RX7) (T := TX7) (N := 18) hx hb hts inX7 hown B hF 0 rfl rfl 2 (by decide) (hts _ w_679) (fun _ h9 => h9) rfl d_Mo_add_12 ?_
  refine lv_iload_n hx hb d_Mo_add_15 rfl (lv_at hl 3 rfl) ?_
  refine x_iald hx hb B hF 2 0 rfl rfl x (by omega) (by omega) (by decide) d_Mo_add_16 ?_
  refine lv_aload_n hx hb d_Mo_add_17 rfl (lv_at hl 1 rfl) ?_
  refine x_get (C := RX7) (T := TX7) (N := 18) hx hb hts inX7 hown B hF 0 rfl rfl 2 (by decide) (hts _ w_679) (fun _ h9 => h9) rfl d_Mo_add_18 ?_
  refine lv_iload_n hx hb d_Mo_add_21 rfl (lv_at hl 4 rfl) ?_
  refine x_iald hx hb B hF 2 0 rfl rfl w (by omega) (by omega) (by decide) d_Mo_add_22 ?_
  refine x_icmp_le (tgt := 35) hx hb d_Mo_add_23 (by decide) (by omega) (by omega) (fun h23 => ?_) (fun h23 => ?_)
  · refine lv_aload_n hx hb d_Mo_add_35 rfl (lv_at hl 1 rfl) ?_
    refine x_get (C := RX7) (T := TX7) (N := 18) hx hb hts inX7 hown B hF 0 rfl rfl 2 (by decide) (hts _ w_679) (fun _ h9 => h9) rfl d_Mo_add_36 ?_
    refine lv_iload_n hx hb d_Mo_add_39 rfl (lv_at hl 4 rfl) ?_
    refine x_iald hx hb B hF 2 0 rfl rfl w (by omega) (by omega) (by decide) d_Mo_add_40 ?_
    rw [hnw]
    exact J1 nw (by omega) _ _ _ B (lv_sub hl [0, 1, 2, 3, 4, 5] rfl)
  · refine lv_aload_n hx hb d_Mo_add_26 rfl (lv_at hl 1 rfl) ?_
    refine x_get (C := RX7) (T := TX7) (N := 18) hx hb hts inX7 hown B hF 0 rfl rfl 2 (by decide) (hts _ w_679) (fun _ h9 => h9) rfl d_Mo_add_27 ?_
    refine lv_iload_n hx hb d_Mo_add_30 rfl (lv_at hl 3 rfl) ?_
    refine x_iald hx hb B hF 2 0 rfl rfl x (by omega) (by omega) (by decide) d_Mo_add_31 ?_
    refine lv_goto (tgt := 41) hx hb d_Mo_add_32 (by decide) ?_
    rw [hnx]
    exact J1 nx (by omega) _ _ _ B (lv_sub hl [0, 1, 2, 3, 4, 5] rfl)
