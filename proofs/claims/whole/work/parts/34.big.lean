theorem d_Big_add_0 : decode prog_2_method_7_code 0 = .ok (.aload_n 0, 1) := by decide +kernel
theorem d_Big_add_1 : decode prog_2_method_7_code 1 = .ok (.aload_n 0, 1) := by decide +kernel
theorem d_Big_add_2 : decode prog_2_method_7_code 2 = .ok (.getfield 9, 3) := by decide +kernel
theorem d_Big_add_5 : decode prog_2_method_7_code 5 = .ok (.ifCond .ne 12, 3) := by decide +kernel
theorem d_Big_add_8 : decode prog_2_method_7_code 8 = .ok (.aload_n 1, 1) := by decide +kernel
theorem d_Big_add_9 : decode prog_2_method_7_code 9 = .ok (.getfield 9, 3) := by decide +kernel
theorem d_Big_add_12 : decode prog_2_method_7_code 12 = .ok (.iload_n 2, 1) := by decide +kernel
theorem d_Big_add_13 : decode prog_2_method_7_code 13 = .ok (.imul, 1) := by decide +kernel
theorem d_Big_add_14 : decode prog_2_method_7_code 14 = .ok (.goto 7, 3) := by decide +kernel
theorem d_Big_add_17 : decode prog_2_method_7_code 17 = .ok (.aload_n 0, 1) := by decide +kernel
theorem d_Big_add_18 : decode prog_2_method_7_code 18 = .ok (.getfield 9, 3) := by decide +kernel
theorem d_Big_add_21 : decode prog_2_method_7_code 21 = .ok (.putfield 9, 3) := by decide +kernel
theorem d_Big_add_24 : decode prog_2_method_7_code 24 = .ok (.aload_n 1, 1) := by decide +kernel
theorem d_Big_add_25 : decode prog_2_method_7_code 25 = .ok (.getfield 9, 3) := by decide +kernel
theorem d_Big_add_28 : decode prog_2_method_7_code 28 = .ok (.iload_n 2, 1) := by decide +kernel
theorem d_Big_add_29 : decode prog_2_method_7_code 29 = .ok (.imul, 1) := by decide +kernel
theorem d_Big_add_30 : decode prog_2_method_7_code 30 = .ok (.aload_n 0, 1) := by decide +kernel
theorem d_Big_add_31 : decode prog_2_method_7_code 31 = .ok (.getfield 9, 3) := by decide +kernel
theorem d_Big_add_34 : decode prog_2_method_7_code 34 = .ok (.imul, 1) := by decide +kernel
theorem d_Big_add_35 : decode prog_2_method_7_code 35 = .ok (.istore_n 3, 1) := by decide +kernel
theorem d_Big_add_36 : decode prog_2_method_7_code 36 = .ok (.aload_n 0, 1) := by decide +kernel
theorem d_Big_add_37 : decode prog_2_method_7_code 37 = .ok (.getfield 13, 3) := by decide +kernel
theorem d_Big_add_40 : decode prog_2_method_7_code 40 = .ok (.aload_n 1, 1) := by decide +kernel
theorem d_Big_add_41 : decode prog_2_method_7_code 41 = .ok (.getfield 13, 3) := by decide +kernel
theorem d_Big_add_44 : decode prog_2_method_7_code 44 = .ok (.if_icmp .le 10, 3) := by decide +kernel
theorem d_Big_add_47 : decode prog_2_method_7_code 47 = .ok (.aload_n 0, 1) := by decide +kernel
theorem d_Big_add_48 : decode prog_2_method_7_code 48 = .ok (.getfield 13, 3) := by decide +kernel
theorem d_Big_add_51 : decode prog_2_method_7_code 51 = .ok (.goto 7, 3) := by decide +kernel
theorem d_Big_add_54 : decode prog_2_method_7_code 54 = .ok (.aload_n 1, 1) := by decide +kernel
theorem d_Big_add_55 : decode prog_2_method_7_code 55 = .ok (.getfield 13, 3) := by decide +kernel
theorem d_Big_add_58 : decode prog_2_method_7_code 58 = .ok (.istore 4, 2) := by decide +kernel
theorem d_Big_add_60 : decode prog_2_method_7_code 60 = .ok (.lconst 0, 1) := by decide +kernel
theorem d_Big_add_61 : decode prog_2_method_7_code 61 = .ok (.lstore 5, 2) := by decide +kernel
theorem d_Big_add_63 : decode prog_2_method_7_code 63 = .ok (.iconst 0, 1) := by decide +kernel
theorem d_Big_add_64 : decode prog_2_method_7_code 64 = .ok (.istore 7, 2) := by decide +kernel
theorem d_Big_add_66 : decode prog_2_method_7_code 66 = .ok (.iload 7, 2) := by decide +kernel
theorem d_Big_add_68 : decode prog_2_method_7_code 68 = .ok (.iload 4, 2) := by decide +kernel
theorem d_Big_add_70 : decode prog_2_method_7_code 70 = .ok (.if_icmp .ge 89, 3) := by decide +kernel
theorem d_Big_add_73 : decode prog_2_method_7_code 73 = .ok (.iload 7, 2) := by decide +kernel
theorem d_Big_add_75 : decode prog_2_method_7_code 75 = .ok (.aload_n 0, 1) := by decide +kernel
theorem d_Big_add_76 : decode prog_2_method_7_code 76 = .ok (.getfield 13, 3) := by decide +kernel
theorem d_Big_add_79 : decode prog_2_method_7_code 79 = .ok (.if_icmp .ge 14, 3) := by decide +kernel
theorem d_Big_add_82 : decode prog_2_method_7_code 82 = .ok (.aload_n 0, 1) := by decide +kernel
theorem d_Big_add_83 : decode prog_2_method_7_code 83 = .ok (.getfield 16, 3) := by decide +kernel
theorem d_Big_add_86 : decode prog_2_method_7_code 86 = .ok (.iload 7, 2) := by decide +kernel
theorem d_Big_add_88 : decode prog_2_method_7_code 88 = .ok (.iaload, 1) := by decide +kernel
theorem d_Big_add_89 : decode prog_2_method_7_code 89 = .ok (.i2l, 1) := by decide +kernel
theorem d_Big_add_90 : decode prog_2_method_7_code 90 = .ok (.goto 4, 3) := by decide +kernel
theorem d_Big_add_93 : decode prog_2_method_7_code 93 = .ok (.lconst 0, 1) := by decide +kernel
theorem d_Big_add_94 : decode prog_2_method_7_code 94 = .ok (.lstore 8, 2) := by decide +kernel
theorem d_Big_add_96 : decode prog_2_method_7_code 96 = .ok (.iload 7, 2) := by decide +kernel
theorem d_Big_add_98 : decode prog_2_method_7_code 98 = .ok (.aload_n 1, 1) := by decide +kernel
theorem d_Big_add_99 : decode prog_2_method_7_code 99 = .ok (.getfield 13, 3) := by decide +kernel
theorem d_Big_add_102 : decode prog_2_method_7_code 102 = .ok (.if_icmp .ge 14, 3) := by decide +kernel
theorem d_Big_add_105 : decode prog_2_method_7_code 105 = .ok (.aload_n 1, 1) := by decide +kernel
theorem d_Big_add_106 : decode prog_2_method_7_code 106 = .ok (.getfield 16, 3) := by decide +kernel
theorem d_Big_add_109 : decode prog_2_method_7_code 109 = .ok (.iload 7, 2) := by decide +kernel
theorem d_Big_add_111 : decode prog_2_method_7_code 111 = .ok (.iaload, 1) := by decide +kernel
theorem d_Big_add_112 : decode prog_2_method_7_code 112 = .ok (.i2l, 1) := by decide +kernel
theorem d_Big_add_113 : decode prog_2_method_7_code 113 = .ok (.goto 4, 3) := by decide +kernel
theorem d_Big_add_116 : decode prog_2_method_7_code 116 = .ok (.lconst 0, 1) := by decide +kernel
theorem d_Big_add_117 : decode prog_2_method_7_code 117 = .ok (.lstore 10, 2) := by decide +kernel
theorem d_Big_add_119 : decode prog_2_method_7_code 119 = .ok (.lload 5, 2) := by decide +kernel
theorem d_Big_add_121 : decode prog_2_method_7_code 121 = .ok (.lload 8, 2) := by decide +kernel
theorem d_Big_add_123 : decode prog_2_method_7_code 123 = .ok (.iload_n 3, 1) := by decide +kernel
theorem d_Big_add_124 : decode prog_2_method_7_code 124 = .ok (.i2l, 1) := by decide +kernel
theorem d_Big_add_125 : decode prog_2_method_7_code 125 = .ok (.lload 10, 2) := by decide +kernel
theorem d_Big_add_127 : decode prog_2_method_7_code 127 = .ok (.lmul, 1) := by decide +kernel
theorem d_Big_add_128 : decode prog_2_method_7_code 128 = .ok (.ladd, 1) := by decide +kernel
theorem d_Big_add_129 : decode prog_2_method_7_code 129 = .ok (.ladd, 1) := by decide +kernel
theorem d_Big_add_130 : decode prog_2_method_7_code 130 = .ok (.lstore 5, 2) := by decide +kernel
theorem d_Big_add_132 : decode prog_2_method_7_code 132 = .ok (.aload_n 0, 1) := by decide +kernel
theorem d_Big_add_133 : decode prog_2_method_7_code 133 = .ok (.getfield 16, 3) := by decide +kernel
theorem d_Big_add_136 : decode prog_2_method_7_code 136 = .ok (.iload 7, 2) := by decide +kernel
theorem d_Big_add_138 : decode prog_2_method_7_code 138 = .ok (.lload 5, 2) := by decide +kernel
theorem d_Big_add_140 : decode prog_2_method_7_code 140 = .ok (.ldc2_w 20, 3) := by decide +kernel
theorem d_Big_add_143 : decode prog_2_method_7_code 143 = .ok (.land, 1) := by decide +kernel
theorem d_Big_add_144 : decode prog_2_method_7_code 144 = .ok (.l2i, 1) := by decide +kernel
theorem d_Big_add_145 : decode prog_2_method_7_code 145 = .ok (.iastore, 1) := by decide +kernel
theorem d_Big_add_146 : decode prog_2_method_7_code 146 = .ok (.lload 5, 2) := by decide +kernel
theorem d_Big_add_148 : decode prog_2_method_7_code 148 = .ok (.bipush 31, 2) := by decide +kernel
theorem d_Big_add_150 : decode prog_2_method_7_code 150 = .ok (.lshr, 1) := by decide +kernel
theorem d_Big_add_151 : decode prog_2_method_7_code 151 = .ok (.lstore 5, 2) := by decide +kernel
theorem d_Big_add_153 : decode prog_2_method_7_code 153 = .ok (.iinc 7 1, 3) := by decide +kernel
theorem d_Big_add_156 : decode prog_2_method_7_code 156 = .ok (.goto (-90), 3) := by decide +kernel
theorem d_Big_add_159 : decode prog_2_method_7_code 159 = .ok (.aload_n 0, 1) := by decide +kernel
theorem d_Big_add_160 : decode prog_2_method_7_code 160 = .ok (.iload 4, 2) := by decide +kernel
theorem d_Big_add_162 : decode prog_2_method_7_code 162 = .ok (.putfield 13, 3) := by decide +kernel
theorem d_Big_add_165 : decode prog_2_method_7_code 165 = .ok (.lload 5, 2) := by decide +kernel
theorem d_Big_add_167 : decode prog_2_method_7_code 167 = .ok (.lconst 0, 1) := by decide +kernel
theorem d_Big_add_168 : decode prog_2_method_7_code 168 = .ok (.lcmp, 1) := by decide +kernel
theorem d_Big_add_169 : decode prog_2_method_7_code 169 = .ok (.ifCond .le 28, 3) := by decide +kernel
theorem d_Big_add_172 : decode prog_2_method_7_code 172 = .ok (.iload 4, 2) := by decide +kernel
theorem d_Big_add_174 : decode prog_2_method_7_code 174 = .ok (.bipush 48, 2) := by decide +kernel
theorem d_Big_add_176 : decode prog_2_method_7_code 176 = .ok (.if_icmp .ge 21, 3) := by decide +kernel
theorem d_Big_add_179 : decode prog_2_method_7_code 179 = .ok (.aload_n 0, 1) := by decide +kernel
theorem d_Big_add_180 : decode prog_2_method_7_code 180 = .ok (.getfield 16, 3) := by decide +kernel
theorem d_Big_add_183 : decode prog_2_method_7_code 183 = .ok (.iload 4, 2) := by decide +kernel
theorem d_Big_add_185 : decode prog_2_method_7_code 185 = .ok (.lload 5, 2) := by decide +kernel
theorem d_Big_add_187 : decode prog_2_method_7_code 187 = .ok (.l2i, 1) := by decide +kernel
theorem d_Big_add_188 : decode prog_2_method_7_code 188 = .ok (.iastore, 1) := by decide +kernel
theorem d_Big_add_189 : decode prog_2_method_7_code 189 = .ok (.aload_n 0, 1) := by decide +kernel
theorem d_Big_add_190 : decode prog_2_method_7_code 190 = .ok (.iload 4, 2) := by decide +kernel
theorem d_Big_add_192 : decode prog_2_method_7_code 192 = .ok (.iconst 1, 1) := by decide +kernel
theorem d_Big_add_193 : decode prog_2_method_7_code 193 = .ok (.iadd, 1) := by decide +kernel
theorem d_Big_add_194 : decode prog_2_method_7_code 194 = .ok (.putfield 13, 3) := by decide +kernel
theorem d_Big_add_197 : decode prog_2_method_7_code 197 = .ok (.lload 5, 2) := by decide +kernel
theorem d_Big_add_199 : decode prog_2_method_7_code 199 = .ok (.lconst 0, 1) := by decide +kernel
theorem d_Big_add_200 : decode prog_2_method_7_code 200 = .ok (.lcmp, 1) := by decide +kernel
theorem d_Big_add_201 : decode prog_2_method_7_code 201 = .ok (.ifCond .ge 65, 3) := by decide +kernel
theorem d_Big_add_204 : decode prog_2_method_7_code 204 = .ok (.aload_n 0, 1) := by decide +kernel
theorem d_Big_add_205 : decode prog_2_method_7_code 205 = .ok (.aload_n 0, 1) := by decide +kernel
theorem d_Big_add_206 : decode prog_2_method_7_code 206 = .ok (.getfield 9, 3) := by decide +kernel
theorem d_Big_add_209 : decode prog_2_method_7_code 209 = .ok (.ineg, 1) := by decide +kernel
theorem d_Big_add_210 : decode prog_2_method_7_code 210 = .ok (.putfield 9, 3) := by decide +kernel
theorem d_Big_add_213 : decode prog_2_method_7_code 213 = .ok (.lconst 0, 1) := by decide +kernel
theorem d_Big_add_214 : decode prog_2_method_7_code 214 = .ok (.lstore 5, 2) := by decide +kernel
theorem d_Big_add_216 : decode prog_2_method_7_code 216 = .ok (.iconst 0, 1) := by decide +kernel
theorem d_Big_add_217 : decode prog_2_method_7_code 217 = .ok (.istore 7, 2) := by decide +kernel
theorem d_Big_add_219 : decode prog_2_method_7_code 219 = .ok (.iload 7, 2) := by decide +kernel
theorem d_Big_add_221 : decode prog_2_method_7_code 221 = .ok (.iload 4, 2) := by decide +kernel
theorem d_Big_add_223 : decode prog_2_method_7_code 223 = .ok (.if_icmp .ge 43, 3) := by decide +kernel
theorem d_Big_add_226 : decode prog_2_method_7_code 226 = .ok (.lload 5, 2) := by decide +kernel
theorem d_Big_add_228 : decode prog_2_method_7_code 228 = .ok (.aload_n 0, 1) := by decide +kernel
theorem d_Big_add_229 : decode prog_2_method_7_code 229 = .ok (.getfield 16, 3) := by decide +kernel
theorem d_Big_add_232 : decode prog_2_method_7_code 232 = .ok (.iload 7, 2) := by decide +kernel
theorem d_Big_add_234 : decode prog_2_method_7_code 234 = .ok (.iaload, 1) := by decide +kernel
theorem d_Big_add_235 : decode prog_2_method_7_code 235 = .ok (.i2l, 1) := by decide +kernel
theorem d_Big_add_236 : decode prog_2_method_7_code 236 = .ok (.lsub, 1) := by decide +kernel
theorem d_Big_add_237 : decode prog_2_method_7_code 237 = .ok (.lstore 5, 2) := by decide +kernel
theorem d_Big_add_239 : decode prog_2_method_7_code 239 = .ok (.aload_n 0, 1) := by decide +kernel
theorem d_Big_add_240 : decode prog_2_method_7_code 240 = .ok (.getfield 16, 3) := by decide +kernel
theorem d_Big_add_243 : decode prog_2_method_7_code 243 = .ok (.iload 7, 2) := by decide +kernel
theorem d_Big_add_245 : decode prog_2_method_7_code 245 = .ok (.lload 5, 2) := by decide +kernel
theorem d_Big_add_247 : decode prog_2_method_7_code 247 = .ok (.ldc2_w 20, 3) := by decide +kernel
theorem d_Big_add_250 : decode prog_2_method_7_code 250 = .ok (.land, 1) := by decide +kernel
theorem d_Big_add_251 : decode prog_2_method_7_code 251 = .ok (.l2i, 1) := by decide +kernel
theorem d_Big_add_252 : decode prog_2_method_7_code 252 = .ok (.iastore, 1) := by decide +kernel
theorem d_Big_add_253 : decode prog_2_method_7_code 253 = .ok (.lload 5, 2) := by decide +kernel
theorem d_Big_add_255 : decode prog_2_method_7_code 255 = .ok (.bipush 31, 2) := by decide +kernel
theorem d_Big_add_257 : decode prog_2_method_7_code 257 = .ok (.lshr, 1) := by decide +kernel
theorem d_Big_add_258 : decode prog_2_method_7_code 258 = .ok (.lstore 5, 2) := by decide +kernel
theorem d_Big_add_260 : decode prog_2_method_7_code 260 = .ok (.iinc 7 1, 3) := by decide +kernel
theorem d_Big_add_263 : decode prog_2_method_7_code 263 = .ok (.goto (-44), 3) := by decide +kernel
theorem d_Big_add_266 : decode prog_2_method_7_code 266 = .ok (.aload_n 0, 1) := by decide +kernel
theorem d_Big_add_267 : decode prog_2_method_7_code 267 = .ok (.getfield 13, 3) := by decide +kernel
theorem d_Big_add_270 : decode prog_2_method_7_code 270 = .ok (.ifCond .le 30, 3) := by decide +kernel
theorem d_Big_add_273 : decode prog_2_method_7_code 273 = .ok (.aload_n 0, 1) := by decide +kernel
theorem d_Big_add_274 : decode prog_2_method_7_code 274 = .ok (.getfield 16, 3) := by decide +kernel
theorem d_Big_add_277 : decode prog_2_method_7_code 277 = .ok (.aload_n 0, 1) := by decide +kernel
theorem d_Big_add_278 : decode prog_2_method_7_code 278 = .ok (.getfield 13, 3) := by decide +kernel
theorem d_Big_add_281 : decode prog_2_method_7_code 281 = .ok (.iconst 1, 1) := by decide +kernel
theorem d_Big_add_282 : decode prog_2_method_7_code 282 = .ok (.isub, 1) := by decide +kernel
theorem d_Big_add_283 : decode prog_2_method_7_code 283 = .ok (.iaload, 1) := by decide +kernel
theorem d_Big_add_284 : decode prog_2_method_7_code 284 = .ok (.ifCond .ne 16, 3) := by decide +kernel
theorem d_Big_add_287 : decode prog_2_method_7_code 287 = .ok (.aload_n 0, 1) := by decide +kernel
theorem d_Big_add_288 : decode prog_2_method_7_code 288 = .ok (.dup, 1) := by decide +kernel
theorem d_Big_add_289 : decode prog_2_method_7_code 289 = .ok (.getfield 13, 3) := by decide +kernel
theorem d_Big_add_292 : decode prog_2_method_7_code 292 = .ok (.iconst 1, 1) := by decide +kernel
theorem d_Big_add_293 : decode prog_2_method_7_code 293 = .ok (.isub, 1) := by decide +kernel
theorem d_Big_add_294 : decode prog_2_method_7_code 294 = .ok (.putfield 13, 3) := by decide +kernel
theorem d_Big_add_297 : decode prog_2_method_7_code 297 = .ok (.goto (-31), 3) := by decide +kernel
theorem d_Big_add_300 : decode prog_2_method_7_code 300 = .ok (.aload_n 0, 1) := by decide +kernel
theorem d_Big_add_301 : decode prog_2_method_7_code 301 = .ok (.aload_n 0, 1) := by decide +kernel
theorem d_Big_add_302 : decode prog_2_method_7_code 302 = .ok (.getfield 13, 3) := by decide +kernel
theorem d_Big_add_305 : decode prog_2_method_7_code 305 = .ok (.ifCond .ne 7, 3) := by decide +kernel
theorem d_Big_add_308 : decode prog_2_method_7_code 308 = .ok (.iconst 0, 1) := by decide +kernel
theorem d_Big_add_309 : decode prog_2_method_7_code 309 = .ok (.goto 7, 3) := by decide +kernel
theorem d_Big_add_312 : decode prog_2_method_7_code 312 = .ok (.aload_n 0, 1) := by decide +kernel
theorem d_Big_add_313 : decode prog_2_method_7_code 313 = .ok (.getfield 9, 3) := by decide +kernel
theorem d_Big_add_316 : decode prog_2_method_7_code 316 = .ok (.putfield 9, 3) := by decide +kernel
theorem d_Big_add_319 : decode prog_2_method_7_code 319 = .ok (.return_, 1) := by decide +kernel
set_option maxHeartbeats 8000000 in
set_option maxRecDepth 100000 in
theorem c_Big_add (l : Launch) (D : va_G) (cs : Nat → ClassId) (L : List Nat) (f : Nat → va_E) (sz : Nat) (a qa : Nat) (sa : Int) (na : Nat) (la : Nat → Int) (za : Int) (b qb : Nat) (sb : Int) (nb : Nat) (lb : Nat → Int) (zb : Int) (wy : Int) (hF : Fc L [a, qa, b, qb]) (ha : f a = .inr (0, [.int (iI sa), .int (iI ((na : Int))), .ref qa])) (hq : f qa = .inl (cs 0, 48, .inl (ai la))) (hBa : BV sa (na : Int) la za) (hfb : f b = .inr (0, [.int (iI sb), .int (iI ((nb : Int))), .ref qb])) (hfqb : f qb = .inl (cs 0, 48, .inl (ai lb))) (hBb : BV sb (nb : Int) lb zb) (hway : wy = 1 ∨ wy = -1) (hlt : (za.natAbs : Int) + (zb.natAbs : Int) < Bp 48) : Met l (⟨"RealRoots$Big", "add", "(LRealRoots$Big;I)V"⟩ : MethodName) (.code (⟨"RealRoots$Big", "add", "(LRealRoots$Big;I)V"⟩ : MethodName) prog_2_method_7_code 12 (Option.none : Option Jvm.ClassFile.FieldType) :: gw) ({ frames := 0, cells := 0, slots := 0, locals := 0 }) (va_Pc [.ref a, .ref b, .int (iI wy)] (K0 D vwCl (TY cs) L f sz)) (va_Qv (fun (g : Nat → va_E) => ∃ (sd' : Int) (n' : Nat) (lm' : Nat → Int), BV sd' (n' : Int) lm' (za + wy * zb) ∧ g = mw f [(a, .inr (0, [.int (iI (sd')), .int (iI ((n' : Int))), .ref qa])), (qa, .inl (cs 0, 48, .inl (ai (lm'))))]) (K1 D vwCl (TY cs) (AL L sz) L) (AL L sz)) 0 0 (AL L sz) := by
  refine Met.ofW (cc := prog_2_method_7_code) (maxL := 12) (ret := (Option.none : Option Jvm.ClassFile.FieldType)) (by decide) rfl ?_
  intro p e s m args below meth c s₁ Bd hml hv
  obtain ⟨rfl, hk0⟩ := hv
  obtain ⟨hsz, B⟩ := hk0.start
  subst hsz
  have hx := Bd.exec
  have hb := Bd.bytes
  have hr := Bd.returns
  have hlocks := Bd.notSynchronized
  have hts0 := atoms_spec Bd.pre
  have hown : s.vm.findClass RX0 = some m.cls := findClass_of_methodNamed Bd.named
  have hA : ∀ q, s.heap.size ≤ q → AL L s.heap.size q := fun _ h => Or.inr h
  have hl := lv_entry ([.ref a, .ref b, .int (iI wy)]) (n := 12) (Nat.le_of_ble_eq_true rfl)
  rw [lg_entry_eq]
  generalize (lg_sl ([.ref a, .ref b, .int (iI wy)]) ++ List.replicate (12 - (lg_sl ([.ref a, .ref b, .int (iI wy)])).length) Slot.unset).toArray = ls at hl ⊢
  refine absQ (fun Q R av hQ hR hav => ?_)
  have hts : ∀ w ∈ gw, w.before av s = true := by rw [hav]; exact fun w h => hts0 w (List.mem_cons_of_mem _ h)
  have hRf : R.frames = 0 := by rw [hR]; rfl
  have hRl : R.locals = 0 := by rw [hR]; rfl
  have hRc : R.cells = 0 := by rw [hR]; rfl
  have hRs : R.slots = 0 := by rw [hR]; rfl
  clear hR hts0 Bd
  have hl : lv_has ls 12 [(0, .ref a), (1, .ref b), (2, .int (iI wy))] := hl
  have hLa : Lb la na := by have := hBa.2.2.1; rwa [Int.toNat_natCast] at this
  have hLb : Lb lb nb := by have := hBb.2.2.1; rwa [Int.toNat_natCast] at this
  have hsa := hBa.2.2.2.2.1
  have hsb := hBb.2.2.2.2.1
  have hna48 := hBa.2.1
  have hnb48 := hBb.2.1
  have hsd1 := hBa.side
  have hsd2 := hBb.side
  have hva : Bs la na = (za.natAbs : Int) := by have := hBa.2.2.2.2.2; rwa [Int.toNat_natCast] at this
  have hvb : Bs lb nb = (zb.natAbs : Int) := by have := hBb.2.2.2.2.2; rwa [Int.toNat_natCast] at this
  have hsw : -1 ≤ sb * wy ∧ sb * wy ≤ 1 := by rcases hway with rfl | rfl <;> omega
  have hfx : ∀ q ∈ ([(a, .inr (0, [.int (iI sa), .int (iI ((na : Int))), .ref qa])), (qa, .inl (cs 0, 48, .inl (ai la))), (b, .inr (0, [.int (iI sb), .int (iI ((nb : Int))), .ref qb])), (qb, .inl (cs 0, 48, .inl (ai lb)))] : List (Nat × va_E)), f q.1 = q.2 := fun q hq => by
    simp only [List.mem_cons, List.not_mem_nil, or_false] at hq
    rcases hq with rfl | rfl | rfl | rfl
    · exact ha
    · exact hq
    · exact hfb
    · exact hfqb
  have hmw : mw f [(a, .inr (0, [.int (iI sa), .int (iI ((na : Int))), .ref qa])), (qa, .inl (cs 0, 48, .inl (ai la))), (b, .inr (0, [.int (iI sb), .int (iI ((nb : Int))), .ref qb])), (qb, .inl (cs 0, 48, .inl (ai lb)))] = f := mw_self (fun k a e hk => hfx (a, e) (List.mem_of_getElem? hk))
  have B := B.focus [(a, .inr (0, [.int (iI sa), .int (iI ((na : Int))), .ref qa])), (qa, .inl (cs 0, 48, .inl (ai la))), (b, .inr (0, [.int (iI sb), .int (iI ((nb : Int))), .ref qb])), (qb, .inl (cs 0, 48, .inl (ai lb)))] hfx
  have J1 : ∀ (t : Int), (t = if sa = 0 then sb * wy else sa) → ∀ (H : Heap) (locs : List Loc) (ls : Array Slot), Wb D vwCl (TY cs) L (mw f [(a, .inr (0, [.int (iI sa), .int (iI ((na : Int))), .ref qa])), (qa, .inl (cs 0, 48, .inl (ai la))), (b, .inr (0, [.int (iI sb), .int (iI ((nb : Int))), .ref qb])), (qb, .inl (cs 0, 48, .inl (ai lb)))]) (AL L s.heap.size) s H locs → lv_has ls 12 [(0, .ref a), (1, .ref b), (2, .int (iI wy))] → W p l e R s m av below meth c H locs (0) (0) Q (F0 m 21 ls [.int (iI t), .ref a]) := by
    intro t ht H locs ls B hl
    have hss := sum_split (z := za) (a := zb) (s := t) (same := sb * wy * t) hway (by rw [← hsa, ← hsb]; exact ht) (by rw [hsb])
    have hs1 := hss.2.1
    have hs2 := hss.2.2.1
    refine x_put (C := RX0) (T := TX0) (N := 3) hx hb hts inX0 tyX0 tyX0_ok nmX0 hown B hF 0 rfl rfl 0 (by decide) (hts _ w_38) (fun _ h9 => h9) rfl (tyX0_ok 0 (by decide)) rfl rfl (Nat.le_of_ble_eq_true rfl) d_Big_add_21 (fun H locs B => ?_)
    have B : Wb D vwCl (TY cs) L (mw f [(a, .inr (0, [.int (iI t), .int (iI ((na : Int))), .ref qa])), (qa, .inl (cs 0, 48, .inl (ai la))), (b, .inr (0, [.int (iI sb), .int (iI ((nb : Int))), .ref qb])), (qb, .inl (cs 0, 48, .inl (ai lb)))]) (AL L s.heap.size) s H _ := B
    refine lv_aload_n hx hb d_Big_add_24 rfl (lv_at hl 1 rfl) ?_
    refine x_get (C := RX0) (T := TX0) (N := 3) hx hb hts inX0 hown B hF 2 rfl rfl 0 (by decide) (hts _ w_38) (fun _ h9 => h9) rfl d_Big_add_25 ?_
    refine lv_iload_n hx hb d_Big_add_28 rfl (lv_at hl 2 rfl) ?_
    refine x_imul hx hb d_Big_add_29 ?_
    refine lv_aload_n hx hb d_Big_add_30 rfl (lv_at hl 0 rfl) ?_
    refine x_get (C := RX0) (T := TX0) (N := 3) hx hb hts inX0 hown B hF 0 rfl rfl 0 (by decide) (hts _ w_38) (fun _ h9 => h9) rfl d_Big_add_31 ?_
    refine x_imul hx hb d_Big_add_34 ?_
    refine lv_istore_n (lv' := [(3, .int (iI ((sb * wy) * t))), (0, .ref a), (1, .ref b), (2, .int (iI wy))]) hx hb d_Big_add_35 rfl hl (by decide) rfl (fun ls hl => ?_)
    have J2 : ∀ (tp : Nat), (na ≤ tp ∧ nb ≤ tp ∧ tp ≤ 48) → ∀ (H : Heap) (locs : List Loc) (ls : Array Slot), Wb D vwCl (TY cs) L (mw f [(a, .inr (0, [.int (iI t), .int (iI ((na : Int))), .ref qa])), (qa, .inl (cs 0, 48, .inl (ai la))), (b, .inr (0, [.int (iI sb), .int (iI ((nb : Int))), .ref qb])), (qb, .inl (cs 0, 48, .inl (ai lb)))]) (AL L s.heap.size) s H locs → lv_has ls 12 [(3, .int (iI ((sb * wy) * t))), (0, .ref a), (1, .ref b), (2, .int (iI wy))] → W p l e R s m av below meth c H locs (0) (0) Q (F0 m 58 ls [.int (iI ((tp : Int)))]) := by
      intro tp htp H locs ls B hl
      refine lv_istore (lv' := [(4, .int (iI ((tp : Int)))), (3, .int (iI ((sb * wy) * t))), (0, .ref a), (1, .ref b), (2, .int (iI wy))]) hx hb d_Big_add_58 hl (by decide) rfl (fun ls hl => ?_)
      refine x_lconst (z := 0) hx hb d_Big_add_60 (by decide) ?_
      refine lv_lstore (lv' := [(5, .long (lI 0)), (4, .int (iI ((tp : Int)))), (3, .int (iI ((sb * wy) * t))), (0, .ref a), (1, .ref b), (2, .int (iI wy))]) hx hb d_Big_add_61 hl (by decide) rfl (fun ls hl => ?_)
      refine x_iconst hx hb d_Big_add_63 ?_
      refine lv_istore (lv' := [(7, .int (iI 0)), (5, .long (lI 0)), (4, .int (iI ((tp : Int)))), (3, .int (iI ((sb * wy) * t))), (0, .ref a), (1, .ref b), (2, .int (iI wy))]) hx hb d_Big_add_64 hl (by decide) rfl (fun ls hl => ?_)
      have L1 : ∀ (fuel : Nat) (k : Nat) (cy : Int) (x : Nat → Int), tp - k < fuel → (k ≤ tp) → (AddI la lb na nb (sb * wy * t) k cy x) → ∀ (H : Heap) (locs : List Loc) (ls : Array Slot), Wb D vwCl (TY cs) L (mw f [(a, .inr (0, [.int (iI t), .int (iI ((na : Int))), .ref qa])), (qa, .inl (cs 0, 48, .inl (ai x))), (b, .inr (0, [.int (iI sb), .int (iI ((nb : Int))), .ref qb])), (qb, .inl (cs 0, 48, .inl (ai lb)))]) (AL L s.heap.size) s H locs → lv_has ls 12 [(7, .int (iI ((k : Int)))), (5, .long (lI cy)), (4, .int (iI ((tp : Int)))), (3, .int (iI ((sb * wy) * t))), (0, .ref a), (1, .ref b), (2, .int (iI wy))] → W p l e R s m av below meth c H locs (0) (0) Q (F0 m 66 ls []) := by
        intro fuel
        induction fuel with
        | zero => intro k cy x hfu; exact absurd hfu (Nat.not_lt_zero _)
        | succ fuel ih_L1 =>
          intro k cy x hfu_L1 hk hI H locs ls B hl
          have hc1 := hI.1
          have hc2 := hI.2.1
          refine lv_iload hx hb d_Big_add_66 (lv_at hl 0 rfl) ?_
          refine lv_iload hx hb d_Big_add_68 (lv_at hl 2 rfl) ?_
          refine x_icmp_ge (tgt := 159) hx hb d_Big_add_70 (by decide) (by omega) (by omega) (fun h70 => ?_) (fun h70 => ?_)
          · have hIt : AddI la lb na nb (sb * wy * t) tp cy x := by rw [show tp = k by omega]; exact hI
            have hz9 : za + wy * zb = t * (Bs la na + sb * wy * t * Bs lb nb) := by rw [hva, hvb]; exact hss.1
            have hs09 : t = 0 → (Bs la na + sb * wy * t * Bs lb nb) = 0 := fun h => by have h9 := hss.2.2.2.1 h; rw [hva, hvb, h9.1, h9.2]; simp
            have hov : 0 < cy → tp < 48 ∧ TrimI (tp + 1) (up x tp cy) (1 * (Bs la na + sb * wy * t * Bs lb nb)) := fun h => hIt.over htp.1 htp.2.1 h hs1 hLb (by rw [hva, hvb]; exact hlt) htp.2.2
            have hZ : cy = 0 → TrimI tp x (1 * (Bs la na + sb * wy * t * Bs lb nb)) := fun h => by rw [h] at hIt; exact hIt.even htp.1 htp.2.1 htp.2.2
            have hLx : Lb x tp := hIt.2.2.1
            have L4 : ∀ (fuel : Nat) (t2 : Nat) (y : Nat → Int) (u : Int) (ep : Int), t2 < fuel → (TrimI t2 y (ep * (Bs la na + sb * wy * t * Bs lb nb))) → (ep = 1 ∨ ep = -1) → (u = ep * t) → ∀ (H : Heap) (locs : List Loc) (ls : Array Slot), Wb D vwCl (TY cs) L (mw f [(a, .inr (0, [.int (iI u), .int (iI ((t2 : Int))), .ref qa])), (qa, .inl (cs 0, 48, .inl (ai y))), (b, .inr (0, [.int (iI sb), .int (iI ((nb : Int))), .ref qb])), (qb, .inl (cs 0, 48, .inl (ai lb)))]) (AL L s.heap.size) s H locs → lv_has ls 12 [(0, .ref a)] → W p l e R s m av below meth c H locs (0) (0) Q (F0 m 266 ls []) := by
              intro fuel
              induction fuel with
              | zero => intro t2 y u ep hfu; exact absurd hfu (Nat.not_lt_zero _)
              | succ fuel ih_L4 =>
                intro t2 y u ep hfu_L4 hT hep hu H locs ls B hl
                have ht48 := hT.1
                have htl : 0 < t2 → 0 ≤ y (t2 - 1) ∧ y (t2 - 1) < 2147483648 := fun h => hT.2.1 (t2 - 1) (by omega)
                refine lv_aload_n hx hb d_Big_add_266 rfl (lv_at hl 0 rfl) ?_
                refine x_get (C := RX0) (T := TX0) (N := 3) hx hb hts inX0 hown B hF 0 rfl rfl 1 (by decide) (hts _ w_42) (fun _ h9 => h9) rfl d_Big_add_267 ?_
                refine x_if_le (tgt := 300) hx hb d_Big_add_270 (by decide) (by omega) (fun h270 => ?_) (fun h270 => ?_)
                · refine lv_aload_n hx hb d_Big_add_300 rfl (lv_at hl 0 rfl) ?_
                  refine lv_aload_n hx hb d_Big_add_301 rfl (lv_at hl 0 rfl) ?_
                  refine x_get (C := RX0) (T := TX0) (N := 3) hx hb hts inX0 hown B hF 0 rfl rfl 1 (by decide) (hts _ w_42) (fun _ h9 => h9) rfl d_Big_add_302 ?_
                  refine x_if_ne (tgt := 312) hx hb d_Big_add_305 (by decide) (by omega) (fun h305 => ?_) (fun h305 => ?_)
                  · refine lv_aload_n hx hb d_Big_add_312 rfl (lv_at hl 0 rfl) ?_
                    refine x_get (C := RX0) (T := TX0) (N := 3) hx hb hts inX0 hown B hF 0 rfl rfl 0 (by decide) (hts _ w_38) (fun _ h9 => h9) rfl d_Big_add_313 ?_
                    refine x_put (C := RX0) (T := TX0) (N := 3) hx hb hts inX0 tyX0 tyX0_ok nmX0 hown B hF 0 rfl rfl 0 (by decide) (hts _ w_38) (fun _ h9 => h9) rfl (tyX0_ok 0 (by decide)) rfl rfl (Nat.le_of_ble_eq_true rfl) d_Big_add_316 (fun H locs B => ?_)
                    have B : Wb D vwCl (TY cs) L (mw f [(a, .inr (0, [.int (iI u), .int (iI ((t2 : Int))), .ref qa])), (qa, .inl (cs 0, 48, .inl (ai y))), (b, .inr (0, [.int (iI sb), .int (iI ((nb : Int))), .ref qb])), (qb, .inl (cs 0, 48, .inl (ai lb)))]) (AL L s.heap.size) s H _ := B
                    subst hQ hav
                    exact x_vret hx hb hr hlocks B d_Big_add_319 (by
      have hb9 := add_fin hT (fun h0 => by first | exact h284 | (exfalso; omega)) hz9 rfl hep hs2 hs09
      rw [if_neg (by omega), ← hu] at hb9
      exact ⟨_, _, _, hb9, mw_tail (X := [(a, .inr (0, [.int (iI u), .int (iI ((t2 : Int))), .ref qa])), (qa, .inl (cs 0, 48, .inl (ai y)))]) (Y := [(b, .inr (0, [.int (iI sb), .int (iI ((nb : Int))), .ref qb])), (qb, .inl (cs 0, 48, .inl (ai lb)))]) (fun p hp => hfx p (List.mem_cons_of_mem _ (List.mem_cons_of_mem _ (hp))))⟩)
                  · refine x_iconst hx hb d_Big_add_308 ?_
                    refine lv_goto (tgt := 316) hx hb d_Big_add_309 (by decide) ?_
                    refine x_put (C := RX0) (T := TX0) (N := 3) hx hb hts inX0 tyX0 tyX0_ok nmX0 hown B hF 0 rfl rfl 0 (by decide) (hts _ w_38) (fun _ h9 => h9) rfl (tyX0_ok 0 (by decide)) rfl rfl (Nat.le_of_ble_eq_true rfl) d_Big_add_316 (fun H locs B => ?_)
                    have B : Wb D vwCl (TY cs) L (mw f [(a, .inr (0, [.int (iI 0), .int (iI ((t2 : Int))), .ref qa])), (qa, .inl (cs 0, 48, .inl (ai y))), (b, .inr (0, [.int (iI sb), .int (iI ((nb : Int))), .ref qb])), (qb, .inl (cs 0, 48, .inl (ai lb)))]) (AL L s.heap.size) s H _ := B
                    subst hQ hav
                    exact x_vret hx hb hr hlocks B d_Big_add_319 (by
      have hb9 := add_fin hT (fun h0 => by first | exact h284 | (exfalso; omega)) hz9 rfl hep hs2 hs09
      rw [if_pos (by omega)] at hb9
      exact ⟨_, _, _, hb9, mw_tail (X := [(a, .inr (0, [.int (iI 0), .int (iI ((t2 : Int))), .ref qa])), (qa, .inl (cs 0, 48, .inl (ai y)))]) (Y := [(b, .inr (0, [.int (iI sb), .int (iI ((nb : Int))), .ref qb])), (qb, .inl (cs 0, 48, .inl (ai lb)))]) (fun p hp => hfx p (List.mem_cons_of_mem _ (List.mem_cons_of_mem _ (hp))))⟩)
                · refine lv_aload_n hx hb d_Big_add_273 rfl (lv_at hl 0 rfl) ?_
                  refine x_get (C := RX0) (T := TX0) (N := 3) hx hb hts inX0 hown B hF 0 rfl rfl 2 (by decide) (hts _ w_43) (fun _ h9 => h9) rfl d_Big_add_274 ?_
                  refine lv_aload_n hx hb d_Big_add_277 rfl (lv_at hl 0 rfl) ?_
                  refine x_get (C := RX0) (T := TX0) (N := 3) hx hb hts inX0 hown B hF 0 rfl rfl 1 (by decide) (hts _ w_42) (fun _ h9 => h9) rfl d_Big_add_278 ?_
                  refine x_iconst hx hb d_Big_add_281 ?_
                  refine x_isub hx hb d_Big_add_282 ?_
                  refine x_iald hx hb B hF 1 0 rfl rfl (t2 - 1) (by omega) (by omega) (by decide) d_Big_add_283 ?_
                  have htl2 := htl (by omega)
                  refine x_if_ne (tgt := 300) hx hb d_Big_add_284 (by decide) (by omega) (fun h284 => ?_) (fun h284 => ?_)
                  · refine lv_aload_n hx hb d_Big_add_300 rfl (lv_at hl 0 rfl) ?_
                    refine lv_aload_n hx hb d_Big_add_301 rfl (lv_at hl 0 rfl) ?_
                    refine x_get (C := RX0) (T := TX0) (N := 3) hx hb hts inX0 hown B hF 0 rfl rfl 1 (by decide) (hts _ w_42) (fun _ h9 => h9) rfl d_Big_add_302 ?_
                    refine x_if_ne (tgt := 312) hx hb d_Big_add_305 (by decide) (by omega) (fun h305 => ?_) (fun h305 => ?_)
                    · refine lv_aload_n hx hb d_Big_add_312 rfl (lv_at hl 0 rfl) ?_
                      refine x_get (C := RX0) (T := TX0) (N := 3) hx hb hts inX0 hown B hF 0 rfl rfl 0 (by decide) (hts _ w_38) (fun _ h9 => h9) rfl d_Big_add_313 ?_
                      refine x_put (C := RX0) (T := TX0) (N := 3) hx hb hts inX0 tyX0 tyX0_ok nmX0 hown B hF 0 rfl rfl 0 (by decide) (hts _ w_38) (fun _ h9 => h9) rfl (tyX0_ok 0 (by decide)) rfl rfl (Nat.le_of_ble_eq_true rfl) d_Big_add_316 (fun H locs B => ?_)
                      have B : Wb D vwCl (TY cs) L (mw f [(a, .inr (0, [.int (iI u), .int (iI ((t2 : Int))), .ref qa])), (qa, .inl (cs 0, 48, .inl (ai y))), (b, .inr (0, [.int (iI sb), .int (iI ((nb : Int))), .ref qb])), (qb, .inl (cs 0, 48, .inl (ai lb)))]) (AL L s.heap.size) s H _ := B
                      subst hQ hav
                      exact x_vret hx hb hr hlocks B d_Big_add_319 (by
      have hb9 := add_fin hT (fun h0 => by first | exact h284 | (exfalso; omega)) hz9 rfl hep hs2 hs09
      rw [if_neg (by omega), ← hu] at hb9
      exact ⟨_, _, _, hb9, mw_tail (X := [(a, .inr (0, [.int (iI u), .int (iI ((t2 : Int))), .ref qa])), (qa, .inl (cs 0, 48, .inl (ai y)))]) (Y := [(b, .inr (0, [.int (iI sb), .int (iI ((nb : Int))), .ref qb])), (qb, .inl (cs 0, 48, .inl (ai lb)))]) (fun p hp => hfx p (List.mem_cons_of_mem _ (List.mem_cons_of_mem _ (hp))))⟩)
                    · refine x_iconst hx hb d_Big_add_308 ?_
                      refine lv_goto (tgt := 316) hx hb d_Big_add_309 (by decide) ?_
                      refine x_put (C := RX0) (T := TX0) (N := 3) hx hb hts inX0 tyX0 tyX0_ok nmX0 hown B hF 0 rfl rfl 0 (by decide) (hts _ w_38) (fun _ h9 => h9) rfl (tyX0_ok 0 (by decide)) rfl rfl (Nat.le_of_ble_eq_true rfl) d_Big_add_316 (fun H locs B => ?_)
                      have B : Wb D vwCl (TY cs) L (mw f [(a, .inr (0, [.int (iI 0), .int (iI ((t2 : Int))), .ref qa])), (qa, .inl (cs 0, 48, .inl (ai y))), (b, .inr (0, [.int (iI sb), .int (iI ((nb : Int))), .ref qb])), (qb, .inl (cs 0, 48, .inl (ai lb)))]) (AL L s.heap.size) s H _ := B
                      subst hQ hav
                      exact x_vret hx hb hr hlocks B d_Big_add_319 (by
      have hb9 := add_fin hT (fun h0 => by first | exact h284 | (exfalso; omega)) hz9 rfl hep hs2 hs09
      rw [if_pos (by omega)] at hb9
      exact ⟨_, _, _, hb9, mw_tail (X := [(a, .inr (0, [.int (iI 0), .int (iI ((t2 : Int))), .ref qa])), (qa, .inl (cs 0, 48, .inl (ai y)))]) (Y := [(b, .inr (0, [.int (iI sb), .int (iI ((nb : Int))), .ref qb])), (qb, .inl (cs 0, 48, .inl (ai lb)))]) (fun p hp => hfx p (List.mem_cons_of_mem _ (List.mem_cons_of_mem _ (hp))))⟩)
                  · refine lv_aload_n hx hb d_Big_add_287 rfl (lv_at hl 0 rfl) ?_
                    refine lv_dup hx hb d_Big_add_288 rfl ?_
                    refine x_get (C := RX0) (T := TX0) (N := 3) hx hb hts inX0 hown B hF 0 rfl rfl 1 (by decide) (hts _ w_42) (fun _ h9 => h9) rfl d_Big_add_289 ?_
                    refine x_iconst hx hb d_Big_add_292 ?_
                    refine x_isub hx hb d_Big_add_293 ?_
                    refine x_put (C := RX0) (T := TX0) (N := 3) hx hb hts inX0 tyX0 tyX0_ok nmX0 hown B hF 0 rfl rfl 1 (by decide) (hts _ w_42) (fun _ h9 => h9) rfl (tyX0_ok 1 (by decide)) rfl rfl (Nat.le_of_ble_eq_true rfl) d_Big_add_294 (fun H locs B => ?_)
                    have B : Wb D vwCl (TY cs) L (mw f [(a, .inr (0, [.int (iI u), .int (iI (((t2 : Int)) - 1)), .ref qa])), (qa, .inl (cs 0, 48, .inl (ai y))), (b, .inr (0, [.int (iI sb), .int (iI ((nb : Int))), .ref qb])), (qb, .inl (cs 0, 48, .inl (ai lb)))]) (AL L s.heap.size) s H _ := B
                    refine lv_goto (tgt := 266) hx hb d_Big_add_297 (by decide) ?_
                    rw [show (t2 : Int) - 1 = ((t2 - 1 : Nat) : Int) by omega] at B
                    exact ih_L4 (t2 - 1) y u ep (by omega) (hT.step (by omega) h284) hep hu _ _ _ B (lv_sub hl [0] rfl)
            refine lv_aload_n hx hb d_Big_add_159 rfl (lv_at hl 4 rfl) ?_
            refine lv_iload hx hb d_Big_add_160 (lv_at hl 2 rfl) ?_
            refine x_put (C := RX0) (T := TX0) (N := 3) hx hb hts inX0 tyX0 tyX0_ok nmX0 hown B hF 0 rfl rfl 1 (by decide) (hts _ w_42) (fun _ h9 => h9) rfl (tyX0_ok 1 (by decide)) rfl rfl (Nat.le_of_ble_eq_true rfl) d_Big_add_162 (fun H locs B => ?_)
            have B : Wb D vwCl (TY cs) L (mw f [(a, .inr (0, [.int (iI t), .int (iI ((tp : Int))), .ref qa])), (qa, .inl (cs 0, 48, .inl (ai x))), (b, .inr (0, [.int (iI sb), .int (iI ((nb : Int))), .ref qb])), (qb, .inl (cs 0, 48, .inl (ai lb)))]) (AL L s.heap.size) s H _ := B
            refine lv_lload hx hb d_Big_add_165 (lv_at hl 1 rfl) ?_
            refine x_lconst (z := 0) hx hb d_Big_add_167 (by decide) ?_
            refine x_lc_le (tgt := 197) hx hb d_Big_add_168 rfl d_Big_add_169 (by decide) (by omega) (by omega) (fun h169 => ?_) (fun h169 => ?_)
            · refine lv_lload hx hb d_Big_add_197 (lv_at hl 1 rfl) ?_
              refine x_lconst (z := 0) hx hb d_Big_add_199 (by decide) ?_
              refine x_lc_ge (tgt := 266) hx hb d_Big_add_200 rfl d_Big_add_201 (by decide) (by omega) (by omega) (fun h201 => ?_) (fun h201 => ?_)
              · exact L4 _ tp x t 1 (Nat.lt_succ_self _) (hZ (by omega)) (Or.inl rfl) (by omega) _ _ _ B (lv_sub hl [4] rfl)
              · refine lv_aload_n hx hb d_Big_add_204 rfl (lv_at hl 4 rfl) ?_
                refine lv_aload_n hx hb d_Big_add_205 rfl (lv_at hl 4 rfl) ?_
                refine x_get (C := RX0) (T := TX0) (N := 3) hx hb hts inX0 hown B hF 0 rfl rfl 0 (by decide) (hts _ w_38) (fun _ h9 => h9) rfl d_Big_add_206 ?_
                refine x_ineg hx hb d_Big_add_209 ?_
                refine x_put (C := RX0) (T := TX0) (N := 3) hx hb hts inX0 tyX0 tyX0_ok nmX0 hown B hF 0 rfl rfl 0 (by decide) (hts _ w_38) (fun _ h9 => h9) rfl (tyX0_ok 0 (by decide)) rfl rfl (Nat.le_of_ble_eq_true rfl) d_Big_add_210 (fun H locs B => ?_)
                have B : Wb D vwCl (TY cs) L (mw f [(a, .inr (0, [.int (iI (-t)), .int (iI ((tp : Int))), .ref qa])), (qa, .inl (cs 0, 48, .inl (ai x))), (b, .inr (0, [.int (iI sb), .int (iI ((nb : Int))), .ref qb])), (qb, .inl (cs 0, 48, .inl (ai lb)))]) (AL L s.heap.size) s H _ := B
                refine x_lconst (z := 0) hx hb d_Big_add_213 (by decide) ?_
                refine lv_lstore (lv' := [(5, .long (lI 0)), (7, .int (iI ((k : Int)))), (4, .int (iI ((tp : Int)))), (3, .int (iI ((sb * wy) * t))), (0, .ref a), (1, .ref b), (2, .int (iI wy))]) hx hb d_Big_add_214 hl (by decide) rfl (fun ls hl => ?_)
                refine x_iconst hx hb d_Big_add_216 ?_
                refine lv_istore (lv' := [(7, .int (iI 0)), (5, .long (lI 0)), (4, .int (iI ((tp : Int)))), (3, .int (iI ((sb * wy) * t))), (0, .ref a), (1, .ref b), (2, .int (iI wy))]) hx hb d_Big_add_217 hl (by decide) rfl (fun ls hl => ?_)
                have L5 : ∀ (fuel : Nat) (k2 : Nat) (c2 : Int) (y2 : Nat → Int), tp - k2 < fuel → (k2 ≤ tp) → (NegI x k2 c2 y2) → ∀ (H : Heap) (locs : List Loc) (ls : Array Slot), Wb D vwCl (TY cs) L (mw f [(a, .inr (0, [.int (iI (-t)), .int (iI ((tp : Int))), .ref qa])), (qa, .inl (cs 0, 48, .inl (ai y2))), (b, .inr (0, [.int (iI sb), .int (iI ((nb : Int))), .ref qb])), (qb, .inl (cs 0, 48, .inl (ai lb)))]) (AL L s.heap.size) s H locs → lv_has ls 12 [(7, .int (iI ((k2 : Int)))), (5, .long (lI c2)), (4, .int (iI ((tp : Int)))), (3, .int (iI ((sb * wy) * t))), (0, .ref a), (1, .ref b), (2, .int (iI wy))] → W p l e R s m av below meth c H locs (0) (0) Q (F0 m 219 ls []) := by
                  intro fuel
                  induction fuel with
                  | zero => intro k2 c2 y2 hfu; exact absurd hfu (Nat.not_lt_zero _)
                  | succ fuel ih_L5 =>
                    intro k2 c2 y2 hfu_L5 hk2 hN H locs ls B hl
                    have hd1 := hN.1
                    have hd2 := hN.2.1
                    refine lv_iload hx hb d_Big_add_219 (lv_at hl 0 rfl) ?_
                    refine lv_iload hx hb d_Big_add_221 (lv_at hl 2 rfl) ?_
                    refine x_icmp_ge (tgt := 266) hx hb d_Big_add_223 (by decide) (by omega) (by omega) (fun h223 => ?_) (fun h223 => ?_)
                    · exact L4 _ tp y2 (-t) (-1) (Nat.lt_succ_self _) (NegI.full hIt (show NegI x tp c2 y2 by rw [show tp = k2 by omega]; exact hN) htp.1 htp.2.1 (by omega) hs1 hLa hLb htp.2.2) (Or.inr rfl) (by omega) _ _ _ B (lv_sub hl [4] rfl)
                    · have hyk : 0 ≤ y2 k2 ∧ y2 k2 < 2147483648 := by rw [hN.2.2.2.1 k2 (Nat.le_refl _)]; exact hLx k2 (by omega)
                      have hst2 := hN.step hLx (show k2 < tp by omega)
                      have hs6 := hst2.2.1
                      have hs7 := hst2.2.2
                      refine lv_lload hx hb d_Big_add_226 (lv_at hl 1 rfl) ?_
                      refine lv_aload_n hx hb d_Big_add_228 rfl (lv_at hl 4 rfl) ?_
                      refine x_get (C := RX0) (T := TX0) (N := 3) hx hb hts inX0 hown B hF 0 rfl rfl 2 (by decide) (hts _ w_43) (fun _ h9 => h9) rfl d_Big_add_229 ?_
                      refine lv_iload hx hb d_Big_add_232 (lv_at hl 0 rfl) ?_
                      refine x_iald hx hb B hF 1 0 rfl rfl k2 (by omega) (by omega) (by decide) d_Big_add_234 ?_
                      refine x_i2l hx hb d_Big_add_235 (by omega) ?_
                      refine x_lsub hx hb d_Big_add_236 ?_
                      refine lv_lstore (lv' := [(5, .long (lI (c2 - (y2 k2)))), (7, .int (iI ((k2 : Int)))), (4, .int (iI ((tp : Int)))), (3, .int (iI ((sb * wy) * t))), (0, .ref a), (1, .ref b), (2, .int (iI wy))]) hx hb d_Big_add_237 hl (by decide) rfl (fun ls hl => ?_)
                      refine lv_aload_n hx hb d_Big_add_239 rfl (lv_at hl 4 rfl) ?_
                      refine x_get (C := RX0) (T := TX0) (N := 3) hx hb hts inX0 hown B hF 0 rfl rfl 2 (by decide) (hts _ w_43) (fun _ h9 => h9) rfl d_Big_add_240 ?_
                      refine lv_iload hx hb d_Big_add_243 (lv_at hl 1 rfl) ?_
                      refine lv_lload hx hb d_Big_add_245 (lv_at hl 0 rfl) ?_
                      refine x_ldc2 (z := 2147483647) hx hb hown (hts _ w_297) (by decide) d_Big_add_247 ?_
                      refine x_land31 hx hb d_Big_add_250 ?_
                      refine x_l2i hx hb d_Big_add_251 ?_
                      refine x_iast hx hb B hF 1 0 rfl rfl k2 (by omega) (by omega) (by decide) d_Big_add_252 (fun H locs B => ?_)
                      have B : Wb D vwCl (TY cs) L (mw f [(a, .inr (0, [.int (iI (-t)), .int (iI ((tp : Int))), .ref qa])), (qa, .inl (cs 0, 48, .inl (ai (up y2 k2 ((c2 - (y2 k2)) % 2147483648))))), (b, .inr (0, [.int (iI sb), .int (iI ((nb : Int))), .ref qb])), (qb, .inl (cs 0, 48, .inl (ai lb)))]) (AL L s.heap.size) s H _ := B
                      refine lv_lload hx hb d_Big_add_253 (lv_at hl 0 rfl) ?_
                      refine x_bipush hx hb d_Big_add_255 (by decide) ?_
                      refine x_lshr31 hx hb d_Big_add_257 (by omega) ?_
                      refine lv_lstore (lv' := [(5, .long (lI ((c2 - (y2 k2)) / 2147483648))), (7, .int (iI ((k2 : Int)))), (4, .int (iI ((tp : Int)))), (3, .int (iI ((sb * wy) * t))), (0, .ref a), (1, .ref b), (2, .int (iI wy))]) hx hb d_Big_add_258 hl (by decide) rfl (fun ls hl => ?_)
                      refine x_iinc (lv' := [(7, .int (iI (((k2 : Int)) + 1))), (5, .long (lI ((c2 - (y2 k2)) / 2147483648))), (4, .int (iI ((tp : Int)))), (3, .int (iI ((sb * wy) * t))), (0, .ref a), (1, .ref b), (2, .int (iI wy))]) hx hb d_Big_add_260 hl (q := 1) rfl rfl (by decide) rfl (fun ls hl => ?_)
                      refine lv_goto (tgt := 219) hx hb d_Big_add_263 (by decide) ?_
                      exact ih_L5 (k2 + 1) ((c2 - (y2 k2)) / 2147483648) (up y2 k2 ((c2 - (y2 k2)) % 2147483648)) (by omega) (by omega) hst2.1 _ _ _ B (lv_sub hl [0, 1, 2, 3, 4, 5, 6] rfl)
                exact L5 _ 0 0 x (Nat.lt_succ_self _) (by omega) NegI.first _ _ _ B (lv_sub hl [0, 1, 2, 3, 4, 5, 6] rfl)
            · have hov := hov (by omega)
              have hov1 := hov.1
              refine lv_iload hx hb d_Big_add_172 (lv_at hl 2 rfl) ?_
              refine x_bipush hx hb d_Big_add_174 (by decide) ?_
              refine x_icmp_ge (tgt := 197) hx hb d_Big_add_176 (by decide) (by omega) (by omega) (fun h176 => ?_) (fun h176 => ?_)
              · exfalso; omega
              · refine lv_aload_n hx hb d_Big_add_179 rfl (lv_at hl 4 rfl) ?_
                refine x_get (C := RX0) (T := TX0) (N := 3) hx hb hts inX0 hown B hF 0 rfl rfl 2 (by decide) (hts _ w_43) (fun _ h9 => h9) rfl d_Big_add_180 ?_
                refine lv_iload hx hb d_Big_add_183 (lv_at hl 2 rfl) ?_
                refine lv_lload hx hb d_Big_add_185 (lv_at hl 1 rfl) ?_
                refine x_l2i hx hb d_Big_add_187 ?_
                refine x_iast hx hb B hF 1 0 rfl rfl tp (by omega) (by omega) (by decide) d_Big_add_188 (fun H locs B => ?_)
                have B : Wb D vwCl (TY cs) L (mw f [(a, .inr (0, [.int (iI t), .int (iI ((tp : Int))), .ref qa])), (qa, .inl (cs 0, 48, .inl (ai (up x tp cy)))), (b, .inr (0, [.int (iI sb), .int (iI ((nb : Int))), .ref qb])), (qb, .inl (cs 0, 48, .inl (ai lb)))]) (AL L s.heap.size) s H _ := B
                refine lv_aload_n hx hb d_Big_add_189 rfl (lv_at hl 4 rfl) ?_
                refine lv_iload hx hb d_Big_add_190 (lv_at hl 2 rfl) ?_
                refine x_iconst hx hb d_Big_add_192 ?_
                refine x_iadd hx hb d_Big_add_193 ?_
                refine x_put (C := RX0) (T := TX0) (N := 3) hx hb hts inX0 tyX0 tyX0_ok nmX0 hown B hF 0 rfl rfl 1 (by decide) (hts _ w_42) (fun _ h9 => h9) rfl (tyX0_ok 1 (by decide)) rfl rfl (Nat.le_of_ble_eq_true rfl) d_Big_add_194 (fun H locs B => ?_)
                have B : Wb D vwCl (TY cs) L (mw f [(a, .inr (0, [.int (iI t), .int (iI (((tp : Int)) + 1)), .ref qa])), (qa, .inl (cs 0, 48, .inl (ai (up x tp cy)))), (b, .inr (0, [.int (iI sb), .int (iI ((nb : Int))), .ref qb])), (qb, .inl (cs 0, 48, .inl (ai lb)))]) (AL L s.heap.size) s H _ := B
                refine lv_lload hx hb d_Big_add_197 (lv_at hl 1 rfl) ?_
                refine x_lconst (z := 0) hx hb d_Big_add_199 (by decide) ?_
                refine x_lc_ge (tgt := 266) hx hb d_Big_add_200 rfl d_Big_add_201 (by decide) (by omega) (by omega) (fun h201 => ?_) (fun h201 => ?_)
                · exact L4 _ (tp + 1) (up x tp cy) t 1 (Nat.lt_succ_self _) hov.2 (Or.inl rfl) (by omega) _ _ _ B (lv_sub hl [4] rfl)
                · exfalso; omega
          · have J3 : ∀ (mi : Int), (mi = if k < na then x k else 0) → ∀ (H : Heap) (locs : List Loc) (ls : Array Slot), Wb D vwCl (TY cs) L (mw f [(a, .inr (0, [.int (iI t), .int (iI ((na : Int))), .ref qa])), (qa, .inl (cs 0, 48, .inl (ai x))), (b, .inr (0, [.int (iI sb), .int (iI ((nb : Int))), .ref qb])), (qb, .inl (cs 0, 48, .inl (ai lb)))]) (AL L s.heap.size) s H locs → lv_has ls 12 [(7, .int (iI ((k : Int)))), (5, .long (lI cy)), (4, .int (iI ((tp : Int)))), (3, .int (iI ((sb * wy) * t))), (0, .ref a), (1, .ref b), (2, .int (iI wy))] → W p l e R s m av below meth c H locs (0) (0) Q (F0 m 94 ls [.long (lI mi)]) := by
              intro mi hmi H locs ls B hl
              refine lv_lstore (lv' := [(8, .long (lI mi)), (7, .int (iI ((k : Int)))), (5, .long (lI cy)), (4, .int (iI ((tp : Int)))), (3, .int (iI ((sb * wy) * t))), (0, .ref a), (1, .ref b), (2, .int (iI wy))]) hx hb d_Big_add_94 hl (by decide) rfl (fun ls hl => ?_)
              have J4 : ∀ (ot : Int), (ot = if k < nb then lb k else 0) → ∀ (H : Heap) (locs : List Loc) (ls : Array Slot), Wb D vwCl (TY cs) L (mw f [(a, .inr (0, [.int (iI t), .int (iI ((na : Int))), .ref qa])), (qa, .inl (cs 0, 48, .inl (ai x))), (b, .inr (0, [.int (iI sb), .int (iI ((nb : Int))), .ref qb])), (qb, .inl (cs 0, 48, .inl (ai lb)))]) (AL L s.heap.size) s H locs → lv_has ls 12 [(8, .long (lI mi)), (7, .int (iI ((k : Int)))), (5, .long (lI cy)), (4, .int (iI ((tp : Int)))), (3, .int (iI ((sb * wy) * t))), (0, .ref a), (1, .ref b), (2, .int (iI wy))] → W p l e R s m av below meth c H locs (0) (0) Q (F0 m 117 ls [.long (lI ot)]) := by
                intro ot hot H locs ls B hl
                refine lv_lstore (lv' := [(10, .long (lI ot)), (8, .long (lI mi)), (7, .int (iI ((k : Int)))), (5, .long (lI cy)), (4, .int (iI ((tp : Int)))), (3, .int (iI ((sb * wy) * t))), (0, .ref a), (1, .ref b), (2, .int (iI wy))]) hx hb d_Big_add_117 hl (by decide) rfl (fun ls hl => ?_)
                have hstep := hI.step hLa hLb hs1 hmi hot
                have hs8 := hstep.2.1
                have hs9 := hstep.2.2
                refine lv_lload hx hb d_Big_add_119 (lv_at hl 3 rfl) ?_
                refine lv_lload hx hb d_Big_add_121 (lv_at hl 1 rfl) ?_
                refine lv_iload_n hx hb d_Big_add_123 rfl (lv_at hl 5 rfl) ?_
                refine x_i2l hx hb d_Big_add_124 (by omega) ?_
                refine lv_lload hx hb d_Big_add_125 (lv_at hl 0 rfl) ?_
                refine x_lmul hx hb d_Big_add_127 ?_
                refine x_ladd hx hb d_Big_add_128 ?_
                refine x_ladd hx hb d_Big_add_129 ?_
                refine lv_lstore (lv' := [(5, .long (lI (cy + (mi + (((sb * wy) * t) * ot))))), (10, .long (lI ot)), (8, .long (lI mi)), (7, .int (iI ((k : Int)))), (4, .int (iI ((tp : Int)))), (3, .int (iI ((sb * wy) * t))), (0, .ref a), (1, .ref b), (2, .int (iI wy))]) hx hb d_Big_add_130 hl (by decide) rfl (fun ls hl => ?_)
                refine lv_aload_n hx hb d_Big_add_132 rfl (lv_at hl 6 rfl) ?_
                refine x_get (C := RX0) (T := TX0) (N := 3) hx hb hts inX0 hown B hF 0 rfl rfl 2 (by decide) (hts _ w_43) (fun _ h9 => h9) rfl d_Big_add_133 ?_
                refine lv_iload hx hb d_Big_add_136 (lv_at hl 3 rfl) ?_
                refine lv_lload hx hb d_Big_add_138 (lv_at hl 0 rfl) ?_
                refine x_ldc2 (z := 2147483647) hx hb hown (hts _ w_297) (by decide) d_Big_add_140 ?_
                refine x_land31 hx hb d_Big_add_143 ?_
                refine x_l2i hx hb d_Big_add_144 ?_
                refine x_iast hx hb B hF 1 0 rfl rfl k (by omega) (by omega) (by decide) d_Big_add_145 (fun H locs B => ?_)
                have B : Wb D vwCl (TY cs) L (mw f [(a, .inr (0, [.int (iI t), .int (iI ((na : Int))), .ref qa])), (qa, .inl (cs 0, 48, .inl (ai (up x k ((cy + (mi + (((sb * wy) * t) * ot))) % 2147483648))))), (b, .inr (0, [.int (iI sb), .int (iI ((nb : Int))), .ref qb])), (qb, .inl (cs 0, 48, .inl (ai lb)))]) (AL L s.heap.size) s H _ := B
                refine lv_lload hx hb d_Big_add_146 (lv_at hl 0 rfl) ?_
                refine x_bipush hx hb d_Big_add_148 (by decide) ?_
                refine x_lshr31 hx hb d_Big_add_150 (by omega) ?_
                refine lv_lstore (lv' := [(5, .long (lI ((cy + (mi + (((sb * wy) * t) * ot))) / 2147483648))), (10, .long (lI ot)), (8, .long (lI mi)), (7, .int (iI ((k : Int)))), (4, .int (iI ((tp : Int)))), (3, .int (iI ((sb * wy) * t))), (0, .ref a), (1, .ref b), (2, .int (iI wy))]) hx hb d_Big_add_151 hl (by decide) rfl (fun ls hl => ?_)
                refine x_iinc (lv' := [(7, .int (iI (((k : Int)) + 1))), (5, .long (lI ((cy + (mi + (((sb * wy) * t) * ot))) / 2147483648))), (10, .long (lI ot)), (8, .long (lI mi)), (4, .int (iI ((tp : Int)))), (3, .int (iI ((sb * wy) * t))), (0, .ref a), (1, .ref b), (2, .int (iI wy))]) hx hb d_Big_add_153 hl (q := 3) rfl rfl (by decide) rfl (fun ls hl => ?_)
                refine lv_goto (tgt := 66) hx hb d_Big_add_156 (by decide) ?_
                exact ih_L1 (k + 1) ((cy + (mi + (((sb * wy) * t) * ot))) / 2147483648) (up x k ((cy + (mi + (((sb * wy) * t) * ot))) % 2147483648)) (by omega) (by omega) hstep.1 _ _ _ B (lv_sub hl [0, 1, 4, 5, 6, 7, 8] rfl)
              refine lv_iload hx hb d_Big_add_96 (lv_at hl 1 rfl) ?_
              refine lv_aload_n hx hb d_Big_add_98 rfl (lv_at hl 6 rfl) ?_
              refine x_get (C := RX0) (T := TX0) (N := 3) hx hb hts inX0 hown B hF 2 rfl rfl 1 (by decide) (hts _ w_42) (fun _ h9 => h9) rfl d_Big_add_99 ?_
              refine x_icmp_ge (tgt := 116) hx hb d_Big_add_102 (by decide) (by omega) (by omega) (fun h102 => ?_) (fun h102 => ?_)
              · refine x_lconst (z := 0) hx hb d_Big_add_116 (by decide) ?_
                exact J4 0 (by rw [if_neg (by omega)]) _ _ _ B (lv_sub hl [0, 1, 2, 3, 4, 5, 6, 7] rfl)
              · have hbk := hLb k (by omega)
                refine lv_aload_n hx hb d_Big_add_105 rfl (lv_at hl 6 rfl) ?_
                refine x_get (C := RX0) (T := TX0) (N := 3) hx hb hts inX0 hown B hF 2 rfl rfl 2 (by decide) (hts _ w_43) (fun _ h9 => h9) rfl d_Big_add_106 ?_
                refine lv_iload hx hb d_Big_add_109 (lv_at hl 1 rfl) ?_
                refine x_iald hx hb B hF 3 0 rfl rfl k (by omega) (by omega) (by decide) d_Big_add_111 ?_
                refine x_i2l hx hb d_Big_add_112 (by omega) ?_
                refine lv_goto (tgt := 117) hx hb d_Big_add_113 (by decide) ?_
                exact J4 (lb k) (by rw [if_pos (by omega)]) _ _ _ B (lv_sub hl [0, 1, 2, 3, 4, 5, 6, 7] rfl)
            refine lv_iload hx hb d_Big_add_73 (lv_at hl 0 rfl) ?_
            refine lv_aload_n hx hb d_Big_add_75 rfl (lv_at hl 4 rfl) ?_
            refine x_get (C := RX0) (T := TX0) (N := 3) hx hb hts inX0 hown B hF 0 rfl rfl 1 (by decide) (hts _ w_42) (fun _ h9 => h9) rfl d_Big_add_76 ?_
            refine x_icmp_ge (tgt := 93) hx hb d_Big_add_79 (by decide) (by omega) (by omega) (fun h79 => ?_) (fun h79 => ?_)
            · refine x_lconst (z := 0) hx hb d_Big_add_93 (by decide) ?_
              exact J3 0 (by rw [if_neg (by omega)]) _ _ _ B (lv_sub hl [0, 1, 2, 3, 4, 5, 6] rfl)
            · have hxk : 0 ≤ x k ∧ x k < 2147483648 := by rw [hI.2.2.2.1 k (Nat.le_refl _)]; exact hLa k (by omega)
              refine lv_aload_n hx hb d_Big_add_82 rfl (lv_at hl 4 rfl) ?_
              refine x_get (C := RX0) (T := TX0) (N := 3) hx hb hts inX0 hown B hF 0 rfl rfl 2 (by decide) (hts _ w_43) (fun _ h9 => h9) rfl d_Big_add_83 ?_
              refine lv_iload hx hb d_Big_add_86 (lv_at hl 0 rfl) ?_
              refine x_iald hx hb B hF 1 0 rfl rfl k (by omega) (by omega) (by decide) d_Big_add_88 ?_
              refine x_i2l hx hb d_Big_add_89 (by omega) ?_
              refine lv_goto (tgt := 94) hx hb d_Big_add_90 (by decide) ?_
              exact J3 (x k) (by rw [if_pos (by omega)]) _ _ _ B (lv_sub hl [0, 1, 2, 3, 4, 5, 6] rfl)
      exact L1 _ 0 0 la (Nat.lt_succ_self _) (by omega) AddI.first _ _ _ B (lv_sub hl [0, 1, 2, 3, 4, 5, 6] rfl)
    refine lv_aload_n hx hb d_Big_add_36 rfl (lv_at hl 1 rfl) ?_
    refine x_get (C := RX0) (T := TX0) (N := 3) hx hb hts inX0 hown B hF 0 rfl rfl 1 (by decide) (hts _ w_42) (fun _ h9 => h9) rfl d_Big_add_37 ?_
    refine lv_aload_n hx hb d_Big_add_40 rfl (lv_at hl 2 rfl) ?_
    refine x_get (C := RX0) (T := TX0) (N := 3) hx hb hts inX0 hown B hF 2 rfl rfl 1 (by decide) (hts _ w_42) (fun _ h9 => h9) rfl d_Big_add_41 ?_
    refine x_icmp_le (tgt := 54) hx hb d_Big_add_44 (by decide) (by omega) (by omega) (fun h44 => ?_) (fun h44 => ?_)
    · refine lv_aload_n hx hb d_Big_add_54 rfl (lv_at hl 2 rfl) ?_
      refine x_get (C := RX0) (T := TX0) (N := 3) hx hb hts inX0 hown B hF 2 rfl rfl 1 (by decide) (hts _ w_42) (fun _ h9 => h9) rfl d_Big_add_55 ?_
      exact J2 nb (by omega) _ _ _ B (lv_sub hl [0, 1, 2, 3] rfl)
    · refine lv_aload_n hx hb d_Big_add_47 rfl (lv_at hl 1 rfl) ?_
      refine x_get (C := RX0) (T := TX0) (N := 3) hx hb hts inX0 hown B hF 0 rfl rfl 1 (by decide) (hts _ w_42) (fun _ h9 => h9) rfl d_Big_add_48 ?_
      refine lv_goto (tgt := 58) hx hb d_Big_add_51 (by decide) ?_
      exact J2 na (by omega) _ _ _ B (lv_sub hl [0, 1, 2, 3] rfl)
  refine lv_aload_n hx hb d_Big_add_0 rfl (lv_at hl 0 rfl) ?_
  refine lv_aload_n hx hb d_Big_add_1 rfl (lv_at hl 0 rfl) ?_
  refine x_get (C := RX0) (T := TX0) (N := 3) hx hb hts inX0 hown B hF 0 rfl rfl 0 (by decide) (hts _ w_38) (fun _ h9 => h9) rfl d_Big_add_2 ?_
  refine x_if_ne (tgt := 17) hx hb d_Big_add_5 (by decide) (by omega) (fun h5 => ?_) (fun h5 => ?_)
  · refine lv_aload_n hx hb d_Big_add_17 rfl (lv_at hl 0 rfl) ?_
    refine x_get (C := RX0) (T := TX0) (N := 3) hx hb hts inX0 hown B hF 0 rfl rfl 0 (by decide) (hts _ w_38) (fun _ h9 => h9) rfl d_Big_add_18 ?_
    exact J1 sa (by rw [if_neg h5]) _ _ _ B (lv_sub hl [0, 1, 2] rfl)
  · refine lv_aload_n hx hb d_Big_add_8 rfl (lv_at hl 1 rfl) ?_
    refine x_get (C := RX0) (T := TX0) (N := 3) hx hb hts inX0 hown B hF 2 rfl rfl 0 (by decide) (hts _ w_38) (fun _ h9 => h9) rfl d_Big_add_9 ?_
    refine lv_iload_n hx hb d_Big_add_12 rfl (lv_at hl 2 rfl) ?_
    refine x_imul hx hb d_Big_add_13 ?_
    refine lv_goto (tgt := 21) hx hb d_Big_add_14 (by decide) ?_
    exact J1 (sb * wy) (by rw [if_pos h5]) _ _ _ B (lv_sub hl [0, 1, 2] rfl)
