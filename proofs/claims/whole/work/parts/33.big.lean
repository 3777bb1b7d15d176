theorem d_Big_product_0 : decode prog_2_method_6_code 0 = .ok (.aload_n 0, 1) := by decide +kernel
theorem d_Big_product_1 : decode prog_2_method_6_code 1 = .ok (.aload_n 1, 1) := by decide +kernel
theorem d_Big_product_2 : decode prog_2_method_6_code 2 = .ok (.getfield 9, 3) := by decide +kernel
theorem d_Big_product_5 : decode prog_2_method_6_code 5 = .ok (.aload_n 2, 1) := by decide +kernel
theorem d_Big_product_6 : decode prog_2_method_6_code 6 = .ok (.getfield 9, 3) := by decide +kernel
theorem d_Big_product_9 : decode prog_2_method_6_code 9 = .ok (.imul, 1) := by decide +kernel
theorem d_Big_product_10 : decode prog_2_method_6_code 10 = .ok (.putfield 9, 3) := by decide +kernel
theorem d_Big_product_13 : decode prog_2_method_6_code 13 = .ok (.aload_n 0, 1) := by decide +kernel
theorem d_Big_product_14 : decode prog_2_method_6_code 14 = .ok (.aload_n 0, 1) := by decide +kernel
theorem d_Big_product_15 : decode prog_2_method_6_code 15 = .ok (.getfield 9, 3) := by decide +kernel
theorem d_Big_product_18 : decode prog_2_method_6_code 18 = .ok (.ifCond .ne 7, 3) := by decide +kernel
theorem d_Big_product_21 : decode prog_2_method_6_code 21 = .ok (.iconst 0, 1) := by decide +kernel
theorem d_Big_product_22 : decode prog_2_method_6_code 22 = .ok (.goto 31, 3) := by decide +kernel
theorem d_Big_product_25 : decode prog_2_method_6_code 25 = .ok (.aload_n 1, 1) := by decide +kernel
theorem d_Big_product_26 : decode prog_2_method_6_code 26 = .ok (.getfield 13, 3) := by decide +kernel
theorem d_Big_product_29 : decode prog_2_method_6_code 29 = .ok (.aload_n 2, 1) := by decide +kernel
theorem d_Big_product_30 : decode prog_2_method_6_code 30 = .ok (.getfield 13, 3) := by decide +kernel
theorem d_Big_product_33 : decode prog_2_method_6_code 33 = .ok (.iadd, 1) := by decide +kernel
theorem d_Big_product_34 : decode prog_2_method_6_code 34 = .ok (.bipush 48, 2) := by decide +kernel
theorem d_Big_product_36 : decode prog_2_method_6_code 36 = .ok (.if_icmp .ge 15, 3) := by decide +kernel
theorem d_Big_product_39 : decode prog_2_method_6_code 39 = .ok (.aload_n 1, 1) := by decide +kernel
theorem d_Big_product_40 : decode prog_2_method_6_code 40 = .ok (.getfield 13, 3) := by decide +kernel
theorem d_Big_product_43 : decode prog_2_method_6_code 43 = .ok (.aload_n 2, 1) := by decide +kernel
theorem d_Big_product_44 : decode prog_2_method_6_code 44 = .ok (.getfield 13, 3) := by decide +kernel
theorem d_Big_product_47 : decode prog_2_method_6_code 47 = .ok (.iadd, 1) := by decide +kernel
theorem d_Big_product_48 : decode prog_2_method_6_code 48 = .ok (.goto 5, 3) := by decide +kernel
theorem d_Big_product_51 : decode prog_2_method_6_code 51 = .ok (.bipush 48, 2) := by decide +kernel
theorem d_Big_product_53 : decode prog_2_method_6_code 53 = .ok (.putfield 13, 3) := by decide +kernel
theorem d_Big_product_56 : decode prog_2_method_6_code 56 = .ok (.iconst 0, 1) := by decide +kernel
theorem d_Big_product_57 : decode prog_2_method_6_code 57 = .ok (.istore_n 3, 1) := by decide +kernel
theorem d_Big_product_58 : decode prog_2_method_6_code 58 = .ok (.iload_n 3, 1) := by decide +kernel
theorem d_Big_product_59 : decode prog_2_method_6_code 59 = .ok (.aload_n 0, 1) := by decide +kernel
theorem d_Big_product_60 : decode prog_2_method_6_code 60 = .ok (.getfield 13, 3) := by decide +kernel
theorem d_Big_product_63 : decode prog_2_method_6_code 63 = .ok (.if_icmp .ge 16, 3) := by decide +kernel
theorem d_Big_product_66 : decode prog_2_method_6_code 66 = .ok (.aload_n 0, 1) := by decide +kernel
theorem d_Big_product_67 : decode prog_2_method_6_code 67 = .ok (.getfield 16, 3) := by decide +kernel
theorem d_Big_product_70 : decode prog_2_method_6_code 70 = .ok (.iload_n 3, 1) := by decide +kernel
theorem d_Big_product_71 : decode prog_2_method_6_code 71 = .ok (.iconst 0, 1) := by decide +kernel
theorem d_Big_product_72 : decode prog_2_method_6_code 72 = .ok (.iastore, 1) := by decide +kernel
theorem d_Big_product_73 : decode prog_2_method_6_code 73 = .ok (.iinc 3 1, 3) := by decide +kernel
theorem d_Big_product_76 : decode prog_2_method_6_code 76 = .ok (.goto (-18), 3) := by decide +kernel
theorem d_Big_product_79 : decode prog_2_method_6_code 79 = .ok (.iconst 0, 1) := by decide +kernel
theorem d_Big_product_80 : decode prog_2_method_6_code 80 = .ok (.istore_n 3, 1) := by decide +kernel
theorem d_Big_product_81 : decode prog_2_method_6_code 81 = .ok (.iload_n 3, 1) := by decide +kernel
theorem d_Big_product_82 : decode prog_2_method_6_code 82 = .ok (.aload_n 1, 1) := by decide +kernel
theorem d_Big_product_83 : decode prog_2_method_6_code 83 = .ok (.getfield 13, 3) := by decide +kernel
theorem d_Big_product_86 : decode prog_2_method_6_code 86 = .ok (.if_icmp .ge 153, 3) := by decide +kernel
theorem d_Big_product_89 : decode prog_2_method_6_code 89 = .ok (.iload_n 3, 1) := by decide +kernel
theorem d_Big_product_90 : decode prog_2_method_6_code 90 = .ok (.aload_n 0, 1) := by decide +kernel
theorem d_Big_product_91 : decode prog_2_method_6_code 91 = .ok (.getfield 13, 3) := by decide +kernel
theorem d_Big_product_94 : decode prog_2_method_6_code 94 = .ok (.if_icmp .ge 145, 3) := by decide +kernel
theorem d_Big_product_97 : decode prog_2_method_6_code 97 = .ok (.aload_n 1, 1) := by decide +kernel
theorem d_Big_product_98 : decode prog_2_method_6_code 98 = .ok (.getfield 16, 3) := by decide +kernel
theorem d_Big_product_101 : decode prog_2_method_6_code 101 = .ok (.iload_n 3, 1) := by decide +kernel
theorem d_Big_product_102 : decode prog_2_method_6_code 102 = .ok (.iaload, 1) := by decide +kernel
theorem d_Big_product_103 : decode prog_2_method_6_code 103 = .ok (.i2l, 1) := by decide +kernel
theorem d_Big_product_104 : decode prog_2_method_6_code 104 = .ok (.lstore 4, 2) := by decide +kernel
theorem d_Big_product_106 : decode prog_2_method_6_code 106 = .ok (.lconst 0, 1) := by decide +kernel
theorem d_Big_product_107 : decode prog_2_method_6_code 107 = .ok (.lstore 6, 2) := by decide +kernel
theorem d_Big_product_109 : decode prog_2_method_6_code 109 = .ok (.aload_n 2, 1) := by decide +kernel
theorem d_Big_product_110 : decode prog_2_method_6_code 110 = .ok (.getfield 13, 3) := by decide +kernel
theorem d_Big_product_113 : decode prog_2_method_6_code 113 = .ok (.aload_n 0, 1) := by decide +kernel
theorem d_Big_product_114 : decode prog_2_method_6_code 114 = .ok (.getfield 13, 3) := by decide +kernel
theorem d_Big_product_117 : decode prog_2_method_6_code 117 = .ok (.iload_n 3, 1) := by decide +kernel
theorem d_Big_product_118 : decode prog_2_method_6_code 118 = .ok (.isub, 1) := by decide +kernel
theorem d_Big_product_119 : decode prog_2_method_6_code 119 = .ok (.if_icmp .ge 10, 3) := by decide +kernel
theorem d_Big_product_122 : decode prog_2_method_6_code 122 = .ok (.aload_n 2, 1) := by decide +kernel
theorem d_Big_product_123 : decode prog_2_method_6_code 123 = .ok (.getfield 13, 3) := by decide +kernel
theorem d_Big_product_126 : decode prog_2_method_6_code 126 = .ok (.goto 9, 3) := by decide +kernel
theorem d_Big_product_129 : decode prog_2_method_6_code 129 = .ok (.aload_n 0, 1) := by decide +kernel
theorem d_Big_product_130 : decode prog_2_method_6_code 130 = .ok (.getfield 13, 3) := by decide +kernel
theorem d_Big_product_133 : decode prog_2_method_6_code 133 = .ok (.iload_n 3, 1) := by decide +kernel
theorem d_Big_product_134 : decode prog_2_method_6_code 134 = .ok (.isub, 1) := by decide +kernel
theorem d_Big_product_135 : decode prog_2_method_6_code 135 = .ok (.istore 8, 2) := by decide +kernel
theorem d_Big_product_137 : decode prog_2_method_6_code 137 = .ok (.iconst 0, 1) := by decide +kernel
theorem d_Big_product_138 : decode prog_2_method_6_code 138 = .ok (.istore 9, 2) := by decide +kernel
theorem d_Big_product_140 : decode prog_2_method_6_code 140 = .ok (.iload 9, 2) := by decide +kernel
theorem d_Big_product_142 : decode prog_2_method_6_code 142 = .ok (.iload 8, 2) := by decide +kernel
theorem d_Big_product_144 : decode prog_2_method_6_code 144 = .ok (.if_icmp .ge 66, 3) := by decide +kernel
theorem d_Big_product_147 : decode prog_2_method_6_code 147 = .ok (.lload 4, 2) := by decide +kernel
theorem d_Big_product_149 : decode prog_2_method_6_code 149 = .ok (.lconst 0, 1) := by decide +kernel
theorem d_Big_product_150 : decode prog_2_method_6_code 150 = .ok (.lcmp, 1) := by decide +kernel
theorem d_Big_product_151 : decode prog_2_method_6_code 151 = .ok (.ifCond .eq 59, 3) := by decide +kernel
theorem d_Big_product_154 : decode prog_2_method_6_code 154 = .ok (.lload 6, 2) := by decide +kernel
theorem d_Big_product_156 : decode prog_2_method_6_code 156 = .ok (.aload_n 0, 1) := by decide +kernel
theorem d_Big_product_157 : decode prog_2_method_6_code 157 = .ok (.getfield 16, 3) := by decide +kernel
theorem d_Big_product_160 : decode prog_2_method_6_code 160 = .ok (.iload_n 3, 1) := by decide +kernel
theorem d_Big_product_161 : decode prog_2_method_6_code 161 = .ok (.iload 9, 2) := by decide +kernel
theorem d_Big_product_163 : decode prog_2_method_6_code 163 = .ok (.iadd, 1) := by decide +kernel
theorem d_Big_product_164 : decode prog_2_method_6_code 164 = .ok (.iaload, 1) := by decide +kernel
theorem d_Big_product_165 : decode prog_2_method_6_code 165 = .ok (.i2l, 1) := by decide +kernel
theorem d_Big_product_166 : decode prog_2_method_6_code 166 = .ok (.lload 4, 2) := by decide +kernel
theorem d_Big_product_168 : decode prog_2_method_6_code 168 = .ok (.aload_n 2, 1) := by decide +kernel
theorem d_Big_product_169 : decode prog_2_method_6_code 169 = .ok (.getfield 16, 3) := by decide +kernel
theorem d_Big_product_172 : decode prog_2_method_6_code 172 = .ok (.iload 9, 2) := by decide +kernel
theorem d_Big_product_174 : decode prog_2_method_6_code 174 = .ok (.iaload, 1) := by decide +kernel
theorem d_Big_product_175 : decode prog_2_method_6_code 175 = .ok (.i2l, 1) := by decide +kernel
theorem d_Big_product_176 : decode prog_2_method_6_code 176 = .ok (.lmul, 1) := by decide +kernel
theorem d_Big_product_177 : decode prog_2_method_6_code 177 = .ok (.ladd, 1) := by decide +kernel
theorem d_Big_product_178 : decode prog_2_method_6_code 178 = .ok (.ladd, 1) := by decide +kernel
theorem d_Big_product_179 : decode prog_2_method_6_code 179 = .ok (.lstore 6, 2) := by decide +kernel
theorem d_Big_product_181 : decode prog_2_method_6_code 181 = .ok (.aload_n 0, 1) := by decide +kernel
theorem d_Big_product_182 : decode prog_2_method_6_code 182 = .ok (.getfield 16, 3) := by decide +kernel
theorem d_Big_product_185 : decode prog_2_method_6_code 185 = .ok (.iload_n 3, 1) := by decide +kernel
theorem d_Big_product_186 : decode prog_2_method_6_code 186 = .ok (.iload 9, 2) := by decide +kernel
theorem d_Big_product_188 : decode prog_2_method_6_code 188 = .ok (.iadd, 1) := by decide +kernel
theorem d_Big_product_189 : decode prog_2_method_6_code 189 = .ok (.lload 6, 2) := by decide +kernel
theorem d_Big_product_191 : decode prog_2_method_6_code 191 = .ok (.ldc2_w 20, 3) := by decide +kernel
theorem d_Big_product_194 : decode prog_2_method_6_code 194 = .ok (.land, 1) := by decide +kernel
theorem d_Big_product_195 : decode prog_2_method_6_code 195 = .ok (.l2i, 1) := by decide +kernel
theorem d_Big_product_196 : decode prog_2_method_6_code 196 = .ok (.iastore, 1) := by decide +kernel
theorem d_Big_product_197 : decode prog_2_method_6_code 197 = .ok (.lload 6, 2) := by decide +kernel
theorem d_Big_product_199 : decode prog_2_method_6_code 199 = .ok (.bipush 31, 2) := by decide +kernel
theorem d_Big_product_201 : decode prog_2_method_6_code 201 = .ok (.lushr, 1) := by decide +kernel
theorem d_Big_product_202 : decode prog_2_method_6_code 202 = .ok (.lstore 6, 2) := by decide +kernel
theorem d_Big_product_204 : decode prog_2_method_6_code 204 = .ok (.iinc 9 1, 3) := by decide +kernel
theorem d_Big_product_207 : decode prog_2_method_6_code 207 = .ok (.goto (-67), 3) := by decide +kernel
theorem d_Big_product_210 : decode prog_2_method_6_code 210 = .ok (.iload_n 3, 1) := by decide +kernel
theorem d_Big_product_211 : decode prog_2_method_6_code 211 = .ok (.iload 8, 2) := by decide +kernel
theorem d_Big_product_213 : decode prog_2_method_6_code 213 = .ok (.iadd, 1) := by decide +kernel
theorem d_Big_product_214 : decode prog_2_method_6_code 214 = .ok (.aload_n 0, 1) := by decide +kernel
theorem d_Big_product_215 : decode prog_2_method_6_code 215 = .ok (.getfield 13, 3) := by decide +kernel
theorem d_Big_product_218 : decode prog_2_method_6_code 218 = .ok (.if_icmp .ge 15, 3) := by decide +kernel
theorem d_Big_product_221 : decode prog_2_method_6_code 221 = .ok (.aload_n 0, 1) := by decide +kernel
theorem d_Big_product_222 : decode prog_2_method_6_code 222 = .ok (.getfield 16, 3) := by decide +kernel
theorem d_Big_product_225 : decode prog_2_method_6_code 225 = .ok (.iload_n 3, 1) := by decide +kernel
theorem d_Big_product_226 : decode prog_2_method_6_code 226 = .ok (.iload 8, 2) := by decide +kernel
theorem d_Big_product_228 : decode prog_2_method_6_code 228 = .ok (.iadd, 1) := by decide +kernel
theorem d_Big_product_229 : decode prog_2_method_6_code 229 = .ok (.lload 6, 2) := by decide +kernel
theorem d_Big_product_231 : decode prog_2_method_6_code 231 = .ok (.l2i, 1) := by decide +kernel
theorem d_Big_product_232 : decode prog_2_method_6_code 232 = .ok (.iastore, 1) := by decide +kernel
theorem d_Big_product_233 : decode prog_2_method_6_code 233 = .ok (.iinc 3 1, 3) := by decide +kernel
theorem d_Big_product_236 : decode prog_2_method_6_code 236 = .ok (.goto (-155), 3) := by decide +kernel
theorem d_Big_product_239 : decode prog_2_method_6_code 239 = .ok (.aload_n 0, 1) := by decide +kernel
theorem d_Big_product_240 : decode prog_2_method_6_code 240 = .ok (.getfield 13, 3) := by decide +kernel
theorem d_Big_product_243 : decode prog_2_method_6_code 243 = .ok (.ifCond .le 30, 3) := by decide +kernel
theorem d_Big_product_246 : decode prog_2_method_6_code 246 = .ok (.aload_n 0, 1) := by decide +kernel
theorem d_Big_product_247 : decode prog_2_method_6_code 247 = .ok (.getfield 16, 3) := by decide +kernel
theorem d_Big_product_250 : decode prog_2_method_6_code 250 = .ok (.aload_n 0, 1) := by decide +kernel
theorem d_Big_product_251 : decode prog_2_method_6_code 251 = .ok (.getfield 13, 3) := by decide +kernel
theorem d_Big_product_254 : decode prog_2_method_6_code 254 = .ok (.iconst 1, 1) := by decide +kernel
theorem d_Big_product_255 : decode prog_2_method_6_code 255 = .ok (.isub, 1) := by decide +kernel
theorem d_Big_product_256 : decode prog_2_method_6_code 256 = .ok (.iaload, 1) := by decide +kernel
theorem d_Big_product_257 : decode prog_2_method_6_code 257 = .ok (.ifCond .ne 16, 3) := by decide +kernel
theorem d_Big_product_260 : decode prog_2_method_6_code 260 = .ok (.aload_n 0, 1) := by decide +kernel
theorem d_Big_product_261 : decode prog_2_method_6_code 261 = .ok (.dup, 1) := by decide +kernel
theorem d_Big_product_262 : decode prog_2_method_6_code 262 = .ok (.getfield 13, 3) := by decide +kernel
theorem d_Big_product_265 : decode prog_2_method_6_code 265 = .ok (.iconst 1, 1) := by decide +kernel
theorem d_Big_product_266 : decode prog_2_method_6_code 266 = .ok (.isub, 1) := by decide +kernel
theorem d_Big_product_267 : decode prog_2_method_6_code 267 = .ok (.putfield 13, 3) := by decide +kernel
theorem d_Big_product_270 : decode prog_2_method_6_code 270 = .ok (.goto (-31), 3) := by decide +kernel
theorem d_Big_product_273 : decode prog_2_method_6_code 273 = .ok (.aload_n 0, 1) := by decide +kernel
theorem d_Big_product_274 : decode prog_2_method_6_code 274 = .ok (.aload_n 0, 1) := by decide +kernel
theorem d_Big_product_275 : decode prog_2_method_6_code 275 = .ok (.getfield 13, 3) := by decide +kernel
theorem d_Big_product_278 : decode prog_2_method_6_code 278 = .ok (.ifCond .ne 7, 3) := by decide +kernel
theorem d_Big_product_281 : decode prog_2_method_6_code 281 = .ok (.iconst 0, 1) := by decide +kernel
theorem d_Big_product_282 : decode prog_2_method_6_code 282 = .ok (.goto 7, 3) := by decide +kernel
theorem d_Big_product_285 : decode prog_2_method_6_code 285 = .ok (.aload_n 0, 1) := by decide +kernel
theorem d_Big_product_286 : decode prog_2_method_6_code 286 = .ok (.getfield 9, 3) := by decide +kernel
theorem d_Big_product_289 : decode prog_2_method_6_code 289 = .ok (.putfield 9, 3) := by decide +kernel
theorem d_Big_product_292 : decode prog_2_method_6_code 292 = .ok (.return_, 1) := by decide +kernel
set_option maxHeartbeats 8000000 in
set_option maxRecDepth 100000 in
theorem c_Big_product (l : Launch) (D : va_G) (cs : Nat → ClassId) (L : List Nat) (f : Nat → va_E) (sz : Nat) (a qa : Nat) (sa : Int) (na : Nat) (la : Nat → Int) (b qb : Nat) (sb : Int) (nb : Nat) (lb : Nat → Int) (zb : Int) (w qw : Nat) (sw : Int) (nw : Nat) (lw : Nat → Int) (zw : Int) (hF : Fc L [a, qa, b, qb, w, qw]) (ha : f a = .inr (0, [.int (iI sa), .int (iI ((na : Int))), .ref qa])) (hq : f qa = .inl (cs 0, 48, .inl (ai la))) (hfb : f b = .inr (0, [.int (iI sb), .int (iI ((nb : Int))), .ref qb])) (hfqb : f qb = .inl (cs 0, 48, .inl (ai lb))) (hBb : BV sb (nb : Int) lb zb) (hfw : f w = .inr (0, [.int (iI sw), .int (iI ((nw : Int))), .ref qw])) (hfqw : f qw = .inl (cs 0, 48, .inl (ai lw))) (hBw : BV sw (nw : Int) lw zw) (hlt : ((zb * zw).natAbs : Int) < Bp 47) : Met l (⟨"RealRoots$Big", "product", "(LRealRoots$Big;LRealRoots$Big;)V"⟩ : MethodName) (.code (⟨"RealRoots$Big", "product", "(LRealRoots$Big;LRealRoots$Big;)V"⟩ : MethodName) prog_2_method_6_code 10 (Option.none : Option Jvm.ClassFile.FieldType) :: gw) ({ frames := 0, cells := 0, slots := 0, locals := 0 }) (va_Pc [.ref a, .ref b, .ref w] (K0 D vwCl (TY cs) L f sz)) (va_Qv (fun (g : Nat → va_E) => ∃ (sd' : Int) (n' : Nat) (lm' : Nat → Int), BV sd' (n' : Int) lm' (zb * zw) ∧ g = mw f [(a, .inr (0, [.int (iI (sd')), .int (iI ((n' : Int))), .ref qa])), (qa, .inl (cs 0, 48, .inl (ai (lm'))))]) (K1 D vwCl (TY cs) (AL L sz) L) (AL L sz)) 0 0 (AL L sz) := by
  refine Met.ofW (cc := prog_2_method_6_code) (maxL := 10) (ret := (Option.none : Option Jvm.ClassFile.FieldType)) (by decide) rfl ?_
  intro p e s m args below meth c s₁ Bd hml hv
  obtain ⟨rfl, hk0⟩ := hv
  obtain ⟨hsz, B⟩ := hk0.start
  subst hsz
  have hx := Bd.exec
  have hb := Bd.bytes
  have hr := Bd.returns
  have hlocks := Bd.notSynchronized
  have hts0 := atoms_spec Bd.pre
  have hown : s.vm.findClass RX0 = some m.cls := findClass_of_methodNamed Bd.named
  have hA : ∀ q, s.heap.size ≤ q → AL L s.heap.size q := fun _ h => Or.inr h
  have hl := lv_entry ([.ref a, .ref b, .ref w]) (n := 10) (Nat.le_of_ble_eq_true rfl)
  rw [lg_entry_eq]
  generalize (lg_sl ([.ref a, .ref b, .ref w]) ++ List.replicate (10 - (lg_sl ([.ref a, .ref b, .ref w])).length) Slot.unset).toArray = ls at hl ⊢
  refine absQ (fun Q R av hQ hR hav => ?_)
  have hts : ∀ w ∈ gw, w.before av s = true := by rw [hav]; exact fun w h => hts0 w (List.mem_cons_of_mem _ h)
  have hRf : R.frames = 0 := by rw [hR]; rfl
  have hRl : R.locals = 0 := by rw [hR]; rfl
  have hRc : R.cells = 0 := by rw [hR]; rfl
  have hRs : R.slots = 0 := by rw [hR]; rfl
  clear hR hts0 Bd
  have hl : lv_has ls 10 [(0, .ref a), (1, .ref b), (2, .ref w)] := hl
  have hLb : Lb lb nb := by have := hBb.2.2.1; rwa [Int.toNat_natCast] at this
  have hLw : Lb lw nw := by have := hBw.2.2.1; rwa [Int.toNat_natCast] at this
  have hsb := hBb.2.2.2.2.1
  have hsw := hBw.2.2.2.2.1
  have hnb48 := hBb.2.1
  have hnw48 := hBw.2.1
  have hs3 := sgn_mul hBb.side hBw.side
  have hz0 : sb * sw = 0 → zb * zw = 0 := sgn_zero hBb.side hBw.side
  have hz1 : sb * sw ≠ 0 → zb * zw ≠ 0 := sgn_nonzero hBb.side hBw.side
  have hfx : ∀ q ∈ ([(a, .inr (0, [.int (iI sa), .int (iI ((na : Int))), .ref qa])), (qa, .inl (cs 0, 48, .inl (ai la))), (b, .inr (0, [.int (iI sb), .int (iI ((nb : Int))), .ref qb])), (qb, .inl (cs 0, 48, .inl (ai lb))), (w, .inr (0, [.int (iI sw), .int (iI ((nw : Int))), .ref qw])), (qw, .inl (cs 0, 48, .inl (ai lw)))] : List (Nat × va_E)), f q.1 = q.2 := fun q hq => by
    simp only [List.mem_cons, List.not_mem_nil, or_false] at hq
    rcases hq with rfl | rfl | rfl | rfl | rfl | rfl
    · exact ha
    · exact hq
    · exact hfb
    · exact hfqb
    · exact hfw
    · exact hfqw
  have hmw : mw f [(a, .inr (0, [.int (iI sa), .int (iI ((na : Int))), .ref qa])), (qa, .inl (cs 0, 48, .inl (ai la))), (b, .inr (0, [.int (iI sb), .int (iI ((nb : Int))), .ref qb])), (qb, .inl (cs 0, 48, .inl (ai lb))), (w, .inr (0, [.int (iI sw), .int (iI ((nw : Int))), .ref qw])), (qw, .inl (cs 0, 48, .inl (ai lw)))] = f := mw_self (fun k a e hk => hfx (a, e) (List.mem_of_getElem? hk))
  have B := B.focus [(a, .inr (0, [.int (iI sa), .int (iI ((na : Int))), .ref qa])), (qa, .inl (cs 0, 48, .inl (ai la))), (b, .inr (0, [.int (iI sb), .int (iI ((nb : Int))), .ref qb])), (qb, .inl (cs 0, 48, .inl (ai lb))), (w, .inr (0, [.int (iI sw), .int (iI ((nw : Int))), .ref qw])), (qw, .inl (cs 0, 48, .inl (ai lw)))] hfx
  refine lv_aload_n hx hb d_Big_product_0 rfl (lv_at hl 0 rfl) ?_
  refine lv_aload_n hx hb d_Big_product_1 rfl (lv_at hl 1 rfl) ?_
  refine x_get (C := RX0) (T := TX0) (N := 3) hx hb hts inX0 hown B hF 2 rfl rfl 0 (by decide) (hts _ w_38) (fun _ h9 => h9) rfl d_Big_product_2 ?_
  refine lv_aload_n hx hb d_Big_product_5 rfl (lv_at hl 2 rfl) ?_
  refine x_get (C := RX0) (T := TX0) (N := 3) hx hb hts inX0 hown B hF 4 rfl rfl 0 (by decide) (hts _ w_38) (fun _ h9 => h9) rfl d_Big_product_6 ?_
  refine x_imul hx hb d_Big_product_9 ?_
  refine x_put (C := RX0) (T := TX0) (N := 3) hx hb hts inX0 tyX0 tyX0_ok nmX0 hown B hF 0 rfl rfl 0 (by decide) (hts _ w_38) (fun _ h9 => h9) rfl (tyX0_ok 0 (by decide)) rfl rfl (Nat.le_of_ble_eq_true rfl) d_Big_product_10 (fun H locs B => ?_)
  have B : Wb D vwCl (TY cs) L (mw f [(a, .inr (0, [.int (iI (sb * sw)), .int (iI ((na : Int))), .ref qa])), (qa, .inl (cs 0, 48, .inl (ai la))), (b, .inr (0, [.int (iI sb), .int (iI ((nb : Int))), .ref qb])), (qb, .inl (cs 0, 48, .inl (ai lb))), (w, .inr (0, [.int (iI sw), .int (iI ((nw : Int))), .ref qw])), (qw, .inl (cs 0, 48, .inl (ai lw)))]) (AL L s.heap.size) s H _ := B
  have J1 : ∀ (N : Nat), ((N = nb + nw) ∨ (N = 0 ∧ zb * zw = 0)) → (N ≤ 48) → ∀ (H : Heap) (locs : List Loc) (ls : Array Slot), Wb D vwCl (TY cs) L (mw f [(a, .inr (0, [.int (iI (sb * sw)), .int (iI ((na : Int))), .ref qa])), (qa, .inl (cs 0, 48, .inl (ai la))), (b, .inr (0, [.int (iI sb), .int (iI ((nb : Int))), .ref qb])), (qb, .inl (cs 0, 48, .inl (ai lb))), (w, .inr (0, [.int (iI sw), .int (iI ((nw : Int))), .ref qw])), (qw, .inl (cs 0, 48, .inl (ai lw)))]) (AL L s.heap.size) s H locs → lv_has ls 10 [(0, .ref a), (1, .ref b), (2, .ref w)] → W p l e R s m av below meth c H locs (0) (0) Q (F0 m 53 ls [.int (iI ((N : Int))), .ref a]) := by
    intro N hN hN48 H locs ls B hl
    refine x_put (C := RX0) (T := TX0) (N := 3) hx hb hts inX0 tyX0 tyX0_ok nmX0 hown B hF 0 rfl rfl 1 (by decide) (hts _ w_42) (fun _ h9 => h9) rfl (tyX0_ok 1 (by decide)) rfl rfl (Nat.le_of_ble_eq_true rfl) d_Big_product_53 (fun H locs B => ?_)
    have B : Wb D vwCl (TY cs) L (mw f [(a, .inr (0, [.int (iI (sb * sw)), .int (iI ((N : Int))), .ref qa])), (qa, .inl (cs 0, 48, .inl (ai la))), (b, .inr (0, [.int (iI sb), .int (iI ((nb : Int))), .ref qb])), (qb, .inl (cs 0, 48, .inl (ai lb))), (w, .inr (0, [.int (iI sw), .int (iI ((nw : Int))), .ref qw])), (qw, .inl (cs 0, 48, .inl (ai lw)))]) (AL L s.heap.size) s H _ := B
    refine x_iconst hx hb d_Big_product_56 ?_
    refine lv_istore_n (lv' := [(3, .int (iI 0)), (0, .ref a), (1, .ref b), (2, .ref w)]) hx hb d_Big_product_57 rfl hl (by decide) rfl (fun ls hl => ?_)
    have L1 : ∀ (fuel : Nat) (k : Nat) (x : Nat → Int), N - k < fuel → (k ≤ N) → (∀ j : Nat, j < k → x j = 0) → ∀ (H : Heap) (locs : List Loc) (ls : Array Slot), Wb D vwCl (TY cs) L (mw f [(a, .inr (0, [.int (iI (sb * sw)), .int (iI ((N : Int))), .ref qa])), (qa, .inl (cs 0, 48, .inl (ai x))), (b, .inr (0, [.int (iI sb), .int (iI ((nb : Int))), .ref qb])), (qb, .inl (cs 0, 48, .inl (ai lb))), (w, .inr (0, [.int (iI sw), .int (iI ((nw : Int))), .ref qw])), (qw, .inl (cs 0, 48, .inl (ai lw)))]) (AL L s.heap.size) s H locs → lv_has ls 10 [(3, .int (iI ((k : Int)))), (0, .ref a), (1, .ref b), (2, .ref w)] → W p l e R s m av below meth c H locs (0) (0) Q (F0 m 58 ls []) := by
      intro fuel
      induction fuel with
      | zero => intro k x hfu; exact absurd hfu (Nat.not_lt_zero _)
      | succ fuel ih_L1 =>
        intro k x hfu_L1 hk hz H locs ls B hl
        refine lv_iload_n hx hb d_Big_product_58 rfl (lv_at hl 0 rfl) ?_
        refine lv_aload_n hx hb d_Big_product_59 rfl (lv_at hl 1 rfl) ?_
        refine x_get (C := RX0) (T := TX0) (N := 3) hx hb hts inX0 hown B hF 0 rfl rfl 1 (by decide) (hts _ w_42) (fun _ h9 => h9) rfl d_Big_product_60 ?_
        refine x_icmp_ge (tgt := 79) hx hb d_Big_product_63 (by decide) (by omega) (by omega) (fun h63 => ?_) (fun h63 => ?_)
        · refine x_iconst hx hb d_Big_product_79 ?_
          refine lv_istore_n (lv' := [(3, .int (iI 0)), (0, .ref a), (1, .ref b), (2, .ref w)]) hx hb d_Big_product_80 rfl hl (by decide) rfl (fun ls hl => ?_)
          have L2 : ∀ (fuel : Nat) (k2 : Nat) (x2 : Nat → Int), nb - k2 < fuel → (ProI lb lw nb nw N k2 x2) → ∀ (H : Heap) (locs : List Loc) (ls : Array Slot), Wb D vwCl (TY cs) L (mw f [(a, .inr (0, [.int (iI (sb * sw)), .int (iI ((N : Int))), .ref qa])), (qa, .inl (cs 0, 48, .inl (ai x2))), (b, .inr (0, [.int (iI sb), .int (iI ((nb : Int))), .ref qb])), (qb, .inl (cs 0, 48, .inl (ai lb))), (w, .inr (0, [.int (iI sw), .int (iI ((nw : Int))), .ref qw])), (qw, .inl (cs 0, 48, .inl (ai lw)))]) (AL L s.heap.size) s H locs → lv_has ls 10 [(3, .int (iI ((k2 : Int)))), (0, .ref a), (1, .ref b), (2, .ref w)] → W p l e R s m av below meth c H locs (0) (0) Q (F0 m 81 ls []) := by
            intro fuel
            induction fuel with
            | zero => intro k2 x2 hfu; exact absurd hfu (Nat.not_lt_zero _)
            | succ fuel ih_L2 =>
              intro k2 x2 hfu_L2 hP H locs ls B hl
              have hkn := hP.1
              have L4 : ∀ (fuel : Nat) (t2 : Nat), t2 < fuel → (TrimI t2 x2 ((zb * zw).natAbs : Int)) → ∀ (H : Heap) (locs : List Loc) (ls : Array Slot), Wb D vwCl (TY cs) L (mw f [(a, .inr (0, [.int (iI (sb * sw)), .int (iI ((t2 : Int))), .ref qa])), (qa, .inl (cs 0, 48, .inl (ai x2))), (b, .inr (0, [.int (iI sb), .int (iI ((nb : Int))), .ref qb])), (qb, .inl (cs 0, 48, .inl (ai lb))), (w, .inr (0, [.int (iI sw), .int (iI ((nw : Int))), .ref qw])), (qw, .inl (cs 0, 48, .inl (ai lw)))]) (AL L s.heap.size) s H locs → lv_has ls 10 [(0, .ref a)] → W p l e R s m av below meth c H locs (0) (0) Q (F0 m 239 ls []) := by
                intro fuel
                induction fuel with
                | zero => intro t2 hfu; exact absurd hfu (Nat.not_lt_zero _)
                | succ fuel ih_L4 =>
                  intro t2 hfu_L4 hT H locs ls B hl
                  have ht48 := hT.1
                  have htl : 0 < t2 → 0 ≤ x2 (t2 - 1) ∧ x2 (t2 - 1) < 2147483648 := fun h => hT.2.1 (t2 - 1) (by omega)
                  refine lv_aload_n hx hb d_Big_product_239 rfl (lv_at hl 0 rfl) ?_
                  refine x_get (C := RX0) (T := TX0) (N := 3) hx hb hts inX0 hown B hF 0 rfl rfl 1 (by decide) (hts _ w_42) (fun _ h9 => h9) rfl d_Big_product_240 ?_
                  refine x_if_le (tgt := 273) hx hb d_Big_product_243 (by decide) (by omega) (fun h243 => ?_) (fun h243 => ?_)
                  · refine lv_aload_n hx hb d_Big_product_273 rfl (lv_at hl 0 rfl) ?_
                    refine lv_aload_n hx hb d_Big_product_274 rfl (lv_at hl 0 rfl) ?_
                    refine x_get (C := RX0) (T := TX0) (N := 3) hx hb hts inX0 hown B hF 0 rfl rfl 1 (by decide) (hts _ w_42) (fun _ h9 => h9) rfl d_Big_product_275 ?_
                    refine x_if_ne (tgt := 285) hx hb d_Big_product_278 (by decide) (by omega) (fun h278 => ?_) (fun h278 => ?_)
                    · refine lv_aload_n hx hb d_Big_product_285 rfl (lv_at hl 0 rfl) ?_
                      refine x_get (C := RX0) (T := TX0) (N := 3) hx hb hts inX0 hown B hF 0 rfl rfl 0 (by decide) (hts _ w_38) (fun _ h9 => h9) rfl d_Big_product_286 ?_
                      refine x_put (C := RX0) (T := TX0) (N := 3) hx hb hts inX0 tyX0 tyX0_ok nmX0 hown B hF 0 rfl rfl 0 (by decide) (hts _ w_38) (fun _ h9 => h9) rfl (tyX0_ok 0 (by decide)) rfl rfl (Nat.le_of_ble_eq_true rfl) d_Big_product_289 (fun H locs B => ?_)
                      have B : Wb D vwCl (TY cs) L (mw f [(a, .inr (0, [.int (iI (sb * sw)), .int (iI ((t2 : Int))), .ref qa])), (qa, .inl (cs 0, 48, .inl (ai x2))), (b, .inr (0, [.int (iI sb), .int (iI ((nb : Int))), .ref qb])), (qb, .inl (cs 0, 48, .inl (ai lb))), (w, .inr (0, [.int (iI sw), .int (iI ((nw : Int))), .ref qw])), (qw, .inl (cs 0, 48, .inl (ai lw)))]) (AL L s.heap.size) s H _ := B
                      subst hQ hav
                      exact x_vret hx hb hr hlocks B d_Big_product_292 (by
      have hb9 := pro_big hsb hsw hT (fun h0 => by first | exact h257 | (exfalso; omega))
      rw [if_neg (by omega)] at hb9
      exact ⟨_, _, _, hb9, mw_tail (X := [(a, .inr (0, [.int (iI (sb * sw)), .int (iI ((t2 : Int))), .ref qa])), (qa, .inl (cs 0, 48, .inl (ai x2)))]) (Y := [(b, .inr (0, [.int (iI sb), .int (iI ((nb : Int))), .ref qb])), (qb, .inl (cs 0, 48, .inl (ai lb))), (w, .inr (0, [.int (iI sw), .int (iI ((nw : Int))), .ref qw])), (qw, .inl (cs 0, 48, .inl (ai lw)))]) (fun p hp => hfx p (List.mem_cons_of_mem _ (List.mem_cons_of_mem _ (hp))))⟩)
                    · refine x_iconst hx hb d_Big_product_281 ?_
                      refine lv_goto (tgt := 289) hx hb d_Big_product_282 (by decide) ?_
                      refine x_put (C := RX0) (T := TX0) (N := 3) hx hb hts inX0 tyX0 tyX0_ok nmX0 hown B hF 0 rfl rfl 0 (by decide) (hts _ w_38) (fun _ h9 => h9) rfl (tyX0_ok 0 (by decide)) rfl rfl (Nat.le_of_ble_eq_true rfl) d_Big_product_289 (fun H locs B => ?_)
                      have B : Wb D vwCl (TY cs) L (mw f [(a, .inr (0, [.int (iI 0), .int (iI ((t2 : Int))), .ref qa])), (qa, .inl (cs 0, 48, .inl (ai x2))), (b, .inr (0, [.int (iI sb), .int (iI ((nb : Int))), .ref qb])), (qb, .inl (cs 0, 48, .inl (ai lb))), (w, .inr (0, [.int (iI sw), .int (iI ((nw : Int))), .ref qw])), (qw, .inl (cs 0, 48, .inl (ai lw)))]) (AL L s.heap.size) s H _ := B
                      subst hQ hav
                      exact x_vret hx hb hr hlocks B d_Big_product_292 (by
      have hb9 := pro_big hsb hsw hT (fun h0 => by first | exact h257 | (exfalso; omega))
      rw [if_pos (by omega)] at hb9
      exact ⟨_, _, _, hb9, mw_tail (X := [(a, .inr (0, [.int (iI 0), .int (iI ((t2 : Int))), .ref qa])), (qa, .inl (cs 0, 48, .inl (ai x2)))]) (Y := [(b, .inr (0, [.int (iI sb), .int (iI ((nb : Int))), .ref qb])), (qb, .inl (cs 0, 48, .inl (ai lb))), (w, .inr (0, [.int (iI sw), .int (iI ((nw : Int))), .ref qw])), (qw, .inl (cs 0, 48, .inl (ai lw)))]) (fun p hp => hfx p (List.mem_cons_of_mem _ (List.mem_cons_of_mem _ (hp))))⟩)
                  · refine lv_aload_n hx hb d_Big_product_246 rfl (lv_at hl 0 rfl) ?_
                    refine x_get (C := RX0) (T := TX0) (N := 3) hx hb hts inX0 hown B hF 0 rfl rfl 2 (by decide) (hts _ w_43) (fun _ h9 => h9) rfl d_Big_product_247 ?_
                    refine lv_aload_n hx hb d_Big_product_250 rfl (lv_at hl 0 rfl) ?_
                    refine x_get (C := RX0) (T := TX0) (N := 3) hx hb hts inX0 hown B hF 0 rfl rfl 1 (by decide) (hts _ w_42) (fun _ h9 => h9) rfl d_Big_product_251 ?_
                    refine x_iconst hx hb d_Big_product_254 ?_
                    refine x_isub hx hb d_Big_product_255 ?_
                    refine x_iald hx hb B hF 1 0 rfl rfl (t2 - 1) (by omega) (by omega) (by decide) d_Big_product_256 ?_
                    have htl2 := htl (by omega)
                    refine x_if_ne (tgt := 273) hx hb d_Big_product_257 (by decide) (by omega) (fun h257 => ?_) (fun h257 => ?_)
                    · refine lv_aload_n hx hb d_Big_product_273 rfl (lv_at hl 0 rfl) ?_
                      refine lv_aload_n hx hb d_Big_product_274 rfl (lv_at hl 0 rfl) ?_
                      refine x_get (C := RX0) (T := TX0) (N := 3) hx hb hts inX0 hown B hF 0 rfl rfl 1 (by decide) (hts _ w_42) (fun _ h9 => h9) rfl d_Big_product_275 ?_
                      refine x_if_ne (tgt := 285) hx hb d_Big_product_278 (by decide) (by omega) (fun h278 => ?_) (fun h278 => ?_)
                      · refine lv_aload_n hx hb d_Big_product_285 rfl (lv_at hl 0 rfl) ?_
                        refine x_get (C := RX0) (T := TX0) (N := 3) hx hb hts inX0 hown B hF 0 rfl rfl 0 (by decide) (hts _ w_38) (fun _ h9 => h9) rfl d_Big_product_286 ?_
                        refine x_put (C := RX0) (T := TX0) (N := 3) hx hb hts inX0 tyX0 tyX0_ok nmX0 hown B hF 0 rfl rfl 0 (by decide) (hts _ w_38) (fun _ h9 => h9) rfl (tyX0_ok 0 (by decide)) rfl rfl (Nat.le_of_ble_eq_true rfl) d_Big_product_289 (fun H locs B => ?_)
                        have B : Wb D vwCl (TY cs) L (mw f [(a, .inr (0, [.int (iI (sb * sw)), .int (iI ((t2 : Int))), .ref qa])), (qa, .inl (cs 0, 48, .inl (ai x2))), (b, .inr (0, [.int (iI sb), .int (iI ((nb : Int))), .ref qb])), (qb, .inl (cs 0, 48, .inl (ai lb))), (w, .inr (0, [.int (iI sw), .int (iI ((nw : Int))), .ref qw])), (qw, .inl (cs 0, 48, .inl (ai lw)))]) (AL L s.heap.size) s H _ := B
                        subst hQ hav
                        exact x_vret hx hb hr hlocks B d_Big_product_292 (by
      have hb9 := pro_big hsb hsw hT (fun h0 => by first | exact h257 | (exfalso; omega))
      rw [if_neg (by omega)] at hb9
      exact ⟨_, _, _, hb9, mw_tail (X := [(a, .inr (0, [.int (iI (sb * sw)), .int (iI ((t2 : Int))), .ref qa])), (qa, .inl (cs 0, 48, .inl (ai x2)))]) (Y := [(b, .inr (0, [.int (iI sb), .int (iI ((nb : Int))), .ref qb])), (qb, .inl (cs 0, 48, .inl (ai lb))), (w, .inr (0, [.int (iI sw), .int (iI ((nw : Int))), .ref qw])), (qw, .inl (cs 0, 48, .inl (ai lw)))]) (fun p hp => hfx p (List.mem_cons_of_mem _ (List.mem_cons_of_mem _ (hp))))⟩)
                      · refine x_iconst hx hb d_Big_product_281 ?_
                        refine lv_goto (tgt := 289) hx hb d_Big_product_282 (by decide) ?_
                        refine x_put (C := RX0) (T := TX0) (N := 3) hx hb hts inX0 tyX0 tyX0_ok nmX0 hown B hF 0 rfl rfl 0 (by decide) (hts _ w_38) (fun _ h9 => h9) rfl (tyX0_ok 0 (by decide)) rfl rfl (Nat.le_of_ble_eq_true rfl) d_Big_product_289 (fun H locs B => ?_)
                        have B : Wb D vwCl (TY cs) L (mw f [(a, .inr (0, [.int (iI 0), .int (iI ((t2 : Int))), .ref qa])), (qa, .inl (cs 0, 48, .inl (ai x2))), (b, .inr (0, [.int (iI sb), .int (iI ((nb : Int))), .ref qb])), (qb, .inl (cs 0, 48, .inl (ai lb))), (w, .inr (0, [.int (iI sw), .int (iI ((nw : Int))), .ref qw])), (qw, .inl (cs 0, 48, .inl (ai lw)))]) (AL L s.heap.size) s H _ := B
                        subst hQ hav
                        exact x_vret hx hb hr hlocks B d_Big_product_292 (by
      have hb9 := pro_big hsb hsw hT (fun h0 => by first | exact h257 | (exfalso; omega))
      rw [if_pos (by omega)] at hb9
      exact ⟨_, _, _, hb9, mw_tail (X := [(a, .inr (0, [.int (iI 0), .int (iI ((t2 : Int))), .ref qa])), (qa, .inl (cs 0, 48, .inl (ai x2)))]) (Y := [(b, .inr (0, [.int (iI sb), .int (iI ((nb : Int))), .ref qb])), (qb, .inl (cs 0, 48, .inl (ai lb))), (w, .inr (0, [.int (iI sw), .int (iI ((nw : Int))), .ref qw])), (qw, .inl (cs 0, 48, .inl (ai lw)))]) (fun p hp => hfx p (List.mem_cons_of_mem _ (List.mem_cons_of_mem _ (hp))))⟩)
                    · refine lv_aload_n hx hb d_Big_product_260 rfl (lv_at hl 0 rfl) ?_
                      refine lv_dup hx hb d_Big_product_261 rfl ?_
                      refine x_get (C := RX0) (T := TX0) (N := 3) hx hb hts inX0 hown B hF 0 rfl rfl 1 (by decide) (hts _ w_42) (fun _ h9 => h9) rfl d_Big_product_262 ?_
                      refine x_iconst hx hb d_Big_product_265 ?_
                      refine x_isub hx hb d_Big_product_266 ?_
                      refine x_put (C := RX0) (T := TX0) (N := 3) hx hb hts inX0 tyX0 tyX0_ok nmX0 hown B hF 0 rfl rfl 1 (by decide) (hts _ w_42) (fun _ h9 => h9) rfl (tyX0_ok 1 (by decide)) rfl rfl (Nat.le_of_ble_eq_true rfl) d_Big_product_267 (fun H locs B => ?_)
                      have B : Wb D vwCl (TY cs) L (mw f [(a, .inr (0, [.int (iI (sb * sw)), .int (iI (((t2 : Int)) - 1)), .ref qa])), (qa, .inl (cs 0, 48, .inl (ai x2))), (b, .inr (0, [.int (iI sb), .int (iI ((nb : Int))), .ref qb])), (qb, .inl (cs 0, 48, .inl (ai lb))), (w, .inr (0, [.int (iI sw), .int (iI ((nw : Int))), .ref qw])), (qw, .inl (cs 0, 48, .inl (ai lw)))]) (AL L s.heap.size) s H _ := B
                      refine lv_goto (tgt := 239) hx hb d_Big_product_270 (by decide) ?_
                      rw [show (t2 : Int) - 1 = ((t2 - 1 : Nat) : Int) by omega] at B
                      exact ih_L4 (t2 - 1) (by omega) (hT.step (by omega) h257) _ _ _ B (lv_sub hl [0] rfl)
              refine lv_iload_n hx hb d_Big_product_81 rfl (lv_at hl 0 rfl) ?_
              refine lv_aload_n hx hb d_Big_product_82 rfl (lv_at hl 2 rfl) ?_
              refine x_get (C := RX0) (T := TX0) (N := 3) hx hb hts inX0 hown B hF 2 rfl rfl 1 (by decide) (hts _ w_42) (fun _ h9 => h9) rfl d_Big_product_83 ?_
              refine x_icmp_ge (tgt := 239) hx hb d_Big_product_86 (by decide) (by omega) (by omega) (fun h86 => ?_) (fun h86 => ?_)
              · exact L4 _ N (Nat.lt_succ_self _) (pro_fin hBb hBw hN hN48 hP (by omega)) _ _ _ B (lv_sub hl [1] rfl)
              · refine lv_iload_n hx hb d_Big_product_89 rfl (lv_at hl 0 rfl) ?_
                refine lv_aload_n hx hb d_Big_product_90 rfl (lv_at hl 1 rfl) ?_
                refine x_get (C := RX0) (T := TX0) (N := 3) hx hb hts inX0 hown B hF 0 rfl rfl 1 (by decide) (hts _ w_42) (fun _ h9 => h9) rfl d_Big_product_91 ?_
                refine x_icmp_ge (tgt := 239) hx hb d_Big_product_94 (by decide) (by omega) (by omega) (fun h94 => ?_) (fun h94 => ?_)
                · exact L4 _ N (Nat.lt_succ_self _) (pro_fin hBb hBw hN hN48 hP (by omega)) _ _ _ B (lv_sub hl [1] rfl)
                · have hNe : N = nb + nw := by omega
                  have hlk := hLb k2 (by omega)
                  refine lv_aload_n hx hb d_Big_product_97 rfl (lv_at hl 2 rfl) ?_
                  refine x_get (C := RX0) (T := TX0) (N := 3) hx hb hts inX0 hown B hF 2 rfl rfl 2 (by decide) (hts _ w_43) (fun _ h9 => h9) rfl d_Big_product_98 ?_
                  refine lv_iload_n hx hb d_Big_product_101 rfl (lv_at hl 0 rfl) ?_
                  refine x_iald hx hb B hF 3 0 rfl rfl k2 (by omega) (by omega) (by decide) d_Big_product_102 ?_
                  refine x_i2l hx hb d_Big_product_103 (by omega) ?_
                  refine lv_lstore (lv' := [(4, .long (lI (lb k2))), (3, .int (iI ((k2 : Int)))), (0, .ref a), (1, .ref b), (2, .ref w)]) hx hb d_Big_product_104 hl (by decide) rfl (fun ls hl => ?_)
                  refine x_lconst (z := 0) hx hb d_Big_product_106 (by decide) ?_
                  refine lv_lstore (lv' := [(6, .long (lI 0)), (4, .long (lI (lb k2))), (3, .int (iI ((k2 : Int)))), (0, .ref a), (1, .ref b), (2, .ref w)]) hx hb d_Big_product_107 hl (by decide) rfl (fun ls hl => ?_)
                  refine lv_aload_n hx hb d_Big_product_109 rfl (lv_at hl 5 rfl) ?_
                  refine x_get (C := RX0) (T := TX0) (N := 3) hx hb hts inX0 hown B hF 4 rfl rfl 1 (by decide) (hts _ w_42) (fun _ h9 => h9) rfl d_Big_product_110 ?_
                  refine lv_aload_n hx hb d_Big_product_113 rfl (lv_at hl 3 rfl) ?_
                  refine x_get (C := RX0) (T := TX0) (N := 3) hx hb hts inX0 hown B hF 0 rfl rfl 1 (by decide) (hts _ w_42) (fun _ h9 => h9) rfl d_Big_product_114 ?_
                  refine lv_iload_n hx hb d_Big_product_117 rfl (lv_at hl 2 rfl) ?_
                  refine x_isub hx hb d_Big_product_118 ?_
                  refine x_icmp_ge (tgt := 129) hx hb d_Big_product_119 (by decide) (by omega) (by omega) (fun h119 => ?_) (fun h119 => ?_)
                  · exfalso; omega
                  · refine lv_aload_n hx hb d_Big_product_122 rfl (lv_at hl 5 rfl) ?_
                    refine x_get (C := RX0) (T := TX0) (N := 3) hx hb hts inX0 hown B hF 4 rfl rfl 1 (by decide) (hts _ w_42) (fun _ h9 => h9) rfl d_Big_product_123 ?_
                    refine lv_goto (tgt := 135) hx hb d_Big_product_126 (by decide) ?_
                    refine lv_istore (lv' := [(8, .int (iI ((nw : Int)))), (6, .long (lI 0)), (4, .long (lI (lb k2))), (3, .int (iI ((k2 : Int)))), (0, .ref a), (1, .ref b), (2, .ref w)]) hx hb d_Big_product_135 hl (by decide) rfl (fun ls hl => ?_)
                    refine x_iconst hx hb d_Big_product_137 ?_
                    refine lv_istore (lv' := [(9, .int (iI 0)), (8, .int (iI ((nw : Int)))), (6, .long (lI 0)), (4, .long (lI (lb k2))), (3, .int (iI ((k2 : Int)))), (0, .ref a), (1, .ref b), (2, .ref w)]) hx hb d_Big_product_138 hl (by decide) rfl (fun ls hl => ?_)
                    have L3 : ∀ (fuel : Nat) (j : Nat) (cy : Int) (x3 : Nat → Int), nw - j < fuel → (InI lw nb nw k2 j (Bs lb k2 * Bs lw nw) (lb k2) cy x3) → ∀ (H : Heap) (locs : List Loc) (ls : Array Slot), Wb D vwCl (TY cs) L (mw f [(a, .inr (0, [.int (iI (sb * sw)), .int (iI ((N : Int))), .ref qa])), (qa, .inl (cs 0, 48, .inl (ai x3))), (b, .inr (0, [.int (iI sb), .int (iI ((nb : Int))), .ref qb])), (qb, .inl (cs 0, 48, .inl (ai lb))), (w, .inr (0, [.int (iI sw), .int (iI ((nw : Int))), .ref qw])), (qw, .inl (cs 0, 48, .inl (ai lw)))]) (AL L s.heap.size) s H locs → lv_has ls 10 [(9, .int (iI ((j : Int)))), (6, .long (lI cy)), (8, .int (iI ((nw : Int)))), (4, .long (lI (lb k2))), (3, .int (iI ((k2 : Int)))), (0, .ref a), (1, .ref b), (2, .ref w)] → W p l e R s m av below meth c H locs (0) (0) Q (F0 m 140 ls []) := by
                      intro fuel
                      induction fuel with
                      | zero => intro j cy x3 hfu; exact absurd hfu (Nat.not_lt_zero _)
                      | succ fuel ih_L3 =>
                        intro j cy x3 hfu_L3 hJ H locs ls B hl
                        have hj1 := hJ.1
                        have hj2 := hJ.2.1
                        have hj3 := hJ.2.2.1
                        refine lv_iload hx hb d_Big_product_140 (lv_at hl 0 rfl) ?_
                        refine lv_iload hx hb d_Big_product_142 (lv_at hl 2 rfl) ?_
                        refine x_icmp_ge (tgt := 210) hx hb d_Big_product_144 (by decide) (by omega) (by omega) (fun h144 => ?_) (fun h144 => ?_)
                        · refine lv_iload_n hx hb d_Big_product_210 rfl (lv_at hl 4 rfl) ?_
                          refine lv_iload hx hb d_Big_product_211 (lv_at hl 2 rfl) ?_
                          refine x_iadd hx hb d_Big_product_213 ?_
                          refine lv_aload_n hx hb d_Big_product_214 rfl (lv_at hl 5 rfl) ?_
                          refine x_get (C := RX0) (T := TX0) (N := 3) hx hb hts inX0 hown B hF 0 rfl rfl 1 (by decide) (hts _ w_42) (fun _ h9 => h9) rfl d_Big_product_215 ?_
                          refine x_icmp_ge (tgt := 233) hx hb d_Big_product_218 (by decide) (by omega) (by omega) (fun h218 => ?_) (fun h218 => ?_)
                          · exfalso; omega
                          · refine lv_aload_n hx hb d_Big_product_221 rfl (lv_at hl 5 rfl) ?_
                            refine x_get (C := RX0) (T := TX0) (N := 3) hx hb hts inX0 hown B hF 0 rfl rfl 2 (by decide) (hts _ w_43) (fun _ h9 => h9) rfl d_Big_product_222 ?_
                            refine lv_iload_n hx hb d_Big_product_225 rfl (lv_at hl 4 rfl) ?_
                            refine lv_iload hx hb d_Big_product_226 (lv_at hl 2 rfl) ?_
                            refine x_iadd hx hb d_Big_product_228 ?_
                            refine lv_lload hx hb d_Big_product_229 (lv_at hl 1 rfl) ?_
                            refine x_l2i hx hb d_Big_product_231 ?_
                            refine x_iast hx hb B hF 1 0 rfl rfl (k2 + nw) (by omega) (by omega) (by decide) d_Big_product_232 (fun H locs B => ?_)
                            have B : Wb D vwCl (TY cs) L (mw f [(a, .inr (0, [.int (iI (sb * sw)), .int (iI ((N : Int))), .ref qa])), (qa, .inl (cs 0, 48, .inl (ai (up x3 (k2 + nw) cy)))), (b, .inr (0, [.int (iI sb), .int (iI ((nb : Int))), .ref qb])), (qb, .inl (cs 0, 48, .inl (ai lb))), (w, .inr (0, [.int (iI sw), .int (iI ((nw : Int))), .ref qw])), (qw, .inl (cs 0, 48, .inl (ai lw)))]) (AL L s.heap.size) s H _ := B
                            refine x_iinc (lv' := [(3, .int (iI (((k2 : Int)) + 1))), (9, .int (iI ((j : Int)))), (6, .long (lI cy)), (8, .int (iI ((nw : Int)))), (4, .long (lI (lb k2))), (0, .ref a), (1, .ref b), (2, .ref w)]) hx hb d_Big_product_233 hl (q := 4) rfl rfl (by decide) rfl (fun ls hl => ?_)
                            refine lv_goto (tgt := 81) hx hb d_Big_product_236 (by decide) ?_
                            exact ih_L2 (k2 + 1) (up x3 (k2 + nw) cy) (by omega) (by rw [hNe]; exact InI.last hJ (by omega) rfl (by omega)) _ _ _ B (lv_sub hl [0, 5, 6, 7] rfl)
                        · refine lv_lload hx hb d_Big_product_147 (lv_at hl 3 rfl) ?_
                          refine x_lconst (z := 0) hx hb d_Big_product_149 (by decide) ?_
                          refine x_lc_eq (tgt := 210) hx hb d_Big_product_150 rfl d_Big_product_151 (by decide) (by omega) (by omega) (fun h151 => ?_) (fun h151 => ?_)
                          · refine lv_iload_n hx hb d_Big_product_210 rfl (lv_at hl 4 rfl) ?_
                            refine lv_iload hx hb d_Big_product_211 (lv_at hl 2 rfl) ?_
                            refine x_iadd hx hb d_Big_product_213 ?_
                            refine lv_aload_n hx hb d_Big_product_214 rfl (lv_at hl 5 rfl) ?_
                            refine x_get (C := RX0) (T := TX0) (N := 3) hx hb hts inX0 hown B hF 0 rfl rfl 1 (by decide) (hts _ w_42) (fun _ h9 => h9) rfl d_Big_product_215 ?_
                            refine x_icmp_ge (tgt := 233) hx hb d_Big_product_218 (by decide) (by omega) (by omega) (fun h218 => ?_) (fun h218 => ?_)
                            · exfalso; omega
                            · refine lv_aload_n hx hb d_Big_product_221 rfl (lv_at hl 5 rfl) ?_
                              refine x_get (C := RX0) (T := TX0) (N := 3) hx hb hts inX0 hown B hF 0 rfl rfl 2 (by decide) (hts _ w_43) (fun _ h9 => h9) rfl d_Big_product_222 ?_
                              refine lv_iload_n hx hb d_Big_product_225 rfl (lv_at hl 4 rfl) ?_
                              refine lv_iload hx hb d_Big_product_226 (lv_at hl 2 rfl) ?_
                              refine x_iadd hx hb d_Big_product_228 ?_
                              refine lv_lload hx hb d_Big_product_229 (lv_at hl 1 rfl) ?_
                              refine x_l2i hx hb d_Big_product_231 ?_
                              refine x_iast hx hb B hF 1 0 rfl rfl (k2 + nw) (by omega) (by omega) (by decide) d_Big_product_232 (fun H locs B => ?_)
                              have B : Wb D vwCl (TY cs) L (mw f [(a, .inr (0, [.int (iI (sb * sw)), .int (iI ((N : Int))), .ref qa])), (qa, .inl (cs 0, 48, .inl (ai (up x3 (k2 + nw) cy)))), (b, .inr (0, [.int (iI sb), .int (iI ((nb : Int))), .ref qb])), (qb, .inl (cs 0, 48, .inl (ai lb))), (w, .inr (0, [.int (iI sw), .int (iI ((nw : Int))), .ref qw])), (qw, .inl (cs 0, 48, .inl (ai lw)))]) (AL L s.heap.size) s H _ := B
                              refine x_iinc (lv' := [(3, .int (iI (((k2 : Int)) + 1))), (9, .int (iI ((j : Int)))), (6, .long (lI cy)), (8, .int (iI ((nw : Int)))), (4, .long (lI (lb k2))), (0, .ref a), (1, .ref b), (2, .ref w)]) hx hb d_Big_product_233 hl (q := 4) rfl rfl (by decide) rfl (fun ls hl => ?_)
                              refine lv_goto (tgt := 81) hx hb d_Big_product_236 (by decide) ?_
                              exact ih_L2 (k2 + 1) (up x3 (k2 + nw) cy) (by omega) (by rw [hNe]; exact InI.last hJ (by omega) rfl (by omega)) _ _ _ B (lv_sub hl [0, 5, 6, 7] rfl)
                          · have hxj := hJ.2.2.2.1 (k2 + j) (by omega)
                            have hwj := hLw j (by omega)
                            have hstep := hJ.step hLw hlk h151 (by omega) (by omega)
                            have hs8 := hstep.2.1
                            have hs9 := hstep.2.2
                            refine lv_lload hx hb d_Big_product_154 (lv_at hl 1 rfl) ?_
                            refine lv_aload_n hx hb d_Big_product_156 rfl (lv_at hl 5 rfl) ?_
                            refine x_get (C := RX0) (T := TX0) (N := 3) hx hb hts inX0 hown B hF 0 rfl rfl 2 (by decide) (hts _ w_43) (fun _ h9 => h9) rfl d_Big_product_157 ?_
                            refine lv_iload_n hx hb d_Big_product_160 rfl (lv_at hl 4 rfl) ?_
                            refine lv_iload hx hb d_Big_product_161 (lv_at hl 0 rfl) ?_
                            refine x_iadd hx hb d_Big_product_163 ?_
                            refine x_iald hx hb B hF 1 0 rfl rfl (k2 + j) (by omega) (by omega) (by decide) d_Big_product_164 ?_
                            refine x_i2l hx hb d_Big_product_165 (by omega) ?_
                            refine lv_lload hx hb d_Big_product_166 (lv_at hl 3 rfl) ?_
                            refine lv_aload_n hx hb d_Big_product_168 rfl (lv_at hl 7 rfl) ?_
                            refine x_get (C := RX0) (T := TX0) (N := 3) hx hb hts inX0 hown B hF 4 rfl rfl 2 (by decide) (hts _ w_43) (fun _ h9 => h9) rfl d_Big_product_169 ?_
                            refine lv_iload hx hb d_Big_product_172 (lv_at hl 0 rfl) ?_
                            refine x_iald hx hb B hF 5 0 rfl rfl j (by omega) (by omega) (by decide) d_Big_product_174 ?_
                            refine x_i2l hx hb d_Big_product_175 (by omega) ?_
                            refine x_lmul hx hb d_Big_product_176 ?_
                            refine x_ladd hx hb d_Big_product_177 ?_
                            refine x_ladd hx hb d_Big_product_178 ?_
                            refine lv_lstore (lv' := [(6, .long (lI (cy + ((x3 (k2 + j)) + ((lb k2) * (lw j)))))), (9, .int (iI ((j : Int)))), (8, .int (iI ((nw : Int)))), (4, .long (lI (lb k2))), (3, .int (iI ((k2 : Int)))), (0, .ref a), (1, .ref b), (2, .ref w)]) hx hb d_Big_product_179 hl (by decide) rfl (fun ls hl => ?_)
                            refine lv_aload_n hx hb d_Big_product_181 rfl (lv_at hl 5 rfl) ?_
                            refine x_get (C := RX0) (T := TX0) (N := 3) hx hb hts inX0 hown B hF 0 rfl rfl 2 (by decide) (hts _ w_43) (fun _ h9 => h9) rfl d_Big_product_182 ?_
                            refine lv_iload_n hx hb d_Big_product_185 rfl (lv_at hl 4 rfl) ?_
                            refine lv_iload hx hb d_Big_product_186 (lv_at hl 1 rfl) ?_
                            refine x_iadd hx hb d_Big_product_188 ?_
                            refine lv_lload hx hb d_Big_product_189 (lv_at hl 0 rfl) ?_
                            refine x_ldc2 (z := 2147483647) hx hb hown (hts _ w_297) (by decide) d_Big_product_191 ?_
                            refine x_land31 hx hb d_Big_product_194 ?_
                            refine x_l2i hx hb d_Big_product_195 ?_
                            refine x_iast hx hb B hF 1 0 rfl rfl (k2 + j) (by omega) (by omega) (by decide) d_Big_product_196 (fun H locs B => ?_)
                            have B : Wb D vwCl (TY cs) L (mw f [(a, .inr (0, [.int (iI (sb * sw)), .int (iI ((N : Int))), .ref qa])), (qa, .inl (cs 0, 48, .inl (ai (up x3 (k2 + j) ((cy + ((x3 (k2 + j)) + ((lb k2) * (lw j)))) % 2147483648))))), (b, .inr (0, [.int (iI sb), .int (iI ((nb : Int))), .ref qb])), (qb, .inl (cs 0, 48, .inl (ai lb))), (w, .inr (0, [.int (iI sw), .int (iI ((nw : Int))), .ref qw])), (qw, .inl (cs 0, 48, .inl (ai lw)))]) (AL L s.heap.size) s H _ := B
                            refine lv_lload hx hb d_Big_product_197 (lv_at hl 0 rfl) ?_
                            refine x_bipush hx hb d_Big_product_199 (by decide) ?_
                            refine x_lushr31 hx hb d_Big_product_201 (by omega) ?_
                            refine lv_lstore (lv' := [(6, .long (lI ((cy + ((x3 (k2 + j)) + ((lb k2) * (lw j)))) / 2147483648))), (9, .int (iI ((j : Int)))), (8, .int (iI ((nw : Int)))), (4, .long (lI (lb k2))), (3, .int (iI ((k2 : Int)))), (0, .ref a), (1, .ref b), (2, .ref w)]) hx hb d_Big_product_202 hl (by decide) rfl (fun ls hl => ?_)
                            refine x_iinc (lv' := [(9, .int (iI (((j : Int)) + 1))), (6, .long (lI ((cy + ((x3 (k2 + j)) + ((lb k2) * (lw j)))) / 2147483648))), (8, .int (iI ((nw : Int)))), (4, .long (lI (lb k2))), (3, .int (iI ((k2 : Int)))), (0, .ref a), (1, .ref b), (2, .ref w)]) hx hb d_Big_product_204 hl (q := 1) rfl rfl (by decide) rfl (fun ls hl => ?_)
                            refine lv_goto (tgt := 140) hx hb d_Big_product_207 (by decide) ?_
                            exact ih_L3 (j + 1) ((cy + ((x3 (k2 + j)) + ((lb k2) * (lw j)))) / 2147483648) (up x3 (k2 + j) ((cy + ((x3 (k2 + j)) + ((lb k2) * (lw j)))) % 2147483648)) (by omega) hstep.1 _ _ _ B (lv_sub hl [0, 1, 2, 3, 4, 5, 6, 7] rfl)
                    exact L3 _ 0 0 x2 (Nat.lt_succ_self _) (InI.first (by rw [← hNe]; exact hP)) _ _ _ B (lv_sub hl [0, 2, 1, 3, 4, 5, 6, 7] rfl)
          exact L2 _ 0 x (Nat.lt_succ_self _) (ProI.first (fun j hj => hz j (by omega))) _ _ _ B (lv_sub hl [0, 1, 2, 3] rfl)
        · refine lv_aload_n hx hb d_Big_product_66 rfl (lv_at hl 1 rfl) ?_
          refine x_get (C := RX0) (T := TX0) (N := 3) hx hb hts inX0 hown B hF 0 rfl rfl 2 (by decide) (hts _ w_43) (fun _ h9 => h9) rfl d_Big_product_67 ?_
          refine lv_iload_n hx hb d_Big_product_70 rfl (lv_at hl 0 rfl) ?_
          refine x_iconst hx hb d_Big_product_71 ?_
          refine x_iast hx hb B hF 1 0 rfl rfl k (by omega) (by omega) (by decide) d_Big_product_72 (fun H locs B => ?_)
          have B : Wb D vwCl (TY cs) L (mw f [(a, .inr (0, [.int (iI (sb * sw)), .int (iI ((N : Int))), .ref qa])), (qa, .inl (cs 0, 48, .inl (ai (up x k 0)))), (b, .inr (0, [.int (iI sb), .int (iI ((nb : Int))), .ref qb])), (qb, .inl (cs 0, 48, .inl (ai lb))), (w, .inr (0, [.int (iI sw), .int (iI ((nw : Int))), .ref qw])), (qw, .inl (cs 0, 48, .inl (ai lw)))]) (AL L s.heap.size) s H _ := B
          refine x_iinc (lv' := [(3, .int (iI (((k : Int)) + 1))), (0, .ref a), (1, .ref b), (2, .ref w)]) hx hb d_Big_product_73 hl (q := 0) rfl rfl (by decide) rfl (fun ls hl => ?_)
          refine lv_goto (tgt := 58) hx hb d_Big_product_76 (by decide) ?_
          exact ih_L1 (k + 1) (up x k 0) (by omega) (by omega) (fun j hj => by
          by_cases hjk : j = k
          · rw [hjk, up_self]
          · rw [up_ne _ _ hjk]; exact hz j (by omega)) _ _ _ B (lv_sub hl [0, 1, 2, 3] rfl)
    exact L1 _ 0 la (Nat.lt_succ_self _) (by omega) (fun j hj => by omega) _ _ _ B (lv_sub hl [0, 1, 2, 3] rfl)
  refine lv_aload_n hx hb d_Big_product_13 rfl (lv_at hl 0 rfl) ?_
  refine lv_aload_n hx hb d_Big_product_14 rfl (lv_at hl 0 rfl) ?_
  refine x_get (C := RX0) (T := TX0) (N := 3) hx hb hts inX0 hown B hF 0 rfl rfl 0 (by decide) (hts _ w_38) (fun _ h9 => h9) rfl d_Big_product_15 ?_
  refine x_if_ne (tgt := 25) hx hb d_Big_product_18 (by decide) (by omega) (fun h18 => ?_) (fun h18 => ?_)
  · have hroom := pro_room hBb hBw (hz1 h18) hlt
    refine lv_aload_n hx hb d_Big_product_25 rfl (lv_at hl 1 rfl) ?_
    refine x_get (C := RX0) (T := TX0) (N := 3) hx hb hts inX0 hown B hF 2 rfl rfl 1 (by decide) (hts _ w_42) (fun _ h9 => h9) rfl d_Big_product_26 ?_
    refine lv_aload_n hx hb d_Big_product_29 rfl (lv_at hl 2 rfl) ?_
    refine x_get (C := RX0) (T := TX0) (N := 3) hx hb hts inX0 hown B hF 4 rfl rfl 1 (by decide) (hts _ w_42) (fun _ h9 => h9) rfl d_Big_product_30 ?_
    refine x_iadd hx hb d_Big_product_33 ?_
    refine x_bipush hx hb d_Big_product_34 (by decide) ?_
    refine x_icmp_ge (tgt := 51) hx hb d_Big_product_36 (by decide) (by omega) (by omega) (fun h36 => ?_) (fun h36 => ?_)
    · refine x_bipush hx hb d_Big_product_51 (by decide) ?_
      exact J1 48 (Or.inl (by omega)) (by omega) _ _ _ B (lv_sub hl [0, 1, 2] rfl)
    · refine lv_aload_n hx hb d_Big_product_39 rfl (lv_at hl 1 rfl) ?_
      refine x_get (C := RX0) (T := TX0) (N := 3) hx hb hts inX0 hown B hF 2 rfl rfl 1 (by decide) (hts _ w_42) (fun _ h9 => h9) rfl d_Big_product_40 ?_
      refine lv_aload_n hx hb d_Big_product_43 rfl (lv_at hl 2 rfl) ?_
      refine x_get (C := RX0) (T := TX0) (N := 3) hx hb hts inX0 hown B hF 4 rfl rfl 1 (by decide) (hts _ w_42) (fun _ h9 => h9) rfl d_Big_product_44 ?_
      refine x_iadd hx hb d_Big_product_47 ?_
      refine lv_goto (tgt := 53) hx hb d_Big_product_48 (by decide) ?_
      exact J1 (nb + nw) (Or.inl rfl) (by omega) _ _ _ B (lv_sub hl [0, 1, 2] rfl)
  · refine x_iconst hx hb d_Big_product_21 ?_
    refine lv_goto (tgt := 53) hx hb d_Big_product_22 (by decide) ?_
    exact J1 0 (Or.inr ⟨rfl, hz0 h18⟩) (by omega) _ _ _ B (lv_sub hl [0, 1, 2] rfl)
