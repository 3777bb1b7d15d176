theorem d_Mo_make_0 : decode prog_9_method_36_code 0 = .ok (.aload_n 0, 1) := by decide +kernel
theorem d_Mo_make_1 : decode prog_9_method_36_code 1 = .ok (.iconst 0, 1) := by decide +kernel
theorem d_Mo_make_2 : decode prog_9_method_36_code 2 = .ok (.putfield 51, 3) := by decide +kernel
theorem d_Mo_make_5 : decode prog_9_method_36_code 5 = .ok (.iload_n 1, 1) := by decide +kernel
theorem d_Mo_make_6 : decode prog_9_method_36_code 6 = .ok (.ifCond .eq 18, 3) := by decide +kernel
theorem d_Mo_make_9 : decode prog_9_method_36_code 9 = .ok (.iload_n 1, 1) := by decide +kernel
theorem d_Mo_make_10 : decode prog_9_method_36_code 10 = .ok (.iconst 1, 1) := by decide +kernel
theorem d_Mo_make_11 : decode prog_9_method_36_code 11 = .ok (.if_icmp .eq 13, 3) := by decide +kernel
theorem d_Mo_make_14 : decode prog_9_method_36_code 14 = .ok (.iload_n 1, 1) := by decide +kernel
theorem d_Mo_make_15 : decode prog_9_method_36_code 15 = .ok (.iconst 2, 1) := by decide +kernel
theorem d_Mo_make_16 : decode prog_9_method_36_code 16 = .ok (.if_icmp .eq 8, 3) := by decide +kernel
theorem d_Mo_make_19 : decode prog_9_method_36_code 19 = .ok (.iload_n 1, 1) := by decide +kernel
theorem d_Mo_make_20 : decode prog_9_method_36_code 20 = .ok (.iconst 4, 1) := by decide +kernel
theorem d_Mo_make_21 : decode prog_9_method_36_code 21 = .ok (.if_icmp .ne 7, 3) := by decide +kernel
theorem d_Mo_make_24 : decode prog_9_method_36_code 24 = .ok (.iconst 1, 1) := by decide +kernel
theorem d_Mo_make_25 : decode prog_9_method_36_code 25 = .ok (.goto 4, 3) := by decide +kernel
theorem d_Mo_make_28 : decode prog_9_method_36_code 28 = .ok (.iconst 0, 1) := by decide +kernel
theorem d_Mo_make_29 : decode prog_9_method_36_code 29 = .ok (.istore 4, 2) := by decide +kernel
theorem d_Mo_make_31 : decode prog_9_method_36_code 31 = .ok (.iload_n 1, 1) := by decide +kernel
theorem d_Mo_make_32 : decode prog_9_method_36_code 32 = .ok (.i2l, 1) := by decide +kernel
theorem d_Mo_make_33 : decode prog_9_method_36_code 33 = .ok (.lconst 0, 1) := by decide +kernel
theorem d_Mo_make_34 : decode prog_9_method_36_code 34 = .ok (.ldc2_w 156, 3) := by decide +kernel
theorem d_Mo_make_37 : decode prog_9_method_36_code 37 = .ok (.invokestatic 111, 3) := by decide +kernel
theorem d_Mo_make_40 : decode prog_9_method_36_code 40 = .ok (.ifCond .eq 24, 3) := by decide +kernel
theorem d_Mo_make_43 : decode prog_9_method_36_code 43 = .ok (.aload_n 0, 1) := by decide +kernel
theorem d_Mo_make_44 : decode prog_9_method_36_code 44 = .ok (.iload_n 2, 1) := by decide +kernel
theorem d_Mo_make_45 : decode prog_9_method_36_code 45 = .ok (.invokevirtual 115, 3) := by decide +kernel
theorem d_Mo_make_48 : decode prog_9_method_36_code 48 = .ok (.ifCond .eq 16, 3) := by decide +kernel
theorem d_Mo_make_51 : decode prog_9_method_36_code 51 = .ok (.iload 4, 2) := by decide +kernel
theorem d_Mo_make_53 : decode prog_9_method_36_code 53 = .ok (.ifCond .eq 13, 3) := by decide +kernel
theorem d_Mo_make_56 : decode prog_9_method_36_code 56 = .ok (.aload_n 0, 1) := by decide +kernel
theorem d_Mo_make_57 : decode prog_9_method_36_code 57 = .ok (.iload_n 3, 1) := by decide +kernel
theorem d_Mo_make_58 : decode prog_9_method_36_code 58 = .ok (.invokevirtual 115, 3) := by decide +kernel
theorem d_Mo_make_61 : decode prog_9_method_36_code 61 = .ok (.ifCond .ne 5, 3) := by decide +kernel
theorem d_Mo_make_64 : decode prog_9_method_36_code 64 = .ok (.iconst (-1), 1) := by decide +kernel
theorem d_Mo_make_65 : decode prog_9_method_36_code 65 = .ok (.ireturn, 1) := by decide +kernel
theorem d_Mo_make_66 : decode prog_9_method_36_code 66 = .ok (.iload_n 1, 1) := by decide +kernel
theorem d_Mo_make_67 : decode prog_9_method_36_code 67 = .ok (.bipush 6, 2) := by decide +kernel
theorem d_Mo_make_69 : decode prog_9_method_36_code 69 = .ok (.if_icmp .eq 9, 3) := by decide +kernel
theorem d_Mo_make_72 : decode prog_9_method_36_code 72 = .ok (.iload_n 1, 1) := by decide +kernel
theorem d_Mo_make_73 : decode prog_9_method_36_code 73 = .ok (.bipush 9, 2) := by decide +kernel
theorem d_Mo_make_75 : decode prog_9_method_36_code 75 = .ok (.if_icmp .ne 7, 3) := by decide +kernel
theorem d_Mo_make_78 : decode prog_9_method_36_code 78 = .ok (.iconst 1, 1) := by decide +kernel
theorem d_Mo_make_79 : decode prog_9_method_36_code 79 = .ok (.goto 4, 3) := by decide +kernel
theorem d_Mo_make_82 : decode prog_9_method_36_code 82 = .ok (.iconst 0, 1) := by decide +kernel
theorem d_Mo_make_83 : decode prog_9_method_36_code 83 = .ok (.istore 5, 2) := by decide +kernel
theorem d_Mo_make_85 : decode prog_9_method_36_code 85 = .ok (.iload 5, 2) := by decide +kernel
theorem d_Mo_make_87 : decode prog_9_method_36_code 87 = .ok (.ifCond .eq 20, 3) := by decide +kernel
theorem d_Mo_make_90 : decode prog_9_method_36_code 90 = .ok (.iload_n 3, 1) := by decide +kernel
theorem d_Mo_make_91 : decode prog_9_method_36_code 91 = .ok (.i2l, 1) := by decide +kernel
theorem d_Mo_make_92 : decode prog_9_method_36_code 92 = .ok (.ldc2_w 121, 3) := by decide +kernel
theorem d_Mo_make_95 : decode prog_9_method_36_code 95 = .ok (.ldc2_w 123, 3) := by decide +kernel
theorem d_Mo_make_98 : decode prog_9_method_36_code 98 = .ok (.invokestatic 111, 3) := by decide +kernel
theorem d_Mo_make_101 : decode prog_9_method_36_code 101 = .ok (.ifCond .ne 6, 3) := by decide +kernel
theorem d_Mo_make_104 : decode prog_9_method_36_code 104 = .ok (.bipush (-2), 2) := by decide +kernel
theorem d_Mo_make_106 : decode prog_9_method_36_code 106 = .ok (.ireturn, 1) := by decide +kernel
theorem d_Mo_make_107 : decode prog_9_method_36_code 107 = .ok (.aload_n 0, 1) := by decide +kernel
theorem d_Mo_make_108 : decode prog_9_method_36_code 108 = .ok (.iload_n 2, 1) := by decide +kernel
theorem d_Mo_make_109 : decode prog_9_method_36_code 109 = .ok (.invokevirtual 125, 3) := by decide +kernel
theorem d_Mo_make_112 : decode prog_9_method_36_code 112 = .ok (.istore 6, 2) := by decide +kernel
theorem d_Mo_make_114 : decode prog_9_method_36_code 114 = .ok (.iload_n 1, 1) := by decide +kernel
theorem d_Mo_make_115 : decode prog_9_method_36_code 115 = .ok (.iconst 5, 1) := by decide +kernel
theorem d_Mo_make_116 : decode prog_9_method_36_code 116 = .ok (.if_icmp .eq 9, 3) := by decide +kernel
theorem d_Mo_make_119 : decode prog_9_method_36_code 119 = .ok (.iload_n 1, 1) := by decide +kernel
theorem d_Mo_make_120 : decode prog_9_method_36_code 120 = .ok (.bipush 8, 2) := by decide +kernel
theorem d_Mo_make_122 : decode prog_9_method_36_code 122 = .ok (.if_icmp .ne 11, 3) := by decide +kernel
theorem d_Mo_make_125 : decode prog_9_method_36_code 125 = .ok (.iload 6, 2) := by decide +kernel
theorem d_Mo_make_127 : decode prog_9_method_36_code 127 = .ok (.ifCond .ge 6, 3) := by decide +kernel
theorem d_Mo_make_130 : decode prog_9_method_36_code 130 = .ok (.bipush (-3), 2) := by decide +kernel
theorem d_Mo_make_132 : decode prog_9_method_36_code 132 = .ok (.ireturn, 1) := by decide +kernel
theorem d_Mo_make_133 : decode prog_9_method_36_code 133 = .ok (.iconst 0, 1) := by decide +kernel
theorem d_Mo_make_134 : decode prog_9_method_36_code 134 = .ok (.istore 7, 2) := by decide +kernel
theorem d_Mo_make_136 : decode prog_9_method_36_code 136 = .ok (.iload 7, 2) := by decide +kernel
theorem d_Mo_make_138 : decode prog_9_method_36_code 138 = .ok (.bipush 12, 2) := by decide +kernel
theorem d_Mo_make_140 : decode prog_9_method_36_code 140 = .ok (.if_icmp .ge 17, 3) := by decide +kernel
theorem d_Mo_make_143 : decode prog_9_method_36_code 143 = .ok (.aload_n 0, 1) := by decide +kernel
theorem d_Mo_make_144 : decode prog_9_method_36_code 144 = .ok (.getfield 26, 3) := by decide +kernel
theorem d_Mo_make_147 : decode prog_9_method_36_code 147 = .ok (.iload 7, 2) := by decide +kernel
theorem d_Mo_make_149 : decode prog_9_method_36_code 149 = .ok (.lconst 0, 1) := by decide +kernel
theorem d_Mo_make_150 : decode prog_9_method_36_code 150 = .ok (.lastore, 1) := by decide +kernel
theorem d_Mo_make_151 : decode prog_9_method_36_code 151 = .ok (.iinc 7 1, 3) := by decide +kernel
theorem d_Mo_make_154 : decode prog_9_method_36_code 154 = .ok (.goto (-18), 3) := by decide +kernel
theorem d_Mo_make_157 : decode prog_9_method_36_code 157 = .ok (.aload_n 0, 1) := by decide +kernel
theorem d_Mo_make_158 : decode prog_9_method_36_code 158 = .ok (.iload_n 1, 1) := by decide +kernel
theorem d_Mo_make_159 : decode prog_9_method_36_code 159 = .ok (.iload_n 2, 1) := by decide +kernel
theorem d_Mo_make_160 : decode prog_9_method_36_code 160 = .ok (.iload_n 3, 1) := by decide +kernel
theorem d_Mo_make_161 : decode prog_9_method_36_code 161 = .ok (.iload 6, 2) := by decide +kernel
theorem d_Mo_make_163 : decode prog_9_method_36_code 163 = .ok (.invokevirtual 158, 3) := by decide +kernel
theorem d_Mo_make_166 : decode prog_9_method_36_code 166 = .ok (.ifCond .eq 12, 3) := by decide +kernel
theorem d_Mo_make_169 : decode prog_9_method_36_code 169 = .ok (.aload_n 0, 1) := by decide +kernel
theorem d_Mo_make_170 : decode prog_9_method_36_code 170 = .ok (.getfield 108, 3) := by decide +kernel
theorem d_Mo_make_173 : decode prog_9_method_36_code 173 = .ok (.bipush 12, 2) := by decide +kernel
theorem d_Mo_make_175 : decode prog_9_method_36_code 175 = .ok (.if_icmp .ne 6, 3) := by decide +kernel
theorem d_Mo_make_178 : decode prog_9_method_36_code 178 = .ok (.bipush (-4), 2) := by decide +kernel
theorem d_Mo_make_180 : decode prog_9_method_36_code 180 = .ok (.ireturn, 1) := by decide +kernel
theorem d_Mo_make_181 : decode prog_9_method_36_code 181 = .ok (.iconst 0, 1) := by decide +kernel
theorem d_Mo_make_182 : decode prog_9_method_36_code 182 = .ok (.istore 7, 2) := by decide +kernel
theorem d_Mo_make_184 : decode prog_9_method_36_code 184 = .ok (.iload 7, 2) := by decide +kernel
theorem d_Mo_make_186 : decode prog_9_method_36_code 186 = .ok (.bipush 12, 2) := by decide +kernel
theorem d_Mo_make_188 : decode prog_9_method_36_code 188 = .ok (.if_icmp .ge 49, 3) := by decide +kernel
theorem d_Mo_make_191 : decode prog_9_method_36_code 191 = .ok (.aload_n 0, 1) := by decide +kernel
theorem d_Mo_make_192 : decode prog_9_method_36_code 192 = .ok (.getfield 26, 3) := by decide +kernel
theorem d_Mo_make_195 : decode prog_9_method_36_code 195 = .ok (.iload 7, 2) := by decide +kernel
theorem d_Mo_make_197 : decode prog_9_method_36_code 197 = .ok (.laload, 1) := by decide +kernel
theorem d_Mo_make_198 : decode prog_9_method_36_code 198 = .ok (.ldc2_w 121, 3) := by decide +kernel
theorem d_Mo_make_201 : decode prog_9_method_36_code 201 = .ok (.ldc2_w 123, 3) := by decide +kernel
theorem d_Mo_make_204 : decode prog_9_method_36_code 204 = .ok (.invokestatic 111, 3) := by decide +kernel
theorem d_Mo_make_207 : decode prog_9_method_36_code 207 = .ok (.ifCond .eq 21, 3) := by decide +kernel
theorem d_Mo_make_210 : decode prog_9_method_36_code 210 = .ok (.iload 7, 2) := by decide +kernel
theorem d_Mo_make_212 : decode prog_9_method_36_code 212 = .ok (.iconst 5, 1) := by decide +kernel
theorem d_Mo_make_213 : decode prog_9_method_36_code 213 = .ok (.if_icmp .le 18, 3) := by decide +kernel
theorem d_Mo_make_216 : decode prog_9_method_36_code 216 = .ok (.aload_n 0, 1) := by decide +kernel
theorem d_Mo_make_217 : decode prog_9_method_36_code 217 = .ok (.getfield 26, 3) := by decide +kernel
theorem d_Mo_make_220 : decode prog_9_method_36_code 220 = .ok (.iload 7, 2) := by decide +kernel
theorem d_Mo_make_222 : decode prog_9_method_36_code 222 = .ok (.laload, 1) := by decide +kernel
theorem d_Mo_make_223 : decode prog_9_method_36_code 223 = .ok (.lconst 0, 1) := by decide +kernel
theorem d_Mo_make_224 : decode prog_9_method_36_code 224 = .ok (.lcmp, 1) := by decide +kernel
theorem d_Mo_make_225 : decode prog_9_method_36_code 225 = .ok (.ifCond .eq 6, 3) := by decide +kernel
theorem d_Mo_make_228 : decode prog_9_method_36_code 228 = .ok (.bipush (-4), 2) := by decide +kernel
theorem d_Mo_make_230 : decode prog_9_method_36_code 230 = .ok (.ireturn, 1) := by decide +kernel
theorem d_Mo_make_231 : decode prog_9_method_36_code 231 = .ok (.iinc 7 1, 3) := by decide +kernel
theorem d_Mo_make_234 : decode prog_9_method_36_code 234 = .ok (.goto (-50), 3) := by decide +kernel
theorem d_Mo_make_237 : decode prog_9_method_36_code 237 = .ok (.aload_n 0, 1) := by decide +kernel
theorem d_Mo_make_238 : decode prog_9_method_36_code 238 = .ok (.invokevirtual 162, 3) := by decide +kernel
theorem d_Mo_make_241 : decode prog_9_method_36_code 241 = .ok (.istore 7, 2) := by decide +kernel
theorem d_Mo_make_243 : decode prog_9_method_36_code 243 = .ok (.iconst 0, 1) := by decide +kernel
theorem d_Mo_make_244 : decode prog_9_method_36_code 244 = .ok (.istore 8, 2) := by decide +kernel
theorem d_Mo_make_246 : decode prog_9_method_36_code 246 = .ok (.iload 8, 2) := by decide +kernel
theorem d_Mo_make_248 : decode prog_9_method_36_code 248 = .ok (.bipush 6, 2) := by decide +kernel
theorem d_Mo_make_250 : decode prog_9_method_36_code 250 = .ok (.if_icmp .ge 30, 3) := by decide +kernel
theorem d_Mo_make_253 : decode prog_9_method_36_code 253 = .ok (.aload_n 0, 1) := by decide +kernel
theorem d_Mo_make_254 : decode prog_9_method_36_code 254 = .ok (.getfield 19, 3) := by decide +kernel
theorem d_Mo_make_257 : decode prog_9_method_36_code 257 = .ok (.bipush 6, 2) := by decide +kernel
theorem d_Mo_make_259 : decode prog_9_method_36_code 259 = .ok (.iload 7, 2) := by decide +kernel
theorem d_Mo_make_261 : decode prog_9_method_36_code 261 = .ok (.imul, 1) := by decide +kernel
theorem d_Mo_make_262 : decode prog_9_method_36_code 262 = .ok (.iload 8, 2) := by decide +kernel
theorem d_Mo_make_264 : decode prog_9_method_36_code 264 = .ok (.iadd, 1) := by decide +kernel
theorem d_Mo_make_265 : decode prog_9_method_36_code 265 = .ok (.aload_n 0, 1) := by decide +kernel
theorem d_Mo_make_266 : decode prog_9_method_36_code 266 = .ok (.getfield 26, 3) := by decide +kernel
theorem d_Mo_make_269 : decode prog_9_method_36_code 269 = .ok (.iload 8, 2) := by decide +kernel
theorem d_Mo_make_271 : decode prog_9_method_36_code 271 = .ok (.laload, 1) := by decide +kernel
theorem d_Mo_make_272 : decode prog_9_method_36_code 272 = .ok (.l2i, 1) := by decide +kernel
theorem d_Mo_make_273 : decode prog_9_method_36_code 273 = .ok (.iastore, 1) := by decide +kernel
theorem d_Mo_make_274 : decode prog_9_method_36_code 274 = .ok (.iinc 8 1, 3) := by decide +kernel
theorem d_Mo_make_277 : decode prog_9_method_36_code 277 = .ok (.goto (-31), 3) := by decide +kernel
theorem d_Mo_make_280 : decode prog_9_method_36_code 280 = .ok (.iload 7, 2) := by decide +kernel
theorem d_Mo_make_282 : decode prog_9_method_36_code 282 = .ok (.ireturn, 1) := by decide +kernel
set_option maxHeartbeats 8000000 in
set_option maxRecDepth 100000 in
theorem c_Mo_make_u (l : Launch) (D : va_G) (cs : Nat → ClassId) (L : List Nat) (f : Nat → va_E) (sz : Nat) (y m1 m2 m3 m5 m6 m7 m8 m9 m10 m11 m12 m13 m15 : Nat) (th pn rw_ fu fb : Int) (a1 a2 a3 : Int) (hF : Fc L [y]) (ha : f y = .inr (7, [.int (iI th), .ref m1, .ref m2, .ref m3, .int (iI pn), .ref m5, .ref m6, .ref m7, .ref m8, .ref m9, .ref m10, .ref m11, .ref m12, .ref m13, .int (iI rw_), .ref m15, .long (lI fu), .long (lI fb)])) (hpn : 0 ≤ pn ∧ pn ≤ 12) (ha1 : -2147483648 ≤ a1 ∧ a1 < 2147483648) (ha2 : -2147483648 ≤ a2 ∧ a2 < 2147483648) (ha3 : -2147483648 ≤ a3 ∧ a3 < 2147483648) (hun : a2 < 0 ∨ pn ≤ a2) : Met l (⟨"RealRootsModel", "make", "(III)I"⟩ : MethodName) (.code (⟨"RealRootsModel", "make", "(III)I"⟩ : MethodName) prog_9_method_36_code 9 (Option.some Jvm.ClassFile.FieldType.int) :: gw) ({ frames := 2, cells := 0, slots := 0, locals := 55 }) (va_Pc [.ref y, .int (iI a1), .int (iI a2), .int (iI a3)] (K0 D vwCl (TY cs) L f sz)) (va_Qi (fun (r : Int32) (g : Nat → va_E) => r = iI (-1) ∧ g = mw f [(y, .inr (7, [.int (iI 0), .ref m1, .ref m2, .ref m3, .int (iI pn), .ref m5, .ref m6, .ref m7, .ref m8, .ref m9, .ref m10, .ref m11, .ref m12, .ref m13, .int (iI rw_), .ref m15, .long (lI fu), .long (lI fb)]))]) (K1 D vwCl (TY cs) (AL L sz) L) (AL L sz)) 0 0 (AL L sz) := by
  refine Met.ofW (cc := prog_9_method_36_code) (maxL := 9) (ret := (Option.some Jvm.ClassFile.FieldType.int)) (by decide) rfl ?_
  intro p e s m args below meth c s₁ Bd hml hv
  obtain ⟨rfl, hk0⟩ := hv
  obtain ⟨hsz, B⟩ := hk0.start
  subst hsz
  have hx := Bd.exec
  have hb := Bd.bytes
  have hr := Bd.returns
  have hlocks := Bd.notSynchronized
  have hts0 := atoms_spec Bd.pre
  have hown : s.vm.findClass RX7 = some m.cls := findClass_of_methodNamed Bd.named
  have hA : ∀ q, s.heap.size ≤ q → AL L s.heap.size q := fun _ h => Or.inr h
  have hl := lv_entry ([.ref y, .int (iI a1), .int (iI a2), .int (iI a3)]) (n := 9) (Nat.le_of_ble_eq_true rfl)
  rw [lg_entry_eq]
  generalize (lg_sl ([.ref y, .int (iI a1), .int (iI a2), .int (iI a3)]) ++ List.replicate (9 - (lg_sl ([.ref y, .int (iI a1), .int (iI a2), .int (iI a3)])).length) Slot.unset).toArray = ls at hl ⊢
  refine absQ (fun Q R av hQ hR hav => ?_)
  have hts : ∀ w ∈ gw, w.before av s = true := by rw [hav]; exact fun w h => hts0 w (List.mem_cons_of_mem _ h)
  have hRf : R.frames = 2 := by rw [hR]; rfl
  have hRl : R.locals = 55 := by rw [hR]; rfl
  have hRc : R.cells = 0 := by rw [hR]; rfl
  have hRs : R.slots = 0 := by rw [hR]; rfl
  clear hR hts0 Bd
  have hl : lv_has ls 9 [(0, .ref y), (1, .int (iI a1)), (2, .int (iI a2)), (3, .int (iI a3))] := hl
  have hfx : ∀ q ∈ ([(y, .inr (7, [.int (iI th), .ref m1, .ref m2, .ref m3, .int (iI pn), .ref m5, .ref m6, .ref m7, .ref m8, .ref m9, .ref m10, .ref m11, .ref m12, .ref m13, .int (iI rw_), .ref m15, .long (lI fu), .long (lI fb)]))] : List (Nat × va_E)), f q.1 = q.2 := fun q hq => by
    simp only [List.mem_cons, List.not_mem_nil, or_false] at hq
    rcases hq with rfl
    · exact ha
  have hmw : mw f [(y, .inr (7, [.int (iI th), .ref m1, .ref m2, .ref m3, .int (iI pn), .ref m5, .ref m6, .ref m7, .ref m8, .ref m9, .ref m10, .ref m11, .ref m12, .ref m13, .int (iI rw_), .ref m15, .long (lI fu), .long (lI fb)]))] = f := mw_self (fun k a e hk => hfx (a, e) (List.mem_of_getElem? hk))
  have B := B.focus [(y, .inr (7, [.int (iI th), .ref m1, .ref m2, .ref m3, .int (iI pn), .ref m5, .ref m6, .ref m7, .ref m8, .ref m9, .ref m10, .ref m11, .ref m12, .ref m13, .int (iI rw_), .ref m15, .long (lI fu), .long (lI fb)]))] hfx
  refine lv_aload_n hx hb d_Mo_make_0 rfl (lv_at hl 0 rfl) ?_
  refine x_iconst hx hb d_Mo_make_1 ?_
  refine x_put (C := RX7) (T := TX7) (N := 18) hx hb hts inX7 tyX7 tyX7_ok nmX7 hown B hF 0 rfl rfl 0 (by decide) (hts _ w_677) (fun _ h9 => h9) rfl (tyX7_ok 0 (by decide)) rfl rfl (Nat.le_of_ble_eq_true rfl) d_Mo_make_2 (fun H locs B => ?_)
  have B : Wb D vwCl (TY cs) L (mw f [(y, .inr (7, [.int (iI 0), .ref m1, .ref m2, .ref m3, .int (iI pn), .ref m5, .ref m6, .ref m7, .ref m8, .ref m9, .ref m10, .ref m11, .ref m12, .ref m13, .int (iI rw_), .ref m15, .long (lI fu), .long (lI fb)]))]) (AL L s.heap.size) s H _ := B
  refine lv_iload_n hx hb d_Mo_make_5 rfl (lv_at hl 1 rfl) ?_
  refine x_if_eq (tgt := 24) hx hb d_Mo_make_6 (by decide) (by omega) (fun h6 => ?_) (fun h6 => ?_)
  · refine x_iconst hx hb d_Mo_make_24 ?_
    refine lv_goto (tgt := 29) hx hb d_Mo_make_25 (by decide) ?_
    refine lv_istore (lv' := [(4, .int (iI 1)), (0, .ref y), (1, .int (iI a1)), (2, .int (iI a2)), (3, .int (iI a3))]) hx hb d_Mo_make_29 hl (by decide) rfl (fun ls hl => ?_)
    refine lv_iload_n hx hb d_Mo_make_31 rfl (lv_at hl 2 rfl) ?_
    refine x_i2l hx hb d_Mo_make_32 (by omega) ?_
    refine x_lconst (z := 0) hx hb d_Mo_make_33 (by decide) ?_
    refine x_ldc2 (z := 9) hx hb hown (hts _ w_775) (by decide) d_Mo_make_34 ?_
    refine x_calli B hA (va_runS (As := [.long (lI a1), .long (lI 0), .long (lI 9)]) (rest := []) ⟨hx, hb, hml, hown, hts⟩ (c_Mo_in l D cs _ _ _ a1 0 9 (by omega) (by omega) (by omega)) (va_cwS 3 hts (gw_S w_749 w_750 w_8 w_751) rfl rfl rfl (by decide +kernel) ⟨by rw [hRf]; exact Nat.le_of_ble_eq_true rfl, by rw [hRl]; exact Nat.le_of_ble_eq_true rfl⟩) ⟨K0.blind, B.pre _⟩ rfl rfl hl.1 rfl (lv_room (Nat.le_of_ble_eq_true rfl)) d_Mo_make_37 ⟨by rw [hRc]; omega, by rw [hRs]; omega⟩) (fun r37 g37 H locs hw B => ?_)
    obtain ⟨rfl, rfl⟩ := hw
    have B : Wb D vwCl (TY cs) L (mw f [(y, .inr (7, [.int (iI 0), .ref m1, .ref m2, .ref m3, .int (iI pn), .ref m5, .ref m6, .ref m7, .ref m8, .ref m9, .ref m10, .ref m11, .ref m12, .ref m13, .int (iI rw_), .ref m15, .long (lI fu), .long (lI fb)]))]) (AL L s.heap.size) s H _ := B
    refine x_if_eq (tgt := 64) hx hb d_Mo_make_40 (by decide) (by split <;> omega) (fun h40 => ?_) (fun h40 => ?_)
    · refine x_iconst hx hb d_Mo_make_64 ?_
      subst hQ hav
      exact x_iret hx hb hr hlocks B d_Mo_make_65 (⟨rfl, rfl⟩)
    · refine lv_aload_n hx hb d_Mo_make_43 rfl (lv_at hl 1 rfl) ?_
      refine lv_iload_n hx hb d_Mo_make_44 rfl (lv_at hl 3 rfl) ?_
      refine x_calli B hA (va_runV (As := [.int (iI a2)]) (rest := []) ⟨hx, hb, hml, hown, hts⟩ (c_Mo_is_f l D cs _ _ _ y m1 m2 m3 m5 m6 m7 m8 m9 m10 m11 m12 m13 m15 0 pn rw_ fu fb a2 hF (mw_get (X := [(y, .inr (7, [.int (iI 0), .ref m1, .ref m2, .ref m3, .int (iI pn), .ref m5, .ref m6, .ref m7, .ref m8, .ref m9, .ref m10, .ref m11, .ref m12, .ref m13, .int (iI rw_), .ref m15, .long (lI fu), .long (lI fb)]))]) hF.1 (k := 0) rfl) hpn (by omega) (by omega)) (cwV 1 hts (gw_V w_745 w_747 s_29 w_8 w_748) rfl rfl rfl (by decide +kernel) ⟨by rw [hRf]; exact Nat.le_of_ble_eq_true rfl, by rw [hRl]; exact Nat.le_of_ble_eq_true rfl⟩) ⟨K0.blind, B.recv (hF.2 _ (mw_key (k := 0) (X := [(y, .inr (7, [.int (iI 0), .ref m1, .ref m2, .ref m3, .int (iI pn), .ref m5, .ref m6, .ref m7, .ref m8, .ref m9, .ref m10, .ref m11, .ref m12, .ref m13, .int (iI rw_), .ref m15, .long (lI fu), .long (lI fb)]))]) rfl)) (mw_get (X := [(y, .inr (7, [.int (iI 0), .ref m1, .ref m2, .ref m3, .int (iI pn), .ref m5, .ref m6, .ref m7, .ref m8, .ref m9, .ref m10, .ref m11, .ref m12, .ref m13, .int (iI rw_), .ref m15, .long (lI fu), .long (lI fb)]))]) hF.1 (k := 0) rfl) rfl, B.pre _⟩ rfl rfl hl.1 rfl (lv_room (Nat.le_of_ble_eq_true rfl)) d_Mo_make_45 ⟨by rw [hRc]; omega, by rw [hRs]; omega⟩) (fun r45 g45 H locs hw B => ?_)
      obtain ⟨rfl, rfl⟩ := hw
      have B : Wb D vwCl (TY cs) L (mw f [(y, .inr (7, [.int (iI 0), .ref m1, .ref m2, .ref m3, .int (iI pn), .ref m5, .ref m6, .ref m7, .ref m8, .ref m9, .ref m10, .ref m11, .ref m12, .ref m13, .int (iI rw_), .ref m15, .long (lI fu), .long (lI fb)]))]) (AL L s.heap.size) s H _ := B
      refine x_if_eq (tgt := 64) hx hb d_Mo_make_48 (by decide) (by omega) (fun h48 => ?_) (fun h48 => ?_)
      · refine x_iconst hx hb d_Mo_make_64 ?_
        subst hQ hav
        exact x_iret hx hb hr hlocks B d_Mo_make_65 (⟨rfl, rfl⟩)
      · exfalso; omega
  · refine lv_iload_n hx hb d_Mo_make_9 rfl (lv_at hl 1 rfl) ?_
    refine x_iconst hx hb d_Mo_make_10 ?_
    refine x_icmp_eq (tgt := 24) hx hb d_Mo_make_11 (by decide) (by omega) (by omega) (fun h11 => ?_) (fun h11 => ?_)
    · refine x_iconst hx hb d_Mo_make_24 ?_
      refine lv_goto (tgt := 29) hx hb d_Mo_make_25 (by decide) ?_
      refine lv_istore (lv' := [(4, .int (iI 1)), (0, .ref y), (1, .int (iI a1)), (2, .int (iI a2)), (3, .int (iI a3))]) hx hb d_Mo_make_29 hl (by decide) rfl (fun ls hl => ?_)
      refine lv_iload_n hx hb d_Mo_make_31 rfl (lv_at hl 2 rfl) ?_
      refine x_i2l hx hb d_Mo_make_32 (by omega) ?_
      refine x_lconst (z := 0) hx hb d_Mo_make_33 (by decide) ?_
      refine x_ldc2 (z := 9) hx hb hown (hts _ w_775) (by decide) d_Mo_make_34 ?_
      refine x_calli B hA (va_runS (As := [.long (lI a1), .long (lI 0), .long (lI 9)]) (rest := []) ⟨hx, hb, hml, hown, hts⟩ (c_Mo_in l D cs _ _ _ a1 0 9 (by omega) (by omega) (by omega)) (va_cwS 3 hts (gw_S w_749 w_750 w_8 w_751) rfl rfl rfl (by decide +kernel) ⟨by rw [hRf]; exact Nat.le_of_ble_eq_true rfl, by rw [hRl]; exact Nat.le_of_ble_eq_true rfl⟩) ⟨K0.blind, B.pre _⟩ rfl rfl hl.1 rfl (lv_room (Nat.le_of_ble_eq_true rfl)) d_Mo_make_37 ⟨by rw [hRc]; omega, by rw [hRs]; omega⟩) (fun r37 g37 H locs hw B => ?_)
      obtain ⟨rfl, rfl⟩ := hw
      have B : Wb D vwCl (TY cs) L (mw f [(y, .inr (7, [.int (iI 0), .ref m1, .ref m2, .ref m3, .int (iI pn), .ref m5, .ref m6, .ref m7, .ref m8, .ref m9, .ref m10, .ref m11, .ref m12, .ref m13, .int (iI rw_), .ref m15, .long (lI fu), .long (lI fb)]))]) (AL L s.heap.size) s H _ := B
      refine x_if_eq (tgt := 64) hx hb d_Mo_make_40 (by decide) (by split <;> omega) (fun h40 => ?_) (fun h40 => ?_)
      · refine x_iconst hx hb d_Mo_make_64 ?_
        subst hQ hav
        exact x_iret hx hb hr hlocks B d_Mo_make_65 (⟨rfl, rfl⟩)
      · refine lv_aload_n hx hb d_Mo_make_43 rfl (lv_at hl 1 rfl) ?_
        refine lv_iload_n hx hb d_Mo_make_44 rfl (lv_at hl 3 rfl) ?_
        refine x_calli B hA (va_runV (As := [.int (iI a2)]) (rest := []) ⟨hx, hb, hml, hown, hts⟩ (c_Mo_is_f l D cs _ _ _ y m1 m2 m3 m5 m6 m7 m8 m9 m10 m11 m12 m13 m15 0 pn rw_ fu fb a2 hF (mw_get (X := [(y, .inr (7, [.int (iI 0), .ref m1, .ref m2, .ref m3, .int (iI pn), .ref m5, .ref m6, .ref m7, .ref m8, .ref m9, .ref m10, .ref m11, .ref m12, .ref m13, .int (iI rw_), .ref m15, .long (lI fu), .long (lI fb)]))]) hF.1 (k := 0) rfl) hpn (by omega) (by omega)) (cwV 1 hts (gw_V w_745 w_747 s_29 w_8 w_748) rfl rfl rfl (by decide +kernel) ⟨by rw [hRf]; exact Nat.le_of_ble_eq_true rfl, by rw [hRl]; exact Nat.le_of_ble_eq_true rfl⟩) ⟨K0.blind, B.recv (hF.2 _ (mw_key (k := 0) (X := [(y, .inr (7, [.int (iI 0), .ref m1, .ref m2, .ref m3, .int (iI pn), .ref m5, .ref m6, .ref m7, .ref m8, .ref m9, .ref m10, .ref m11, .ref m12, .ref m13, .int (iI rw_), .ref m15, .long (lI fu), .long (lI fb)]))]) rfl)) (mw_get (X := [(y, .inr (7, [.int (iI 0), .ref m1, .ref m2, .ref m3, .int (iI pn), .ref m5, .ref m6, .ref m7, .ref m8, .ref m9, .ref m10, .ref m11, .ref m12, .ref m13, .int (iI rw_), .ref m15, .long (lI fu), .long (lI fb)]))]) hF.1 (k := 0) rfl) rfl, B.pre _⟩ rfl rfl hl.1 rfl (lv_room (Nat.le_of_ble_eq_true rfl)) d_Mo_make_45 ⟨by rw [hRc]; omega, by rw [hRs]; omega⟩) (fun r45 g45 H locs hw B => ?_)
        obtain ⟨rfl, rfl⟩ := hw
        have B : Wb D vwCl (TY cs) L (mw f [(y, .inr (7, [.int (iI 0), .ref m1, .ref m2, .ref m3, .int (iI pn), .ref m5, .ref m6, .ref m7, .ref m8, .ref m9, .ref m10, .ref m11, .ref m12, .ref m13, .int (iI rw_), .ref m15, .long (lI fu), .long (lI fb)]))]) (AL L s.heap.size) s H _ := B
        refine x_if_eq (tgt := 64) hx hb d_Mo_make_48 (by decide) (by omega) (fun h48 => ?_) (fun h48 => ?_)
        · refine x_iconst hx hb d_Mo_make_64 ?_
          subst hQ hav
          exact x_iret hx hb hr hlocks B d_Mo_make_65 (⟨rfl, rfl⟩)
        · exfalso; omega
    · refine lv_iload_n hx hb d_Mo_make_14 rfl (lv_at hl 1 rfl) ?_
      refine x_iconst hx hb d_Mo_make_15 ?_
      refine x_icmp_eq (tgt := 24) hx hb d_Mo_make_16 (by decide) (by omega) (by omega) (fun h16 => ?_) (fun h16 => ?_)
      · refine x_iconst hx hb d_Mo_make_24 ?_
        refine lv_goto (tgt := 29) hx hb d_Mo_make_25 (by decide) ?_
        refine lv_istore (lv' := [(4, .int (iI 1)), (0, .ref y), (1, .int (iI a1)), (2, .int (iI a2)), (3, .int (iI a3))]) hx hb d_Mo_make_29 hl (by decide) rfl (fun ls hl => ?_)
        refine lv_iload_n hx hb d_Mo_make_31 rfl (lv_at hl 2 rfl) ?_
        refine x_i2l hx hb d_Mo_make_32 (by omega) ?_
        refine x_lconst (z := 0) hx hb d_Mo_make_33 (by decide) ?_
        refine x_ldc2 (z := 9) hx hb hown (hts _ w_775) (by decide) d_Mo_make_34 ?_
        refine x_calli B hA (va_runS (As := [.long (lI a1), .long (lI 0), .long (lI 9)]) (rest := []) ⟨hx, hb, hml, hown, hts⟩ (c_Mo_in l D cs _ _ _ a1 0 9 (by omega) (by omega) (by omega)) (va_cwS 3 hts (gw_S w_749 w_750 w_8 w_751) rfl rfl rfl (by decide +kernel) ⟨by rw [hRf]; exact Nat.le_of_ble_eq_true rfl, by rw [hRl]; exact Nat.le_of_ble_eq_true rfl⟩) ⟨K0.blind, B.pre _⟩ rfl rfl hl.1 rfl (lv_room (Nat.le_of_ble_eq_true rfl)) d_Mo_make_37 ⟨by rw [hRc]; omega, by rw [hRs]; omega⟩) (fun r37 g37 H locs hw B => ?_)
        obtain ⟨rfl, rfl⟩ := hw
        have B : Wb D vwCl (TY cs) L (mw f [(y, .inr (7, [.int (iI 0), .ref m1, .ref m2, .ref m3, .int (iI pn), .ref m5, .ref m6, .ref m7, .ref m8, .ref m9, .ref m10, .ref m11, .ref m12, .ref m13, .int (iI rw_), .ref m15, .long (lI fu), .long (lI fb)]))]) (AL L s.heap.size) s H _ := B
        refine x_if_eq (tgt := 64) hx hb d_Mo_make_40 (by decide) (by split <;> omega) (fun h40 => ?_) (fun h40 => ?_)
        · refine x_iconst hx hb d_Mo_make_64 ?_
          subst hQ hav
          exact x_iret hx hb hr hlocks B d_Mo_make_65 (⟨rfl, rfl⟩)
        · refine lv_aload_n hx hb d_Mo_make_43 rfl (lv_at hl 1 rfl) ?_
          refine lv_iload_n hx hb d_Mo_make_44 rfl (lv_at hl 3 rfl) ?_
          refine x_calli B hA (va_runV (As := [.int (iI a2)]) (rest := []) ⟨hx, hb, hml, hown, hts⟩ (c_Mo_is_f l D cs _ _ _ y m1 m2 m3 m5 m6 m7 m8 m9 m10 m11 m12 m13 m15 0 pn rw_ fu fb a2 hF (mw_get (X := [(y, .inr (7, [.int (iI 0), .ref m1, .ref m2, .ref m3, .int (iI pn), .ref m5, .ref m6, .ref m7, .ref m8, .ref m9, .ref m10, .ref m11, .ref m12, .ref m13, .int (iI rw_), .ref m15, .long (lI fu), .long (lI fb)]))]) hF.1 (k := 0) rfl) hpn (by omega) (by omega)) (cwV 1 hts (gw_V w_745 w_747 s_29 w_8 w_748) rfl rfl rfl (by decide +kernel) ⟨by rw [hRf]; exact Nat.le_of_ble_eq_true rfl, by rw [hRl]; exact Nat.le_of_ble_eq_true rfl⟩) ⟨K0.blind, B.recv (hF.2 _ (mw_key (k := 0) (X := [(y, .inr (7, [.int (iI 0), .ref m1, .ref m2, .ref m3, .int (iI pn), .ref m5, .ref m6, .ref m7, .ref m8, .ref m9, .ref m10, .ref m11, .ref m12, .ref m13, .int (iI rw_), .ref m15, .long (lI fu), .long (lI fb)]))]) rfl)) (mw_get (X := [(y, .inr (7, [.int (iI 0), .ref m1, .ref m2, .ref m3, .int (iI pn), .ref m5, .ref m6, .ref m7, .ref m8, .ref m9, .ref m10, .ref m11, .ref m12, .ref m13, .int (iI rw_), .ref m15, .long (lI fu), .long (lI fb)]))]) hF.1 (k := 0) rfl) rfl, B.pre _⟩ rfl rfl hl.1 rfl (lv_room (Nat.le_of_ble_eq_true rfl)) d_Mo_make_45 ⟨by rw [hRc]; omega, by rw [hRs]; omega⟩) (fun r45 g45 H locs hw B => ?_)
          obtain ⟨rfl, rfl⟩ := hw
          have B : Wb D vwCl (TY cs) L (mw f [(y, .inr (7, [.int (iI 0), .ref m1, .ref m2, .ref m3, .int (iI pn), .ref m5, .ref m6, .ref m7, .ref m8, .ref m9, .ref m10, .ref m11, .ref m12, .ref m13, .int (iI rw_), .ref m15, .long (lI fu), .long (lI fb)]))]) (AL L s.heap.size) s H _ := B
          refine x_if_eq (tgt := 64) hx hb d_Mo_make_48 (by decide) (by omega) (fun h48 => ?_) (fun h48 => ?_)
          · refine x_iconst hx hb d_Mo_make_64 ?_
            subst hQ hav
            exact x_iret hx hb hr hlocks B d_Mo_make_65 (⟨rfl, rfl⟩)
          · exfalso; omega
      · refine lv_iload_n hx hb d_Mo_make_19 rfl (lv_at hl 1 rfl) ?_
        refine x_iconst hx hb d_Mo_make_20 ?_
        refine x_icmp_ne (tgt := 28) hx hb d_Mo_make_21 (by decide) (by omega) (by omega) (fun h21 => ?_) (fun h21 => ?_)
        · refine x_iconst hx hb d_Mo_make_28 ?_
          refine lv_istore (lv' := [(4, .int (iI 0)), (0, .ref y), (1, .int (iI a1)), (2, .int (iI a2)), (3, .int (iI a3))]) hx hb d_Mo_make_29 hl (by decide) rfl (fun ls hl => ?_)
          refine lv_iload_n hx hb d_Mo_make_31 rfl (lv_at hl 2 rfl) ?_
          refine x_i2l hx hb d_Mo_make_32 (by omega) ?_
          refine x_lconst (z := 0) hx hb d_Mo_make_33 (by decide) ?_
          refine x_ldc2 (z := 9) hx hb hown (hts _ w_775) (by decide) d_Mo_make_34 ?_
          refine x_calli B hA (va_runS (As := [.long (lI a1), .long (lI 0), .long (lI 9)]) (rest := []) ⟨hx, hb, hml, hown, hts⟩ (c_Mo_in l D cs _ _ _ a1 0 9 (by omega) (by omega) (by omega)) (va_cwS 3 hts (gw_S w_749 w_750 w_8 w_751) rfl rfl rfl (by decide +kernel) ⟨by rw [hRf]; exact Nat.le_of_ble_eq_true rfl, by rw [hRl]; exact Nat.le_of_ble_eq_true rfl⟩) ⟨K0.blind, B.pre _⟩ rfl rfl hl.1 rfl (lv_room (Nat.le_of_ble_eq_true rfl)) d_Mo_make_37 ⟨by rw [hRc]; omega, by rw [hRs]; omega⟩) (fun r37 g37 H locs hw B => ?_)
          obtain ⟨rfl, rfl⟩ := hw
          have B : Wb D vwCl (TY cs) L (mw f [(y, .inr (7, [.int (iI 0), .ref m1, .ref m2, .ref m3, .int (iI pn), .ref m5, .ref m6, .ref m7, .ref m8, .ref m9, .ref m10, .ref m11, .ref m12, .ref m13, .int (iI rw_), .ref m15, .long (lI fu), .long (lI fb)]))]) (AL L s.heap.size) s H _ := B
          refine x_if_eq (tgt := 64) hx hb d_Mo_make_40 (by decide) (by split <;> omega) (fun h40 => ?_) (fun h40 => ?_)
          · refine x_iconst hx hb d_Mo_make_64 ?_
            subst hQ hav
            exact x_iret hx hb hr hlocks B d_Mo_make_65 (⟨rfl, rfl⟩)
          · refine lv_aload_n hx hb d_Mo_make_43 rfl (lv_at hl 1 rfl) ?_
            refine lv_iload_n hx hb d_Mo_make_44 rfl (lv_at hl 3 rfl) ?_
            refine x_calli B hA (va_runV (As := [.int (iI a2)]) (rest := []) ⟨hx, hb, hml, hown, hts⟩ (c_Mo_is_f l D cs _ _ _ y m1 m2 m3 m5 m6 m7 m8 m9 m10 m11 m12 m13 m15 0 pn rw_ fu fb a2 hF (mw_get (X := [(y, .inr (7, [.int (iI 0), .ref m1, .ref m2, .ref m3, .int (iI pn), .ref m5, .ref m6, .ref m7, .ref m8, .ref m9, .ref m10, .ref m11, .ref m12, .ref m13, .int (iI rw_), .ref m15, .long (lI fu), .long (lI fb)]))]) hF.1 (k := 0) rfl) hpn (by omega) (by omega)) (cwV 1 hts (gw_V w_745 w_747 s_29 w_8 w_748) rfl rfl rfl (by decide +kernel) ⟨by rw [hRf]; exact Nat.le_of_ble_eq_true rfl, by rw [hRl]; exact Nat.le_of_ble_eq_true rfl⟩) ⟨K0.blind, B.recv (hF.2 _ (mw_key (k := 0) (X := [(y, .inr (7, [.int (iI 0), .ref m1, .ref m2, .ref m3, .int (iI pn), .ref m5, .ref m6, .ref m7, .ref m8, .ref m9, .ref m10, .ref m11, .ref m12, .ref m13, .int (iI rw_), .ref m15, .long (lI fu), .long (lI fb)]))]) rfl)) (mw_get (X := [(y, .inr (7, [.int (iI 0), .ref m1, .ref m2, .ref m3, .int (iI pn), .ref m5, .ref m6, .ref m7, .ref m8, .ref m9, .ref m10, .ref m11, .ref m12, .ref m13, .int (iI rw_), .ref m15, .long (lI fu), .long (lI fb)]))]) hF.1 (k := 0) rfl) rfl, B.pre _⟩ rfl rfl hl.1 rfl (lv_room (Nat.le_of_ble_eq_true rfl)) d_Mo_make_45 ⟨by rw [hRc]; omega, by rw [hRs]; omega⟩) (fun r45 g45 H locs hw B => ?_)
            obtain ⟨rfl, rfl⟩ := hw
            have B : Wb D vwCl (TY cs) L (mw f [(y, .inr (7, [.int (iI 0), .ref m1, .ref m2, .ref m3, .int (iI pn), .ref m5, .ref m6, .ref m7, .ref m8, .ref m9, .ref m10, .ref m11, .ref m12, .ref m13, .int (iI rw_), .ref m15, .long (lI fu), .long (lI fb)]))]) (AL L s.heap.size) s H _ := B
            refine x_if_eq (tgt := 64) hx hb d_Mo_make_48 (by decide) (by omega) (fun h48 => ?_) (fun h48 => ?_)
            · refine x_iconst hx hb d_Mo_make_64 ?_
              subst hQ hav
              exact x_iret hx hb hr hlocks B d_Mo_make_65 (⟨rfl, rfl⟩)
            · exfalso; omega
        · refine x_iconst hx hb d_Mo_make_24 ?_
          refine lv_goto (tgt := 29) hx hb d_Mo_make_25 (by decide) ?_
          refine lv_istore (lv' := [(4, .int (iI 1)), (0, .ref y), (1, .int (iI a1)), (2, .int (iI a2)), (3, .int (iI a3))]) hx hb d_Mo_make_29 hl (by decide) rfl (fun ls hl => ?_)
          refine lv_iload_n hx hb d_Mo_make_31 rfl (lv_at hl 2 rfl) ?_
          refine x_i2l hx hb d_Mo_make_32 (by omega) ?_
          refine x_lconst (z := 0) hx hb d_Mo_make_33 (by decide) ?_
          refine x_ldc2 (z := 9) hx hb hown (hts _ w_775) (by decide) d_Mo_make_34 ?_
          refine x_calli B hA (va_runS (As := [.long (lI a1), .long (lI 0), .long (lI 9)]) (rest := []) ⟨hx, hb, hml, hown, hts⟩ (c_Mo_in l D cs _ _ _ a1 0 9 (by omega) (by omega) (by omega)) (va_cwS 3 hts (gw_S w_749 w_750 w_8 w_751) rfl rfl rfl (by decide +kernel) ⟨by rw [hRf]; exact Nat.le_of_ble_eq_true rfl, by rw [hRl]; exact Nat.le_of_ble_eq_true rfl⟩) ⟨K0.blind, B.pre _⟩ rfl rfl hl.1 rfl (lv_room (Nat.le_of_ble_eq_true rfl)) d_Mo_make_37 ⟨by rw [hRc]; omega, by rw [hRs]; omega⟩) (fun r37 g37 H locs hw B => ?_)
          obtain ⟨rfl, rfl⟩ := hw
          have B : Wb D vwCl (TY cs) L (mw f [(y, .inr (7, [.int (iI 0), .ref m1, .ref m2, .ref m3, .int (iI pn), .ref m5, .ref m6, .ref m7, .ref m8, .ref m9, .ref m10, .ref m11, .ref m12, .ref m13, .int (iI rw_), .ref m15, .long (lI fu), .long (lI fb)]))]) (AL L s.heap.size) s H _ := B
          refine x_if_eq (tgt := 64) hx hb d_Mo_make_40 (by decide) (by split <;> omega) (fun h40 => ?_) (fun h40 => ?_)
          · refine x_iconst hx hb d_Mo_make_64 ?_
            subst hQ hav
            exact x_iret hx hb hr hlocks B d_Mo_make_65 (⟨rfl, rfl⟩)
          · refine lv_aload_n hx hb d_Mo_make_43 rfl (lv_at hl 1 rfl) ?_
            refine lv_iload_n hx hb d_Mo_make_44 rfl (lv_at hl 3 rfl) ?_
            refine x_calli B hA (va_runV (As := [.int (iI a2)]) (rest := []) ⟨hx, hb, hml, hown, hts⟩ (c_Mo_is_f l D cs _ _ _ y m1 m2 m3 m5 m6 m7 m8 m9 m10 m11 m12 m13 m15 0 pn rw_ fu fb a2 hF (mw_get (X := [(y, .inr (7, [.int (iI 0), .ref m1, .ref m2, .ref m3, .int (iI pn), .ref m5, .ref m6, .ref m7, .ref m8, .ref m9, .ref m10, .ref m11, .ref m12, .ref m13, .int (iI rw_), .ref m15, .long (lI fu), .long (lI fb)]))]) hF.1 (k := 0) rfl) hpn (by omega) (by omega)) (cwV 1 hts (gw_V w_745 w_747 s_29 w_8 w_748) rfl rfl rfl (by decide +kernel) ⟨by rw [hRf]; exact Nat.le_of_ble_eq_true rfl, by rw [hRl]; exact Nat.le_of_ble_eq_true rfl⟩) ⟨K0.blind, B.recv (hF.2 _ (mw_key (k := 0) (X := [(y, .inr (7, [.int (iI 0), .ref m1, .ref m2, .ref m3, .int (iI pn), .ref m5, .ref m6, .ref m7, .ref m8, .ref m9, .ref m10, .ref m11, .ref m12, .ref m13, .int (iI rw_), .ref m15, .long (lI fu), .long (lI fb)]))]) rfl)) (mw_get (X := [(y, .inr (7, [.int (iI 0), .ref m1, .ref m2, .ref m3, .int (iI pn), .ref m5, .ref m6, .ref m7, .ref m8, .ref m9, .ref m10, .ref m11, .ref m12, .ref m13, .int (iI rw_), .ref m15, .long (lI fu), .long (lI fb)]))]) hF.1 (k := 0) rfl) rfl, B.pre _⟩ rfl rfl hl.1 rfl (lv_room (Nat.le_of_ble_eq_true rfl)) d_Mo_make_45 ⟨by rw [hRc]; omega, by rw [hRs]; omega⟩) (fun r45 g45 H locs hw B => ?_)
            obtain ⟨rfl, rfl⟩ := hw
            have B : Wb D vwCl (TY cs) L (mw f [(y, .inr (7, [.int (iI 0), .ref m1, .ref m2, .ref m3, .int (iI pn), .ref m5, .ref m6, .ref m7, .ref m8, .ref m9, .ref m10, .ref m11, .ref m12, .ref m13, .int (iI rw_), .ref m15, .long (lI fu), .long (lI fb)]))]) (AL L s.heap.size) s H _ := B
            refine x_if_eq (tgt := 64) hx hb d_Mo_make_48 (by decide) (by omega) (fun h48 => ?_) (fun h48 => ?_)
            · refine x_iconst hx hb d_Mo_make_64 ?_
              subst hQ hav
              exact x_iret hx hb hr hlocks B d_Mo_make_65 (⟨rfl, rfl⟩)
            · exfalso; omega
/-- six places from a on are 0, up to k of them -/
def sf (a k : Int) (v : Nat → Int) : Nat → Int := fun j => if a ≤ (j : Int) ∧ (j : Int) < a + k then 0 else v j
theorem sf_0 (a : Int) (v : Nat → Int) : sf a 0 v = v := by
  funext j
  simp only [sf]
  rw [if_neg (by omega)]
theorem sf_step {a k : Int} (ha : 0 ≤ a) (hk : 0 ≤ k) (v : Nat → Int) : up (sf a k v) (a + k).toNat 0 = sf a (k + 1) v := by
  funext j
  simp only [sf, up]
  by_cases h : j = (a + k).toNat
  · rw [if_pos h, if_pos (by omega)]
  · rw [if_neg h]
    by_cases h2 : a ≤ (j : Int) ∧ (j : Int) < a + k
    · rw [if_pos h2, if_pos (by omega)]
    · rw [if_neg h2, if_neg (by omega)]
theorem d_Mo_polynomial_0 : decode prog_9_method_20_code 0 = .ok (.aload_n 0, 1) := by decide +kernel
theorem d_Mo_polynomial_1 : decode prog_9_method_20_code 1 = .ok (.iconst 0, 1) := by decide +kernel
theorem d_Mo_polynomial_2 : decode prog_9_method_20_code 2 = .ok (.putfield 51, 3) := by decide +kernel
theorem d_Mo_polynomial_5 : decode prog_9_method_20_code 5 = .ok (.aload_n 0, 1) := by decide +kernel
theorem d_Mo_polynomial_6 : decode prog_9_method_20_code 6 = .ok (.getfield 108, 3) := by decide +kernel
theorem d_Mo_polynomial_9 : decode prog_9_method_20_code 9 = .ok (.bipush 12, 2) := by decide +kernel
theorem d_Mo_polynomial_11 : decode prog_9_method_20_code 11 = .ok (.if_icmp .ne 6, 3) := by decide +kernel
theorem d_Mo_polynomial_14 : decode prog_9_method_20_code 14 = .ok (.bipush (-4), 2) := by decide +kernel
theorem d_Mo_polynomial_16 : decode prog_9_method_20_code 16 = .ok (.ireturn, 1) := by decide +kernel
theorem d_Mo_polynomial_17 : decode prog_9_method_20_code 17 = .ok (.aload_n 0, 1) := by decide +kernel
theorem d_Mo_polynomial_18 : decode prog_9_method_20_code 18 = .ok (.getfield 108, 3) := by decide +kernel
theorem d_Mo_polynomial_21 : decode prog_9_method_20_code 21 = .ok (.istore_n 1, 1) := by decide +kernel
theorem d_Mo_polynomial_22 : decode prog_9_method_20_code 22 = .ok (.iconst 0, 1) := by decide +kernel
theorem d_Mo_polynomial_23 : decode prog_9_method_20_code 23 = .ok (.istore_n 2, 1) := by decide +kernel
theorem d_Mo_polynomial_24 : decode prog_9_method_20_code 24 = .ok (.iload_n 2, 1) := by decide +kernel
theorem d_Mo_polynomial_25 : decode prog_9_method_20_code 25 = .ok (.bipush 6, 2) := by decide +kernel
theorem d_Mo_polynomial_27 : decode prog_9_method_20_code 27 = .ok (.if_icmp .ge 21, 3) := by decide +kernel
theorem d_Mo_polynomial_30 : decode prog_9_method_20_code 30 = .ok (.aload_n 0, 1) := by decide +kernel
theorem d_Mo_polynomial_31 : decode prog_9_method_20_code 31 = .ok (.getfield 19, 3) := by decide +kernel
theorem d_Mo_polynomial_34 : decode prog_9_method_20_code 34 = .ok (.bipush 6, 2) := by decide +kernel
theorem d_Mo_polynomial_36 : decode prog_9_method_20_code 36 = .ok (.iload_n 1, 1) := by decide +kernel
theorem d_Mo_polynomial_37 : decode prog_9_method_20_code 37 = .ok (.imul, 1) := by decide +kernel
theorem d_Mo_polynomial_38 : decode prog_9_method_20_code 38 = .ok (.iload_n 2, 1) := by decide +kernel
theorem d_Mo_polynomial_39 : decode prog_9_method_20_code 39 = .ok (.iadd, 1) := by decide +kernel
theorem d_Mo_polynomial_40 : decode prog_9_method_20_code 40 = .ok (.iconst 0, 1) := by decide +kernel
theorem d_Mo_polynomial_41 : decode prog_9_method_20_code 41 = .ok (.iastore, 1) := by decide +kernel
theorem d_Mo_polynomial_42 : decode prog_9_method_20_code 42 = .ok (.iinc 2 1, 3) := by decide +kernel
theorem d_Mo_polynomial_45 : decode prog_9_method_20_code 45 = .ok (.goto (-21), 3) := by decide +kernel
theorem d_Mo_polynomial_48 : decode prog_9_method_20_code 48 = .ok (.aload_n 0, 1) := by decide +kernel
theorem d_Mo_polynomial_49 : decode prog_9_method_20_code 49 = .ok (.getfield 22, 3) := by decide +kernel
theorem d_Mo_polynomial_52 : decode prog_9_method_20_code 52 = .ok (.iload_n 1, 1) := by decide +kernel
theorem d_Mo_polynomial_53 : decode prog_9_method_20_code 53 = .ok (.iconst 0, 1) := by decide +kernel
theorem d_Mo_polynomial_54 : decode prog_9_method_20_code 54 = .ok (.bastore, 1) := by decide +kernel
theorem d_Mo_polynomial_55 : decode prog_9_method_20_code 55 = .ok (.aload_n 0, 1) := by decide +kernel
theorem d_Mo_polynomial_56 : decode prog_9_method_20_code 56 = .ok (.dup, 1) := by decide +kernel
theorem d_Mo_polynomial_57 : decode prog_9_method_20_code 57 = .ok (.getfield 108, 3) := by decide +kernel
theorem d_Mo_polynomial_60 : decode prog_9_method_20_code 60 = .ok (.iconst 1, 1) := by decide +kernel
theorem d_Mo_polynomial_61 : decode prog_9_method_20_code 61 = .ok (.iadd, 1) := by decide +kernel
theorem d_Mo_polynomial_62 : decode prog_9_method_20_code 62 = .ok (.putfield 108, 3) := by decide +kernel
theorem d_Mo_polynomial_65 : decode prog_9_method_20_code 65 = .ok (.iload_n 1, 1) := by decide +kernel
theorem d_Mo_polynomial_66 : decode prog_9_method_20_code 66 = .ok (.ireturn, 1) := by decide +kernel
set_option maxHeartbeats 8000000 in
set_option maxRecDepth 100000 in
theorem c_Mo_polynomial (l : Launch) (D : va_G) (cs : Nat → ClassId) (L : List Nat) (f : Nat → va_E) (sz : Nat) (y m1 m2 m3 m5 m6 m7 m8 m9 m10 m11 m12 m13 m15 : Nat) (th pn rw_ fu fb : Int) (v bl : Nat → Int) (hF : Fc L [y, m5, m6]) (ha : f y = .inr (7, [.int (iI th), .ref m1, .ref m2, .ref m3, .int (iI pn), .ref m5, .ref m6, .ref m7, .ref m8, .ref m9, .ref m10, .ref m11, .ref m12, .ref m13, .int (iI rw_), .ref m15, .long (lI fu), .long (lI fb)])) (hpn : 0 ≤ pn ∧ pn ≤ 12) (hlt : pn < 12) (hv : f m5 = .inl (cs 0, 72, .inl (ai v))) (hb6 : f m6 = .inl (cs 2, 12, .inl (ai bl))) : Met l (⟨"RealRootsModel", "polynomial", "()I"⟩ : MethodName) (.code (⟨"RealRootsModel", "polynomial", "()I"⟩ : MethodName) prog_9_method_20_code 3 (Option.some Jvm.ClassFile.FieldType.int) :: gw) ({ frames := 0, cells := 0, slots := 0, locals := 0 }) (va_Pc [.ref y] (K0 D vwCl (TY cs) L f sz)) (va_Qi (fun (r : Int32) (g : Nat → va_E) => r = iI pn ∧ g = mw f [(y, .inr (7, [.int (iI 0), .ref m1, .ref m2, .ref m3, .int (iI (pn + 1)), .ref m5, .ref m6, .ref m7, .ref m8, .ref m9, .ref m10, .ref m11, .ref m12, .ref m13, .int (iI rw_), .ref m15, .long (lI fu), .long (lI fb)])), (m5, .inl (cs 0, 72, .inl (ai (sf (6 * pn) 6 v)))), (m6, .inl (cs 2, 12, .inl (ai (up bl pn.toNat 0))))]) (K1 D vwCl (TY cs) (AL L sz) L) (AL L sz)) 0 0 (AL L sz) := by
  refine Met.ofW (cc := prog_9_method_20_code) (maxL := 3) (ret := (Option.some Jvm.ClassFile.FieldType.int)) (by decide) rfl ?_
  intro p e s m args below meth c s₁ Bd hml hv
  obtain ⟨rfl, hk0⟩ := hv
  obtain ⟨hsz, B⟩ := hk0.start
  subst hsz
  have hx := Bd.exec
  have hb := Bd.bytes
  have hr := Bd.returns
  have hlocks := Bd.notSynchronized
  have hts0 := atoms_spec Bd.pre
  have hown : s.vm.findClass RX7 = some m.cls := findClass_of_methodNamed Bd.named
  have hA : ∀ q, s.heap.size ≤ q → AL L s.heap.size q := fun _ h => Or.inr h
  have hl := lv_entry ([.ref y]) (n := 3) (Nat.le_of_ble_eq_true rfl)
  rw [lg_entry_eq]
  generalize (lg_sl ([.ref y]) ++ List.replicate (3 - (lg_sl ([.ref y])).length) Slot.unset).toArray = ls at hl ⊢
  refine absQ (fun Q R av hQ hR hav => ?_)
  have hts : ∀ w ∈ gw, w.before av s = true := by rw [hav]; exact fun w h => hts0 w (List.mem_cons_of_mem _ h)
  have hRf : R.frames = 0 := by rw [hR]; rfl
  have hRl : R.locals = 0 := by rw [hR]; rfl
  have hRc : R.cells = 0 := by rw [hR]; rfl
  have hRs : R.slots = 0 := by rw [hR]; rfl
  clear hR hts0 Bd
  have hl : lv_has ls 3 [(0, .ref y)] := hl
  have hfx : ∀ q ∈ ([(y, .inr (7, [.int (iI th), .ref m1, .ref m2, .ref m3, .int (iI pn), .ref m5, .ref m6, .ref m7, .ref m8, .ref m9, .ref m10, .ref m11, .ref m12, .ref m13, .int (iI rw_), .ref m15, .long (lI fu), .long (lI fb)])), (m5, .inl (cs 0, 72, .inl (ai v))), (m6, .inl (cs 2, 12, .inl (ai bl)))] : List (Nat × va_E)), f q.1 = q.2 := fun q hq => by
    simp only [List.mem_cons, List.not_mem_nil, or_false] at hq
    rcases hq with rfl | rfl | rfl
    · exact ha
    · exact hv
    · exact hb6
  have hmw : mw f [(y, .inr (7, [.int (iI th), .ref m1, .ref m2, .ref m3, .int (iI pn), .ref m5, .ref m6, .ref m7, .ref m8, .ref m9, .ref m10, .ref m11, .ref m12, .ref m13, .int (iI rw_), .ref m15, .long (lI fu), .long (lI fb)])), (m5, .inl (cs 0, 72, .inl (ai v))), (m6, .inl (cs 2, 12, .inl (ai bl)))] = f := mw_self (fun k a e hk => hfx (a, e) (List.mem_of_getElem? hk))
  have B := B.focus [(y, .inr (7, [.int (iI th), .ref m1, .ref m2, .ref m3, .int (iI pn), .ref m5, .ref m6, .ref m7, .ref m8, .ref m9, .ref m10, .ref m11, .ref m12, .ref m13, .int (iI rw_), .ref m15, .long (lI fu), .long (lI fb)])), (m5, .inl (cs 0, 72, .inl (ai v))), (m6, .inl (cs 2, 12, .inl (ai bl)))] hfx
  refine lv_aload_n hx hb d_Mo_polynomial_0 rfl (lv_at hl 0 rfl) ?_
  refine x_iconst hx hb d_Mo_polynomial_1 ?_
  refine x_put (C := RX7) (T := TX7) (N := 18) hx hb hts inX7 tyX7 tyX7_ok nmX7 hown B hF 0 rfl rfl 0 (by decide) (hts _ w_677) (fun _ h9 => h9) rfl (tyX7_ok 0 (by decide)) rfl rfl (Nat.le_of_ble_eq_true rfl) d_Mo_polynomial_2 (fun H locs B => ?_)
  have B : Wb D vwCl (TY cs) L (mw f [(y, .inr (7, [.int (iI 0), .ref m1, .ref m2, .ref m3, .int (iI pn), .ref m5, .ref m6, .ref m7, .ref m8, .ref m9, .ref m10, .ref m11, .ref m12, .ref m13, .int (iI rw_), .ref m15, .long (lI fu), .long (lI fb)])), (m5, .inl (cs 0, 72, .inl (ai v))), (m6, .inl (cs 2, 12, .inl (ai bl)))]) (AL L s.heap.size) s H _ := B
  refine lv_aload_n hx hb d_Mo_polynomial_5 rfl (lv_at hl 0 rfl) ?_
  refine x_get (C := RX7) (T := TX7) (N := 18) hx hb hts inX7 hown B hF 0 rfl rfl 4 (by decide) (hts _ w_681) (fun _ h9 => h9) rfl d_Mo_polynomial_6 ?_
  refine x_bipush hx hb d_Mo_polynomial_9 (by decide) ?_
  refine x_icmp_ne (tgt := 17) hx hb d_Mo_polynomial_11 (by decide) (by omega) (by omega) (fun h11 => ?_) (fun h11 => ?_)
  · refine lv_aload_n hx hb d_Mo_polynomial_17 rfl (lv_at hl 0 rfl) ?_
    refine x_get (C := RX7) (T := TX7) (N := 18) hx hb hts inX7 hown B hF 0 rfl rfl 4 (by decide) (hts _ w_681) (fun _ h9 => h9) rfl d_Mo_polynomial_18 ?_
    refine lv_istore_n (lv' := [(1, .int (iI pn)), (0, .ref y)]) hx hb d_Mo_polynomial_21 rfl hl (by decide) rfl (fun ls hl => ?_)
    refine x_iconst hx hb d_Mo_polynomial_22 ?_
    refine lv_istore_n (lv' := [(2, .int (iI 0)), (1, .int (iI pn)), (0, .ref y)]) hx hb d_Mo_polynomial_23 rfl hl (by decide) rfl (fun ls hl => ?_)
    have LOOP : ∀ (n : Nat) (k : Int), 0 ≤ k → k + n = 6 → ∀ (H : Heap) (locs : List Loc) (ls : Array Slot), Wb D vwCl (TY cs) L (mw f [(y, .inr (7, [.int (iI 0), .ref m1, .ref m2, .ref m3, .int (iI pn), .ref m5, .ref m6, .ref m7, .ref m8, .ref m9, .ref m10, .ref m11, .ref m12, .ref m13, .int (iI rw_), .ref m15, .long (lI fu), .long (lI fb)])), (m5, .inl (cs 0, 72, .inl (ai (sf (6 * pn) k v)))), (m6, .inl (cs 2, 12, .inl (ai bl)))]) (AL L s.heap.size) s H locs → lv_has ls 3 [(2, .int (iI k)), (1, .int (iI pn)), (0, .ref y)] → W p l e R s m av below meth c H locs (0) (0) Q (F0 m 24 ls []) := by
      intro n
      induction n with
      | zero =>
        intro k hk0 hkn  H locs ls B hl
        have hke : k = 6 := by omega
        refine lv_iload_n hx hb d_Mo_polynomial_24 rfl (lv_at hl 0 rfl) ?_
        refine x_bipush hx hb d_Mo_polynomial_25 (by decide) ?_
        refine x_icmp_ge (tgt := 48) hx hb d_Mo_polynomial_27 (by decide) (by omega) (by omega) (fun h27 => ?_) (fun h27 => ?_)
        · refine lv_aload_n hx hb d_Mo_polynomial_48 rfl (lv_at hl 2 rfl) ?_
          refine x_get (C := RX7) (T := TX7) (N := 18) hx hb hts inX7 hown B hF 0 rfl rfl 6 (by decide) (hts _ w_683) (fun _ h9 => h9) rfl d_Mo_polynomial_49 ?_
          refine lv_iload_n hx hb d_Mo_polynomial_52 rfl (lv_at hl 1 rfl) ?_
          refine x_iconst hx hb d_Mo_polynomial_53 ?_
          refine x_zast hx hb B hF 2 2 rfl rfl pn.toNat (by omega) (by omega) (by decide) (by decide) d_Mo_polynomial_54 (fun H locs B => ?_)
          have B : Wb D vwCl (TY cs) L (mw f [(y, .inr (7, [.int (iI 0), .ref m1, .ref m2, .ref m3, .int (iI pn), .ref m5, .ref m6, .ref m7, .ref m8, .ref m9, .ref m10, .ref m11, .ref m12, .ref m13, .int (iI rw_), .ref m15, .long (lI fu), .long (lI fb)])), (m5, .inl (cs 0, 72, .inl (ai (sf (6 * pn) k v)))), (m6, .inl (cs 2, 12, .inl (ai (up bl pn.toNat 0))))]) (AL L s.heap.size) s H _ := B
          refine lv_aload_n hx hb d_Mo_polynomial_55 rfl (lv_at hl 2 rfl) ?_
          refine lv_dup hx hb d_Mo_polynomial_56 rfl ?_
          refine x_get (C := RX7) (T := TX7) (N := 18) hx hb hts inX7 hown B hF 0 rfl rfl 4 (by decide) (hts _ w_681) (fun _ h9 => h9) rfl d_Mo_polynomial_57 ?_
          refine x_iconst hx hb d_Mo_polynomial_60 ?_
          refine x_iadd hx hb d_Mo_polynomial_61 ?_
          refine x_put (C := RX7) (T := TX7) (N := 18) hx hb hts inX7 tyX7 tyX7_ok nmX7 hown B hF 0 rfl rfl 4 (by decide) (hts _ w_681) (fun _ h9 => h9) rfl (tyX7_ok 4 (by decide)) rfl rfl (Nat.le_of_ble_eq_true rfl) d_Mo_polynomial_62 (fun H locs B => ?_)
          have B : Wb D vwCl (TY cs) L (mw f [(y, .inr (7, [.int (iI 0), .ref m1, .ref m2, .ref m3, .int (iI (pn + 1)), .ref m5, .ref m6, .ref m7, .ref m8, .ref m9, .ref m10, .ref m11, .ref m12, .ref m13, .int (iI rw_), .ref m15, .long (lI fu), .long (lI fb)])), (m5, .inl (cs 0, 72, .inl (ai (sf (6 * pn) k v)))), (m6, .inl (cs 2, 12, .inl (ai (up bl pn.toNat 0))))]) (AL L s.heap.size) s H _ := B
          refine lv_iload_n hx hb d_Mo_polynomial_65 rfl (lv_at hl 1 rfl) ?_
          subst hQ hav
          exact x_iret hx hb hr hlocks B d_Mo_polynomial_66 (by subst hke; exact ⟨rfl, rfl⟩)
        · exfalso; omega
      | succ n ih =>
        intro k hk0 hkn  H locs ls B hl
        refine lv_iload_n hx hb d_Mo_polynomial_24 rfl (lv_at hl 0 rfl) ?_
        refine x_bipush hx hb d_Mo_polynomial_25 (by decide) ?_
        refine x_icmp_ge (tgt := 48) hx hb d_Mo_polynomial_27 (by decide) (by omega) (by omega) (fun h27 => ?_) (fun h27 => ?_)
        · exfalso; omega
        · refine lv_aload_n hx hb d_Mo_polynomial_30 rfl (lv_at hl 2 rfl) ?_
          refine x_get (C := RX7) (T := TX7) (N := 18) hx hb hts inX7 hown B hF 0 rfl rfl 5 (by decide) (hts _ w_682) (fun _ h9 => h9) rfl d_Mo_polynomial_31 ?_
          refine x_bipush hx hb d_Mo_polynomial_34 (by decide) ?_
          refine lv_iload_n hx hb d_Mo_polynomial_36 rfl (lv_at hl 1 rfl) ?_
          refine x_imul hx hb d_Mo_polynomial_37 ?_
          refine lv_iload_n hx hb d_Mo_polynomial_38 rfl (lv_at hl 0 rfl) ?_
          refine x_iadd hx hb d_Mo_polynomial_39 ?_
          refine x_iconst hx hb d_Mo_polynomial_40 ?_
          refine x_iast hx hb B hF 1 0 rfl rfl (((6 * pn) + k).toNat) (by omega) (by omega) (by decide) d_Mo_polynomial_41 (fun H locs B => ?_)
          have B : Wb D vwCl (TY cs) L (mw f [(y, .inr (7, [.int (iI 0), .ref m1, .ref m2, .ref m3, .int (iI pn), .ref m5, .ref m6, .ref m7, .ref m8, .ref m9, .ref m10, .ref m11, .ref m12, .ref m13, .int (iI rw_), .ref m15, .long (lI fu), .long (lI fb)])), (m5, .inl (cs 0, 72, .inl (ai (up (sf (6 * pn) k v) (((6 * pn) + k).toNat) 0)))), (m6, .inl (cs 2, 12, .inl (ai bl)))]) (AL L s.heap.size) s H _ := B
          refine x_iinc (lv' := [(2, .int (iI (k + 1))), (1, .int (iI pn)), (0, .ref y)]) hx hb d_Mo_polynomial_42 hl (q := 0) rfl rfl (by decide) rfl (fun ls hl => ?_)
          refine lv_goto (tgt := 24) hx hb d_Mo_polynomial_45 (by decide) ?_
          rw [sf_step (by omega) hk0] at B
          exact ih (k + 1) (by omega) (by omega)  _ _ _ B (lv_sub hl [0, 1, 2] rfl)
    have B := B.of_eq (show mw f [(y, .inr (7, [.int (iI 0), .ref m1, .ref m2, .ref m3, .int (iI pn), .ref m5, .ref m6, .ref m7, .ref m8, .ref m9, .ref m10, .ref m11, .ref m12, .ref m13, .int (iI rw_), .ref m15, .long (lI fu), .long (lI fb)])), (m5, .inl (cs 0, 72, .inl (ai v))), (m6, .inl (cs 2, 12, .inl (ai bl)))] = mw f [(y, .inr (7, [.int (iI 0), .ref m1, .ref m2, .ref m3, .int (iI pn), .ref m5, .ref m6, .ref m7, .ref m8, .ref m9, .ref m10, .ref m11, .ref m12, .ref m13, .int (iI rw_), .ref m15, .long (lI fu), .long (lI fb)])), (m5, .inl (cs 0, 72, .inl (ai (sf (6 * pn) 0 v)))), (m6, .inl (cs 2, 12, .inl (ai bl)))] by rw [sf_0])
    exact LOOP 6 0 (by omega) (by omega)  _ _ _ B (lv_sub hl [0, 1, 2] rfl)
  · exfalso; omega
theorem d_Mo_count_0 : decode prog_9_method_26_code 0 = .ok (.aload_n 0, 1) := by decide +kernel
theorem d_Mo_count_1 : decode prog_9_method_26_code 1 = .ok (.iconst 0, 1) := by decide +kernel
theorem d_Mo_count_2 : decode prog_9_method_26_code 2 = .ok (.putfield 51, 3) := by decide +kernel
theorem d_Mo_count_5 : decode prog_9_method_26_code 5 = .ok (.aload_n 0, 1) := by decide +kernel
theorem d_Mo_count_6 : decode prog_9_method_26_code 6 = .ok (.getfield 108, 3) := by decide +kernel
theorem d_Mo_count_9 : decode prog_9_method_26_code 9 = .ok (.ireturn, 1) := by decide +kernel
set_option maxHeartbeats 8000000 in
set_option maxRecDepth 100000 in
theorem c_Mo_count (l : Launch) (D : va_G) (cs : Nat → ClassId) (L : List Nat) (f : Nat → va_E) (sz : Nat) (y m1 m2 m3 m5 m6 m7 m8 m9 m10 m11 m12 m13 m15 : Nat) (th pn rw_ fu fb : Int) (hF : Fc L [y]) (ha : f y = .inr (7, [.int (iI th), .ref m1, .ref m2, .ref m3, .int (iI pn), .ref m5, .ref m6, .ref m7, .ref m8, .ref m9, .ref m10, .ref m11, .ref m12, .ref m13, .int (iI rw_), .ref m15, .long (lI fu), .long (lI fb)])) (hpn : 0 ≤ pn ∧ pn ≤ 12) : Met l (⟨"RealRootsModel", "count", "()I"⟩ : MethodName) (.code (⟨"RealRootsModel", "count", "()I"⟩ : MethodName) prog_9_method_26_code 1 (Option.some Jvm.ClassFile.FieldType.int) :: gw) ({ frames := 0, cells := 0, slots := 0, locals := 0 }) (va_Pc [.ref y] (K0 D vwCl (TY cs) L f sz)) (va_Qi (fun (r : Int32) (g : Nat → va_E) => r = iI pn ∧ g = mw f [(y, .inr (7, [.int (iI 0), .ref m1, .ref m2, .ref m3, .int (iI pn), .ref m5, .ref m6, .ref m7, .ref m8, .ref m9, .ref m10, .ref m11, .ref m12, .ref m13, .int (iI rw_), .ref m15, .long (lI fu), .long (lI fb)]))]) (K1 D vwCl (TY cs) (AL L sz) L) (AL L sz)) 0 0 (AL L sz) := by
  refine Met.ofW (cc := prog_9_method_26_code) (maxL := 1) (ret := (Option.some Jvm.ClassFile.FieldType.int)) (by decide) rfl ?_
  intro p e s m args below meth c s₁ Bd hml hv
  obtain ⟨rfl, hk0⟩ := hv
  obtain ⟨hsz, B⟩ := hk0.start
  subst hsz
  have hx := Bd.exec
  have hb := Bd.bytes
  have hr := Bd.returns
  have hlocks := Bd.notSynchronized
  have hts0 := atoms_spec Bd.pre
  have hown : s.vm.findClass RX7 = some m.cls := findClass_of_methodNamed Bd.named
  have hA : ∀ q, s.heap.size ≤ q → AL L s.heap.size q := fun _ h => Or.inr h
  have hl := lv_entry ([.ref y]) (n := 1) (Nat.le_of_ble_eq_true rfl)
  rw [lg_entry_eq]
  generalize (lg_sl ([.ref y]) ++ List.replicate (1 - (lg_sl ([.ref y])).length) Slot.unset).toArray = ls at hl ⊢
  refine absQ (fun Q R av hQ hR hav => ?_)
  have hts : ∀ w ∈ gw, w.before av s = true := by rw [hav]; exact fun w h => hts0 w (List.mem_cons_of_mem _ h)
  have hRf : R.frames = 0 := by rw [hR]; rfl
  have hRl : R.locals = 0 := by rw [hR]; rfl
  have hRc : R.cells = 0 := by rw [hR]; rfl
  have hRs : R.slots = 0 := by rw [hR]; rfl
  clear hR hts0 Bd
  have hl : lv_has ls 1 [(0, .ref y)] := hl
  have hfx : ∀ q ∈ ([(y, .inr (7, [.int (iI th), .ref m1, .ref m2, .ref m3, .int (iI pn), .ref m5, .ref m6, .ref m7, .ref m8, .ref m9, .ref m10, .ref m11, .ref m12, .ref m13, .int (iI rw_), .ref m15, .long (lI fu), .long (lI fb)]))] : List (Nat × va_E)), f q.1 = q.2 := fun q hq => by
    simp only [List.mem_cons, List.not_mem_nil, or_false] at hq
    rcases hq with rfl
    · exact ha
  have hmw : mw f [(y, .inr (7, [.int (iI th), .ref m1, .ref m2, .ref m3, .int (iI pn), .ref m5, .ref m6, .ref m7, .ref m8, .ref m9, .ref m10, .ref m11, .ref m12, .ref m13, .int (iI rw_), .ref m15, .long (lI fu), .long (lI fb)]))] = f := mw_self (fun k a e hk => hfx (a, e) (List.mem_of_getElem? hk))
  have B := B.focus [(y, .inr (7, [.int (iI th), .ref m1, .ref m2, .ref m3, .int (iI pn), .ref m5, .ref m6, .ref m7, .ref m8, .ref m9, .ref m10, .ref m11, .ref m12, .ref m13, .int (iI rw_), .ref m15, .long (lI fu), .long (lI fb)]))] hfx
  refine lv_aload_n hx hb d_Mo_count_0 rfl (lv_at hl 0 rfl) ?_
  refine x_iconst hx hb d_Mo_count_1 ?_
  refine x_put (C := RX7) (T := TX7) (N := 18) hx hb hts inX7 tyX7 tyX7_ok nmX7 hown B hF 0 rfl rfl 0 (by decide) (hts _ w_677) (fun _ h9 => h9) rfl (tyX7_ok 0 (by decide)) rfl rfl (Nat.le_of_ble_eq_true rfl) d_Mo_count_2 (fun H locs B => ?_)
  have B : Wb D vwCl (TY cs) L (mw f [(y, .inr (7, [.int (iI 0), .ref m1, .ref m2, .ref m3, .int (iI pn), .ref m5, .ref m6, .ref m7, .ref m8, .ref m9, .ref m10, .ref m11, .ref m12, .ref m13, .int (iI rw_), .ref m15, .long (lI fu), .long (lI fb)]))]) (AL L s.heap.size) s H _ := B
  refine lv_aload_n hx hb d_Mo_count_5 rfl (lv_at hl 0 rfl) ?_
  refine x_get (C := RX7) (T := TX7) (N := 18) hx hb hts inX7 hown B hF 0 rfl rfl 4 (by decide) (hts _ w_681) (fun _ h9 => h9) rfl d_Mo_count_6 ?_
  subst hQ hav
  exact x_iret hx hb hr hlocks B d_Mo_count_9 (⟨rfl, rfl⟩)
theorem d_Mo_thrown_0 : decode prog_9_method_2_code 0 = .ok (.aload_n 0, 1) := by decide +kernel
theorem d_Mo_thrown_1 : decode prog_9_method_2_code 1 = .ok (.getfield 51, 3) := by decide +kernel
theorem d_Mo_thrown_4 : decode prog_9_method_2_code 4 = .ok (.ireturn, 1) := by decide +kernel
set_option maxHeartbeats 8000000 in
set_option maxRecDepth 100000 in
theorem c_Mo_thrown (l : Launch) (D : va_G) (cs : Nat → ClassId) (L : List Nat) (f : Nat → va_E) (sz : Nat) (y m1 m2 m3 m5 m6 m7 m8 m9 m10 m11 m12 m13 m15 : Nat) (th pn rw_ fu fb : Int) (hF : Fc L [y]) (ha : f y = .inr (7, [.int (iI th), .ref m1, .ref m2, .ref m3, .int (iI pn), .ref m5, .ref m6, .ref m7, .ref m8, .ref m9, .ref m10, .ref m11, .ref m12, .ref m13, .int (iI rw_), .ref m15, .long (lI fu), .long (lI fb)])) (hpn : 0 ≤ pn ∧ pn ≤ 12) : Met l (⟨"RealRootsModel", "thrown", "()I"⟩ : MethodName) (.code (⟨"RealRootsModel", "thrown", "()I"⟩ : MethodName) prog_9_method_2_code 1 (Option.some Jvm.ClassFile.FieldType.int) :: gw) ({ frames := 0, cells := 0, slots := 0, locals := 0 }) (va_Pc [.ref y] (K0 D vwCl (TY cs) L f sz)) (va_Qi (fun (r : Int32) (g : Nat → va_E) => r = iI th ∧ g = f) (K1 D vwCl (TY cs) (AL L sz) L) (AL L sz)) 0 0 (AL L sz) := by
  refine Met.ofW (cc := prog_9_method_2_code) (maxL := 1) (ret := (Option.some Jvm.ClassFile.FieldType.int)) (by decide) rfl ?_
  intro p e s m args below meth c s₁ Bd hml hv
  obtain ⟨rfl, hk0⟩ := hv
  obtain ⟨hsz, B⟩ := hk0.start
  subst hsz
  have hx := Bd.exec
  have hb := Bd.bytes
  have hr := Bd.returns
  have hlocks := Bd.notSynchronized
  have hts0 := atoms_spec Bd.pre
  have hown : s.vm.findClass RX7 = some m.cls := findClass_of_methodNamed Bd.named
  have hA : ∀ q, s.heap.size ≤ q → AL L s.heap.size q := fun _ h => Or.inr h
  have hl := lv_entry ([.ref y]) (n := 1) (Nat.le_of_ble_eq_true rfl)
  rw [lg_entry_eq]
  generalize (lg_sl ([.ref y]) ++ List.replicate (1 - (lg_sl ([.ref y])).length) Slot.unset).toArray = ls at hl ⊢
  refine absQ (fun Q R av hQ hR hav => ?_)
  have hts : ∀ w ∈ gw, w.before av s = true := by rw [hav]; exact fun w h => hts0 w (List.mem_cons_of_mem _ h)
  have hRf : R.frames = 0 := by rw [hR]; rfl
  have hRl : R.locals = 0 := by rw [hR]; rfl
  have hRc : R.cells = 0 := by rw [hR]; rfl
  have hRs : R.slots = 0 := by rw [hR]; rfl
  clear hR hts0 Bd
  have hl : lv_has ls 1 [(0, .ref y)] := hl
  have hfx : ∀ q ∈ ([(y, .inr (7, [.int (iI th), .ref m1, .ref m2, .ref m3, .int (iI pn), .ref m5, .ref m6, .ref m7, .ref m8, .ref m9, .ref m10, .ref m11, .ref m12, .ref m13, .int (iI rw_), .ref m15, .long (lI fu), .long (lI fb)]))] : List (Nat × va_E)), f q.1 = q.2 := fun q hq => by
    simp only [List.mem_cons, List.not_mem_nil, or_false] at hq
    rcases hq with rfl
    · exact ha
  have hmw : mw f [(y, .inr (7, [.int (iI th), .ref m1, .ref m2, .ref m3, .int (iI pn), .ref m5, .ref m6, .ref m7, .ref m8, .ref m9, .ref m10, .ref m11, .ref m12, .ref m13, .int (iI rw_), .ref m15, .long (lI fu), .long (lI fb)]))] = f := mw_self (fun k a e hk => hfx (a, e) (List.mem_of_getElem? hk))
  have B := B.focus [(y, .inr (7, [.int (iI th), .ref m1, .ref m2, .ref m3, .int (iI pn), .ref m5, .ref m6, .ref m7, .ref m8, .ref m9, .ref m10, .ref m11, .ref m12, .ref m13, .int (iI rw_), .ref m15, .long (lI fu), .long (lI fb)]))] hfx
  refine lv_aload_n hx hb d_Mo_thrown_0 rfl (lv_at hl 0 rfl) ?_
  refine x_get (C := RX7) (T := TX7) (N := 18) hx hb hts inX7 hown B hF 0 rfl rfl 0 (by decide) (hts _ w_677) (fun _ h9 => h9) rfl d_Mo_thrown_1 ?_
  have B := B.of_eq hmw
  subst hQ hav
  exact x_iret hx hb hr hlocks B d_Mo_thrown_4 (⟨rfl, rfl⟩)
theorem d_Mo_countRoots_0 : decode prog_9_method_59_code 0 = .ok (.iconst 0, 1) := by decide +kernel
theorem d_Mo_countRoots_1 : decode prog_9_method_59_code 1 = .ok (.istore_n 2, 1) := by decide +kernel
theorem d_Mo_countRoots_2 : decode prog_9_method_59_code 2 = .ok (.iconst 0, 1) := by decide +kernel
theorem d_Mo_countRoots_3 : decode prog_9_method_59_code 3 = .ok (.istore_n 3, 1) := by decide +kernel
theorem d_Mo_countRoots_4 : decode prog_9_method_59_code 4 = .ok (.iload_n 3, 1) := by decide +kernel
theorem d_Mo_countRoots_5 : decode prog_9_method_59_code 5 = .ok (.aload_n 0, 1) := by decide +kernel
theorem d_Mo_countRoots_6 : decode prog_9_method_59_code 6 = .ok (.getfield 108, 3) := by decide +kernel
theorem d_Mo_countRoots_9 : decode prog_9_method_59_code 9 = .ok (.if_icmp .ge 83, 3) := by decide +kernel
theorem d_Mo_countRoots_12 : decode prog_9_method_59_code 12 = .ok (.aload_n 0, 1) := by decide +kernel
theorem d_Mo_countRoots_13 : decode prog_9_method_59_code 13 = .ok (.iload_n 3, 1) := by decide +kernel
theorem d_Mo_countRoots_14 : decode prog_9_method_59_code 14 = .ok (.invokevirtual 207, 3) := by decide +kernel
theorem d_Mo_countRoots_17 : decode prog_9_method_59_code 17 = .ok (.iconst 0, 1) := by decide +kernel
theorem d_Mo_countRoots_18 : decode prog_9_method_59_code 18 = .ok (.istore 4, 2) := by decide +kernel
theorem d_Mo_countRoots_20 : decode prog_9_method_59_code 20 = .ok (.iload 4, 2) := by decide +kernel
theorem d_Mo_countRoots_22 : decode prog_9_method_59_code 22 = .ok (.aload_n 0, 1) := by decide +kernel
theorem d_Mo_countRoots_23 : decode prog_9_method_59_code 23 = .ok (.getfield 42, 3) := by decide +kernel
theorem d_Mo_countRoots_26 : decode prog_9_method_59_code 26 = .ok (.iload_n 3, 1) := by decide +kernel
theorem d_Mo_countRoots_27 : decode prog_9_method_59_code 27 = .ok (.iaload, 1) := by decide +kernel
theorem d_Mo_countRoots_28 : decode prog_9_method_59_code 28 = .ok (.if_icmp .ge 58, 3) := by decide +kernel
theorem d_Mo_countRoots_31 : decode prog_9_method_59_code 31 = .ok (.iload_n 1, 1) := by decide +kernel
theorem d_Mo_countRoots_32 : decode prog_9_method_59_code 32 = .ok (.iconst (-1), 1) := by decide +kernel
theorem d_Mo_countRoots_33 : decode prog_9_method_59_code 33 = .ok (.if_icmp .eq 17, 3) := by decide +kernel
theorem d_Mo_countRoots_36 : decode prog_9_method_59_code 36 = .ok (.aload_n 0, 1) := by decide +kernel
theorem d_Mo_countRoots_37 : decode prog_9_method_59_code 37 = .ok (.iconst 5, 1) := by decide +kernel
theorem d_Mo_countRoots_38 : decode prog_9_method_59_code 38 = .ok (.iload_n 3, 1) := by decide +kernel
theorem d_Mo_countRoots_39 : decode prog_9_method_59_code 39 = .ok (.imul, 1) := by decide +kernel
theorem d_Mo_countRoots_40 : decode prog_9_method_59_code 40 = .ok (.iload 4, 2) := by decide +kernel
theorem d_Mo_countRoots_42 : decode prog_9_method_59_code 42 = .ok (.iadd, 1) := by decide +kernel
theorem d_Mo_countRoots_43 : decode prog_9_method_59_code 43 = .ok (.iload_n 1, 1) := by decide +kernel
theorem d_Mo_countRoots_44 : decode prog_9_method_59_code 44 = .ok (.invokevirtual 227, 3) := by decide +kernel
theorem d_Mo_countRoots_47 : decode prog_9_method_59_code 47 = .ok (.ifCond .ge 7, 3) := by decide +kernel
theorem d_Mo_countRoots_50 : decode prog_9_method_59_code 50 = .ok (.iconst 1, 1) := by decide +kernel
theorem d_Mo_countRoots_51 : decode prog_9_method_59_code 51 = .ok (.goto 4, 3) := by decide +kernel
theorem d_Mo_countRoots_54 : decode prog_9_method_59_code 54 = .ok (.iconst 0, 1) := by decide +kernel
theorem d_Mo_countRoots_55 : decode prog_9_method_59_code 55 = .ok (.istore 5, 2) := by decide +kernel
theorem d_Mo_countRoots_57 : decode prog_9_method_59_code 57 = .ok (.iload_n 2, 1) := by decide +kernel
theorem d_Mo_countRoots_58 : decode prog_9_method_59_code 58 = .ok (.iload 5, 2) := by decide +kernel
theorem d_Mo_countRoots_60 : decode prog_9_method_59_code 60 = .ok (.ifCond .eq 17, 3) := by decide +kernel
theorem d_Mo_countRoots_63 : decode prog_9_method_59_code 63 = .ok (.aload_n 0, 1) := by decide +kernel
theorem d_Mo_countRoots_64 : decode prog_9_method_59_code 64 = .ok (.iload_n 3, 1) := by decide +kernel
theorem d_Mo_countRoots_65 : decode prog_9_method_59_code 65 = .ok (.iload 4, 2) := by decide +kernel
theorem d_Mo_countRoots_67 : decode prog_9_method_59_code 67 = .ok (.invokevirtual 240, 3) := by decide +kernel
theorem d_Mo_countRoots_70 : decode prog_9_method_59_code 70 = .ok (.ifCond .eq 7, 3) := by decide +kernel
theorem d_Mo_countRoots_73 : decode prog_9_method_59_code 73 = .ok (.iconst 1, 1) := by decide +kernel
theorem d_Mo_countRoots_74 : decode prog_9_method_59_code 74 = .ok (.goto 4, 3) := by decide +kernel
theorem d_Mo_countRoots_77 : decode prog_9_method_59_code 77 = .ok (.iconst 0, 1) := by decide +kernel
theorem d_Mo_countRoots_78 : decode prog_9_method_59_code 78 = .ok (.iadd, 1) := by decide +kernel
theorem d_Mo_countRoots_79 : decode prog_9_method_59_code 79 = .ok (.istore_n 2, 1) := by decide +kernel
theorem d_Mo_countRoots_80 : decode prog_9_method_59_code 80 = .ok (.iinc 4 1, 3) := by decide +kernel
theorem d_Mo_countRoots_83 : decode prog_9_method_59_code 83 = .ok (.goto (-63), 3) := by decide +kernel
theorem d_Mo_countRoots_86 : decode prog_9_method_59_code 86 = .ok (.iinc 3 1, 3) := by decide +kernel
theorem d_Mo_countRoots_89 : decode prog_9_method_59_code 89 = .ok (.goto (-85), 3) := by decide +kernel
theorem d_Mo_countRoots_92 : decode prog_9_method_59_code 92 = .ok (.iload_n 2, 1) := by decide +kernel
theorem d_Mo_countRoots_93 : decode prog_9_method_59_code 93 = .ok (.ireturn, 1) := by decide +kernel
set_option maxHeartbeats 8000000 in
set_option maxRecDepth 100000 in
theorem c_Mo_countRoots_0 (l : Launch) (D : va_G) (cs : Nat → ClassId) (L : List Nat) (f : Nat → va_E) (sz : Nat) (y m1 m2 m3 m5 m6 m7 m8 m9 m10 m11 m12 m13 m15 : Nat) (th rw_ fu fb : Int) (a1 : Int) (hF : Fc L [y]) (ha : f y = .inr (7, [.int (iI th), .ref m1, .ref m2, .ref m3, .int (iI 0), .ref m5, .ref m6, .ref m7, .ref m8, .ref m9, .ref m10, .ref m11, .ref m12, .ref m13, .int (iI rw_), .ref m15, .long (lI fu), .long (lI fb)])) : Met l (⟨"RealRootsModel", "countRoots", "(I)I"⟩ : MethodName) (.code (⟨"RealRootsModel", "countRoots", "(I)I"⟩ : MethodName) prog_9_method_59_code 6 (Option.some Jvm.ClassFile.FieldType.int) :: gw) ({ frames := 0, cells := 0, slots := 0, locals := 0 }) (va_Pc [.ref y, .int (iI a1)] (K0 D vwCl (TY cs) L f sz)) (va_Qi (fun (r : Int32) (g : Nat → va_E) => r = iI 0 ∧ g = f) (K1 D vwCl (TY cs) (AL L sz) L) (AL L sz)) 0 0 (AL L sz) := by
  refine Met.ofW (cc := prog_9_method_59_code) (maxL := 6) (ret := (Option.some Jvm.ClassFile.FieldType.int)) (by decide) rfl ?_
  intro p e s m args below meth c s₁ Bd hml hv
  obtain ⟨rfl, hk0⟩ := hv
  obtain ⟨hsz, B⟩ := hk0.start
  subst hsz
  have hx := Bd.exec
  have hb := Bd.bytes
  have hr := Bd.returns
  have hlocks := Bd.notSynchronized
  have hts0 := atoms_spec Bd.pre
  have hown : s.vm.findClass RX7 = some m.cls := findClass_of_methodNamed Bd.named
  have hA : ∀ q, s.heap.size ≤ q → AL L s.heap.size q := fun _ h => Or.inr h
  have hl := lv_entry ([.ref y, .int (iI a1)]) (n := 6) (Nat.le_of_ble_eq_true rfl)
  rw [lg_entry_eq]
  generalize (lg_sl ([.ref y, .int (iI a1)]) ++ List.replicate (6 - (lg_sl ([.ref y, .int (iI a1)])).length) Slot.unset).toArray = ls at hl ⊢
  refine absQ (fun Q R av hQ hR hav => ?_)
  have hts : ∀ w ∈ gw, w.before av s = true := by rw [hav]; exact fun w h => hts0 w (List.mem_cons_of_mem _ h)
  have hRf : R.frames = 0 := by rw [hR]; rfl
  have hRl : R.locals = 0 := by rw [hR]; rfl
  have hRc : R.cells = 0 := by rw [hR]; rfl
  have hRs : R.slots = 0 := by rw [hR]; rfl
  clear hR hts0 Bd
  have hl : lv_has ls 6 [(0, .ref y), (1, .int (iI a1))] := hl
  have hfx : ∀ q ∈ ([(y, .inr (7, [.int (iI th), .ref m1, .ref m2, .ref m3, .int (iI 0), .ref m5, .ref m6, .ref m7, .ref m8, .ref m9, .ref m10, .ref m11, .ref m12, .ref m13, .int (iI rw_), .ref m15, .long (lI fu), .long (lI fb)]))] : List (Nat × va_E)), f q.1 = q.2 := fun q hq => by
    simp only [List.mem_cons, List.not_mem_nil, or_false] at hq
    rcases hq with rfl
    · exact ha
  have hmw : mw f [(y, .inr (7, [.int (iI th), .ref m1, .ref m2, .ref m3, .int (iI 0), .ref m5, .ref m6, .ref m7, .ref m8, .ref m9, .ref m10, .ref m11, .ref m12, .ref m13, .int (iI rw_), .ref m15, .long (lI fu), .long (lI fb)]))] = f := mw_self (fun k a e hk => hfx (a, e) (List.mem_of_getElem? hk))
  have B := B.focus [(y, .inr (7, [.int (iI th), .ref m1, .ref m2, .ref m3, .int (iI 0), .ref m5, .ref m6, .ref m7, .ref m8, .ref m9, .ref m10, .ref m11, .ref m12, .ref m13, .int (iI rw_), .ref m15, .long (lI fu), .long (lI fb)]))] hfx
  refine x_iconst hx hb d_Mo_countRoots_0 ?_
  refine lv_istore_n (lv' := [(2, .int (iI 0)), (0, .ref y), (1, .int (iI a1))]) hx hb d_Mo_countRoots_1 rfl hl (by decide) rfl (fun ls hl => ?_)
  refine x_iconst hx hb d_Mo_countRoots_2 ?_
  refine lv_istore_n (lv' := [(3, .int (iI 0)), (2, .int (iI 0)), (0, .ref y), (1, .int (iI a1))]) hx hb d_Mo_countRoots_3 rfl hl (by decide) rfl (fun ls hl => ?_)
  refine lv_iload_n hx hb d_Mo_countRoots_4 rfl (lv_at hl 0 rfl) ?_
  refine lv_aload_n hx hb d_Mo_countRoots_5 rfl (lv_at hl 2 rfl) ?_
  refine x_get (C := RX7) (T := TX7) (N := 18) hx hb hts inX7 hown B hF 0 rfl rfl 4 (by decide) (hts _ w_681) (fun _ h9 => h9) rfl d_Mo_countRoots_6 ?_
  refine x_icmp_ge (tgt := 92) hx hb d_Mo_countRoots_9 (by decide) (by omega) (by omega) (fun h9 => ?_) (fun h9 => ?_)
  · refine lv_iload_n hx hb d_Mo_countRoots_92 rfl (lv_at hl 1 rfl) ?_
    have B := B.of_eq hmw
    subst hQ hav
    exact x_iret hx hb hr hlocks B d_Mo_countRoots_93 (⟨rfl, rfl⟩)
  · exfalso; omega
theorem d_Mo_all_0 : decode prog_9_method_61_code 0 = .ok (.aload_n 0, 1) := by decide +kernel
theorem d_Mo_all_1 : decode prog_9_method_61_code 1 = .ok (.iconst 0, 1) := by decide +kernel
theorem d_Mo_all_2 : decode prog_9_method_61_code 2 = .ok (.putfield 51, 3) := by decide +kernel
theorem d_Mo_all_5 : decode prog_9_method_61_code 5 = .ok (.aload_n 0, 1) := by decide +kernel
theorem d_Mo_all_6 : decode prog_9_method_61_code 6 = .ok (.iconst (-1), 1) := by decide +kernel
theorem d_Mo_all_7 : decode prog_9_method_61_code 7 = .ok (.invokevirtual 243, 3) := by decide +kernel
theorem d_Mo_all_10 : decode prog_9_method_61_code 10 = .ok (.ireturn, 1) := by decide +kernel
set_option maxHeartbeats 8000000 in
set_option maxRecDepth 100000 in
theorem c_Mo_all_0 (l : Launch) (D : va_G) (cs : Nat → ClassId) (L : List Nat) (f : Nat → va_E) (sz : Nat) (y m1 m2 m3 m5 m6 m7 m8 m9 m10 m11 m12 m13 m15 : Nat) (th rw_ fu fb : Int) (hF : Fc L [y]) (ha : f y = .inr (7, [.int (iI th), .ref m1, .ref m2, .ref m3, .int (iI 0), .ref m5, .ref m6, .ref m7, .ref m8, .ref m9, .ref m10, .ref m11, .ref m12, .ref m13, .int (iI rw_), .ref m15, .long (lI fu), .long (lI fb)])) : Met l (⟨"RealRootsModel", "all", "()I"⟩ : MethodName) (.code (⟨"RealRootsModel", "all", "()I"⟩ : MethodName) prog_9_method_61_code 1 (Option.some Jvm.ClassFile.FieldType.int) :: gw) ({ frames := 1, cells := 0, slots := 0, locals := 30 }) (va_Pc [.ref y] (K0 D vwCl (TY cs) L f sz)) (va_Qi (fun (r : Int32) (g : Nat → va_E) => r = iI 0 ∧ g = mw f [(y, .inr (7, [.int (iI 0), .ref m1, .ref m2, .ref m3, .int (iI 0), .ref m5, .ref m6, .ref m7, .ref m8, .ref m9, .ref m10, .ref m11, .ref m12, .ref m13, .int (iI rw_), .ref m15, .long (lI fu), .long (lI fb)]))]) (K1 D vwCl (TY cs) (AL L sz) L) (AL L sz)) 0 0 (AL L sz) := by
  refine Met.ofW (cc := prog_9_method_61_code) (maxL := 1) (ret := (Option.some Jvm.ClassFile.FieldType.int)) (by decide) rfl ?_
  intro p e s m args below meth c s₁ Bd hml hv
  obtain ⟨rfl, hk0⟩ := hv
  obtain ⟨hsz, B⟩ := hk0.start
  subst hsz
  have hx := Bd.exec
  have hb := Bd.bytes
  have hr := Bd.returns
  have hlocks := Bd.notSynchronized
  have hts0 := atoms_spec Bd.pre
  have hown : s.vm.findClass RX7 = some m.cls := findClass_of_methodNamed Bd.named
  have hA : ∀ q, s.heap.size ≤ q → AL L s.heap.size q := fun _ h => Or.inr h
  have hl := lv_entry ([.ref y]) (n := 1) (Nat.le_of_ble_eq_true rfl)
  rw [lg_entry_eq]
  generalize (lg_sl ([.ref y]) ++ List.replicate (1 - (lg_sl ([.ref y])).length) Slot.unset).toArray = ls at hl ⊢
  refine absQ (fun Q R av hQ hR hav => ?_)
  have hts : ∀ w ∈ gw, w.before av s = true := by rw [hav]; exact fun w h => hts0 w (List.mem_cons_of_mem _ h)
  have hRf : R.frames = 1 := by rw [hR]; rfl
  have hRl : R.locals = 30 := by rw [hR]; rfl
  have hRc : R.cells = 0 := by rw [hR]; rfl
  have hRs : R.slots = 0 := by rw [hR]; rfl
  clear hR hts0 Bd
  have hl : lv_has ls 1 [(0, .ref y)] := hl
  have hfx : ∀ q ∈ ([(y, .inr (7, [.int (iI th), .ref m1, .ref m2, .ref m3, .int (iI 0), .ref m5, .ref m6, .ref m7, .ref m8, .ref m9, .ref m10, .ref m11, .ref m12, .ref m13, .int (iI rw_), .ref m15, .long (lI fu), .long (lI fb)]))] : List (Nat × va_E)), f q.1 = q.2 := fun q hq => by
    simp only [List.mem_cons, List.not_mem_nil, or_false] at hq
    rcases hq with rfl
    · exact ha
  have hmw : mw f [(y, .inr (7, [.int (iI th), .ref m1, .ref m2, .ref m3, .int (iI 0), .ref m5, .ref m6, .ref m7, .ref m8, .ref m9, .ref m10, .ref m11, .ref m12, .ref m13, .int (iI rw_), .ref m15, .long (lI fu), .long (lI fb)]))] = f := mw_self (fun k a e hk => hfx (a, e) (List.mem_of_getElem? hk))
  have B := B.focus [(y, .inr (7, [.int (iI th), .ref m1, .ref m2, .ref m3, .int (iI 0), .ref m5, .ref m6, .ref m7, .ref m8, .ref m9, .ref m10, .ref m11, .ref m12, .ref m13, .int (iI rw_), .ref m15, .long (lI fu), .long (lI fb)]))] hfx
  refine lv_aload_n hx hb d_Mo_all_0 rfl (lv_at hl 0 rfl) ?_
  refine x_iconst hx hb d_Mo_all_1 ?_
  refine x_put (C := RX7) (T := TX7) (N := 18) hx hb hts inX7 tyX7 tyX7_ok nmX7 hown B hF 0 rfl rfl 0 (by decide) (hts _ w_677) (fun _ h9 => h9) rfl (tyX7_ok 0 (by decide)) rfl rfl (Nat.le_of_ble_eq_true rfl) d_Mo_all_2 (fun H locs B => ?_)
  have B : Wb D vwCl (TY cs) L (mw f [(y, .inr (7, [.int (iI 0), .ref m1, .ref m2, .ref m3, .int (iI 0), .ref m5, .ref m6, .ref m7, .ref m8, .ref m9, .ref m10, .ref m11, .ref m12, .ref m13, .int (iI rw_), .ref m15, .long (lI fu), .long (lI fb)]))]) (AL L s.heap.size) s H _ := B
  refine lv_aload_n hx hb d_Mo_all_5 rfl (lv_at hl 0 rfl) ?_
  refine x_iconst hx hb d_Mo_all_6 ?_
  refine x_calli B hA (va_runV (As := [.int (iI (-1))]) (rest := []) ⟨hx, hb, hml, hown, hts⟩ (c_Mo_countRoots_0 l D cs _ _ _ y m1 m2 m3 m5 m6 m7 m8 m9 m10 m11 m12 m13 m15 0 rw_ fu fb (-1) hF (mw_get (X := [(y, .inr (7, [.int (iI 0), .ref m1, .ref m2, .ref m3, .int (iI 0), .ref m5, .ref m6, .ref m7, .ref m8, .ref m9, .ref m10, .ref m11, .ref m12, .ref m13, .int (iI rw_), .ref m15, .long (lI fu), .long (lI fb)]))]) hF.1 (k := 0) rfl)) (cwV 1 hts (gw_V w_966 w_968 s_67 w_8 w_969) rfl rfl rfl (by decide +kernel) ⟨by rw [hRf]; exact Nat.le_of_ble_eq_true rfl, by rw [hRl]; exact Nat.le_of_ble_eq_true rfl⟩) ⟨K0.blind, B.recv (hF.2 _ (mw_key (k := 0) (X := [(y, .inr (7, [.int (iI 0), .ref m1, .ref m2, .ref m3, .int (iI 0), .ref m5, .ref m6, .ref m7, .ref m8, .ref m9, .ref m10, .ref m11, .ref m12, .ref m13, .int (iI rw_), .ref m15, .long (lI fu), .long (lI fb)]))]) rfl)) (mw_get (X := [(y, .inr (7, [.int (iI 0), .ref m1, .ref m2, .ref m3, .int (iI 0), .ref m5, .ref m6, .ref m7, .ref m8, .ref m9, .ref m10, .ref m11, .ref m12, .ref m13, .int (iI rw_), .ref m15, .long (lI fu), .long (lI fb)]))]) hF.1 (k := 0) rfl) rfl, B.pre _⟩ rfl rfl hl.1 rfl (lv_room (Nat.le_of_ble_eq_true rfl)) d_Mo_all_7 ⟨by rw [hRc]; omega, by rw [hRs]; omega⟩) (fun r7 g7 H locs hw B => ?_)
  obtain ⟨rfl, rfl⟩ := hw
  have B : Wb D vwCl (TY cs) L (mw f [(y, .inr (7, [.int (iI 0), .ref m1, .ref m2, .ref m3, .int (iI 0), .ref m5, .ref m6, .ref m7, .ref m8, .ref m9, .ref m10, .ref m11, .ref m12, .ref m13, .int (iI rw_), .ref m15, .long (lI fu), .long (lI fb)]))]) (AL L s.heap.size) s H _ := B
  subst hQ hav
  exact x_iret hx hb hr hlocks B d_Mo_all_10 (⟨rfl, rfl⟩)
