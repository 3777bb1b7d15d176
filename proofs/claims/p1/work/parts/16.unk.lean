theorem d_RR_newton_0 : decode prog_1_method_18_code 0 = .ok (.aload_n 0, 1) := by decide +kernel
theorem d_RR_newton_1 : decode prog_1_method_18_code 1 = .ok (.iload_n 1, 1) := by decide +kernel
theorem d_RR_newton_2 : decode prog_1_method_18_code 2 = .ok (.invokevirtual 78, 3) := by decide +kernel
theorem d_RR_newton_5 : decode prog_1_method_18_code 5 = .ok (.ifCond .eq 7, 3) := by decide +kernel
theorem d_RR_newton_8 : decode prog_1_method_18_code 8 = .ok (.ldc2_w 121, 3) := by decide +kernel
theorem d_RR_newton_11 : decode prog_1_method_18_code 11 = .ok (.lreturn, 1) := by decide +kernel
theorem d_RR_newton_12 : decode prog_1_method_18_code 12 = .ok (.iload_n 2, 1) := by decide +kernel
theorem d_RR_newton_13 : decode prog_1_method_18_code 13 = .ok (.iload_n 3, 1) := by decide +kernel
theorem d_RR_newton_14 : decode prog_1_method_18_code 14 = .ok (.invokestatic 176, 3) := by decide +kernel
theorem d_RR_newton_17 : decode prog_1_method_18_code 17 = .ok (.ifCond .ne 14, 3) := by decide +kernel
theorem d_RR_newton_20 : decode prog_1_method_18_code 20 = .ok (.iload 4, 2) := by decide +kernel
theorem d_RR_newton_22 : decode prog_1_method_18_code 22 = .ok (.ifCond .lt 9, 3) := by decide +kernel
theorem d_RR_newton_25 : decode prog_1_method_18_code 25 = .ok (.iload 4, 2) := by decide +kernel
theorem d_RR_newton_27 : decode prog_1_method_18_code 27 = .ok (.iconst 1, 1) := by decide +kernel
theorem d_RR_newton_28 : decode prog_1_method_18_code 28 = .ok (.if_icmp .le 7, 3) := by decide +kernel
theorem d_RR_newton_31 : decode prog_1_method_18_code 31 = .ok (.ldc2_w 123, 3) := by decide +kernel
theorem d_RR_newton_34 : decode prog_1_method_18_code 34 = .ok (.lreturn, 1) := by decide +kernel
theorem d_RR_newton_35 : decode prog_1_method_18_code 35 = .ok (.aload_n 0, 1) := by decide +kernel
theorem d_RR_newton_36 : decode prog_1_method_18_code 36 = .ok (.getfield 11, 3) := by decide +kernel
theorem d_RR_newton_39 : decode prog_1_method_18_code 39 = .ok (.iload_n 1, 1) := by decide +kernel
theorem d_RR_newton_40 : decode prog_1_method_18_code 40 = .ok (.aaload, 1) := by decide +kernel
theorem d_RR_newton_41 : decode prog_1_method_18_code 41 = .ok (.getfield 82, 3) := by decide +kernel
theorem d_RR_newton_44 : decode prog_1_method_18_code 44 = .ok (.aload_n 0, 1) := by decide +kernel
theorem d_RR_newton_45 : decode prog_1_method_18_code 45 = .ok (.getfield 44, 3) := by decide +kernel
theorem d_RR_newton_48 : decode prog_1_method_18_code 48 = .ok (.invokestatic 108, 3) := by decide +kernel
theorem d_RR_newton_51 : decode prog_1_method_18_code 51 = .ok (.aload_n 0, 1) := by decide +kernel
theorem d_RR_newton_52 : decode prog_1_method_18_code 52 = .ok (.getfield 29, 3) := by decide +kernel
theorem d_RR_newton_55 : decode prog_1_method_18_code 55 = .ok (.iload_n 2, 1) := by decide +kernel
theorem d_RR_newton_56 : decode prog_1_method_18_code 56 = .ok (.i2l, 1) := by decide +kernel
theorem d_RR_newton_57 : decode prog_1_method_18_code 57 = .ok (.iload_n 3, 1) := by decide +kernel
theorem d_RR_newton_58 : decode prog_1_method_18_code 58 = .ok (.i2l, 1) := by decide +kernel
theorem d_RR_newton_59 : decode prog_1_method_18_code 59 = .ok (.invokevirtual 183, 3) := by decide +kernel
theorem d_RR_newton_62 : decode prog_1_method_18_code 62 = .ok (.aload_n 0, 1) := by decide +kernel
theorem d_RR_newton_63 : decode prog_1_method_18_code 63 = .ok (.getfield 29, 3) := by decide +kernel
theorem d_RR_newton_66 : decode prog_1_method_18_code 66 = .ok (.aload_n 0, 1) := by decide +kernel
theorem d_RR_newton_67 : decode prog_1_method_18_code 67 = .ok (.getfield 44, 3) := by decide +kernel
theorem d_RR_newton_70 : decode prog_1_method_18_code 70 = .ok (.invokevirtual 154, 3) := by decide +kernel
theorem d_RR_newton_73 : decode prog_1_method_18_code 73 = .ok (.aload_n 0, 1) := by decide +kernel
theorem d_RR_newton_74 : decode prog_1_method_18_code 74 = .ok (.getfield 29, 3) := by decide +kernel
theorem d_RR_newton_77 : decode prog_1_method_18_code 77 = .ok (.aload_n 0, 1) := by decide +kernel
theorem d_RR_newton_78 : decode prog_1_method_18_code 78 = .ok (.getfield 29, 3) := by decide +kernel
theorem d_RR_newton_81 : decode prog_1_method_18_code 81 = .ok (.getfield 162, 3) := by decide +kernel
theorem d_RR_newton_84 : decode prog_1_method_18_code 84 = .ok (.iconst 0, 1) := by decide +kernel
theorem d_RR_newton_85 : decode prog_1_method_18_code 85 = .ok (.aload_n 0, 1) := by decide +kernel
theorem d_RR_newton_86 : decode prog_1_method_18_code 86 = .ok (.getfield 29, 3) := by decide +kernel
theorem d_RR_newton_89 : decode prog_1_method_18_code 89 = .ok (.getfield 166, 3) := by decide +kernel
theorem d_RR_newton_92 : decode prog_1_method_18_code 92 = .ok (.invokevirtual 169, 3) := by decide +kernel
theorem d_RR_newton_95 : decode prog_1_method_18_code 95 = .ok (.ifCond .ne 13, 3) := by decide +kernel
theorem d_RR_newton_98 : decode prog_1_method_18_code 98 = .ok (.new 197, 3) := by decide +kernel
theorem d_RR_newton_101 : decode prog_1_method_18_code 101 = .ok (.dup, 1) := by decide +kernel
theorem d_RR_newton_102 : decode prog_1_method_18_code 102 = .ok (.ldc 199, 2) := by decide +kernel
theorem d_RR_newton_104 : decode prog_1_method_18_code 104 = .ok (.invokespecial 201, 3) := by decide +kernel
theorem d_RR_newton_107 : decode prog_1_method_18_code 107 = .ok (.athrow, 1) := by decide +kernel
theorem d_RR_newton_108 : decode prog_1_method_18_code 108 = .ok (.aload_n 0, 1) := by decide +kernel
theorem d_RR_newton_109 : decode prog_1_method_18_code 109 = .ok (.getfield 36, 3) := by decide +kernel
theorem d_RR_newton_112 : decode prog_1_method_18_code 112 = .ok (.getfield 204, 3) := by decide +kernel
theorem d_RR_newton_115 : decode prog_1_method_18_code 115 = .ok (.aload_n 0, 1) := by decide +kernel
theorem d_RR_newton_116 : decode prog_1_method_18_code 116 = .ok (.getfield 29, 3) := by decide +kernel
theorem d_RR_newton_119 : decode prog_1_method_18_code 119 = .ok (.getfield 208, 3) := by decide +kernel
theorem d_RR_newton_122 : decode prog_1_method_18_code 122 = .ok (.aload_n 0, 1) := by decide +kernel
theorem d_RR_newton_123 : decode prog_1_method_18_code 123 = .ok (.getfield 29, 3) := by decide +kernel
theorem d_RR_newton_126 : decode prog_1_method_18_code 126 = .ok (.getfield 209, 3) := by decide +kernel
theorem d_RR_newton_129 : decode prog_1_method_18_code 129 = .ok (.invokevirtual 212, 3) := by decide +kernel
theorem d_RR_newton_132 : decode prog_1_method_18_code 132 = .ok (.aload_n 0, 1) := by decide +kernel
theorem d_RR_newton_133 : decode prog_1_method_18_code 133 = .ok (.getfield 36, 3) := by decide +kernel
theorem d_RR_newton_136 : decode prog_1_method_18_code 136 = .ok (.getfield 218, 3) := by decide +kernel
theorem d_RR_newton_139 : decode prog_1_method_18_code 139 = .ok (.aload_n 0, 1) := by decide +kernel
theorem d_RR_newton_140 : decode prog_1_method_18_code 140 = .ok (.getfield 29, 3) := by decide +kernel
theorem d_RR_newton_143 : decode prog_1_method_18_code 143 = .ok (.getfield 221, 3) := by decide +kernel
theorem d_RR_newton_146 : decode prog_1_method_18_code 146 = .ok (.aload_n 0, 1) := by decide +kernel
theorem d_RR_newton_147 : decode prog_1_method_18_code 147 = .ok (.getfield 29, 3) := by decide +kernel
theorem d_RR_newton_150 : decode prog_1_method_18_code 150 = .ok (.getfield 209, 3) := by decide +kernel
theorem d_RR_newton_153 : decode prog_1_method_18_code 153 = .ok (.invokevirtual 212, 3) := by decide +kernel
theorem d_RR_newton_156 : decode prog_1_method_18_code 156 = .ok (.aload_n 0, 1) := by decide +kernel
theorem d_RR_newton_157 : decode prog_1_method_18_code 157 = .ok (.getfield 29, 3) := by decide +kernel
theorem d_RR_newton_160 : decode prog_1_method_18_code 160 = .ok (.aload_n 0, 1) := by decide +kernel
theorem d_RR_newton_161 : decode prog_1_method_18_code 161 = .ok (.getfield 11, 3) := by decide +kernel
theorem d_RR_newton_164 : decode prog_1_method_18_code 164 = .ok (.iload_n 1, 1) := by decide +kernel
theorem d_RR_newton_165 : decode prog_1_method_18_code 165 = .ok (.aaload, 1) := by decide +kernel
theorem d_RR_newton_166 : decode prog_1_method_18_code 166 = .ok (.getfield 82, 3) := by decide +kernel
theorem d_RR_newton_169 : decode prog_1_method_18_code 169 = .ok (.invokevirtual 154, 3) := by decide +kernel
theorem d_RR_newton_172 : decode prog_1_method_18_code 172 = .ok (.aload_n 0, 1) := by decide +kernel
theorem d_RR_newton_173 : decode prog_1_method_18_code 173 = .ok (.getfield 29, 3) := by decide +kernel
theorem d_RR_newton_176 : decode prog_1_method_18_code 176 = .ok (.aload_n 0, 1) := by decide +kernel
theorem d_RR_newton_177 : decode prog_1_method_18_code 177 = .ok (.getfield 29, 3) := by decide +kernel
theorem d_RR_newton_180 : decode prog_1_method_18_code 180 = .ok (.getfield 162, 3) := by decide +kernel
theorem d_RR_newton_183 : decode prog_1_method_18_code 183 = .ok (.iconst 0, 1) := by decide +kernel
theorem d_RR_newton_184 : decode prog_1_method_18_code 184 = .ok (.aload_n 0, 1) := by decide +kernel
theorem d_RR_newton_185 : decode prog_1_method_18_code 185 = .ok (.getfield 29, 3) := by decide +kernel
theorem d_RR_newton_188 : decode prog_1_method_18_code 188 = .ok (.getfield 166, 3) := by decide +kernel
theorem d_RR_newton_191 : decode prog_1_method_18_code 191 = .ok (.invokevirtual 169, 3) := by decide +kernel
theorem d_RR_newton_194 : decode prog_1_method_18_code 194 = .ok (.pop, 1) := by decide +kernel
theorem d_RR_newton_195 : decode prog_1_method_18_code 195 = .ok (.aload_n 0, 1) := by decide +kernel
theorem d_RR_newton_196 : decode prog_1_method_18_code 196 = .ok (.getfield 36, 3) := by decide +kernel
theorem d_RR_newton_199 : decode prog_1_method_18_code 199 = .ok (.getfield 204, 3) := by decide +kernel
theorem d_RR_newton_202 : decode prog_1_method_18_code 202 = .ok (.aload_n 0, 1) := by decide +kernel
theorem d_RR_newton_203 : decode prog_1_method_18_code 203 = .ok (.getfield 29, 3) := by decide +kernel
theorem d_RR_newton_206 : decode prog_1_method_18_code 206 = .ok (.getfield 209, 3) := by decide +kernel
theorem d_RR_newton_209 : decode prog_1_method_18_code 209 = .ok (.iconst (-1), 1) := by decide +kernel
theorem d_RR_newton_210 : decode prog_1_method_18_code 210 = .ok (.invokevirtual 222, 3) := by decide +kernel
theorem d_RR_newton_213 : decode prog_1_method_18_code 213 = .ok (.aload_n 0, 1) := by decide +kernel
theorem d_RR_newton_214 : decode prog_1_method_18_code 214 = .ok (.getfield 36, 3) := by decide +kernel
theorem d_RR_newton_217 : decode prog_1_method_18_code 217 = .ok (.ldc2_w 226, 3) := by decide +kernel
theorem d_RR_newton_220 : decode prog_1_method_18_code 220 = .ok (.invokevirtual 228, 3) := by decide +kernel
theorem d_RR_newton_223 : decode prog_1_method_18_code 223 = .ok (.ifCond .ne 7, 3) := by decide +kernel
theorem d_RR_newton_226 : decode prog_1_method_18_code 226 = .ok (.ldc2_w 232, 3) := by decide +kernel
theorem d_RR_newton_229 : decode prog_1_method_18_code 229 = .ok (.lreturn, 1) := by decide +kernel
theorem d_RR_newton_230 : decode prog_1_method_18_code 230 = .ok (.iload 4, 2) := by decide +kernel
theorem d_RR_newton_232 : decode prog_1_method_18_code 232 = .ok (.ifCond .ne 13, 3) := by decide +kernel
theorem d_RR_newton_235 : decode prog_1_method_18_code 235 = .ok (.aload_n 0, 1) := by decide +kernel
theorem d_RR_newton_236 : decode prog_1_method_18_code 236 = .ok (.getfield 36, 3) := by decide +kernel
theorem d_RR_newton_239 : decode prog_1_method_18_code 239 = .ok (.getfield 143, 3) := by decide +kernel
theorem d_RR_newton_242 : decode prog_1_method_18_code 242 = .ok (.goto 10, 3) := by decide +kernel
theorem d_RR_newton_245 : decode prog_1_method_18_code 245 = .ok (.aload_n 0, 1) := by decide +kernel
theorem d_RR_newton_246 : decode prog_1_method_18_code 246 = .ok (.getfield 36, 3) := by decide +kernel
theorem d_RR_newton_249 : decode prog_1_method_18_code 249 = .ok (.getfield 147, 3) := by decide +kernel
theorem d_RR_newton_252 : decode prog_1_method_18_code 252 = .ok (.lreturn, 1) := by decide +kernel
set_option maxHeartbeats 8000000 in
set_option maxRecDepth 100000 in
theorem c_RR_newton_u (l : Launch) (D : va_G) (cs : Nat → ClassId) (L : List Nat) (f : Nat → va_E) (sz : Nat) (x c0 c2 c3 c4 c5 c6 c7 c8 c9 c10 c11 : Nat) (hd ll ln : Int) (a1 a2 a3 a4 : Int) (hF : Fc L [x]) (ha : f x = .inr (6, [.ref c0, .int (iI hd), .ref c2, .ref c3, .ref c4, .ref c5, .ref c6, .ref c7, .ref c8, .ref c9, .ref c10, .ref c11, .int (iI ll), .int (iI ln)])) (hhd : 0 ≤ hd ∧ hd ≤ 12) (ha1 : -2147483648 ≤ a1 ∧ a1 < 2147483648) (ha2 : -2147483648 ≤ a2 ∧ a2 < 2147483648) (ha3 : -2147483648 ≤ a3 ∧ a3 < 2147483648) (ha4 : -2147483648 ≤ a4 ∧ a4 < 2147483648) (hun : a1 < 0 ∨ hd ≤ a1) : Met l (⟨"RealRoots", "newton", "(IIII)J"⟩ : MethodName) (.code (⟨"RealRoots", "newton", "(IIII)J"⟩ : MethodName) prog_1_method_18_code 5 (Option.some Jvm.ClassFile.FieldType.long) :: gw) ({ frames := 1, cells := 0, slots := 0, locals := 22 }) (va_Pc [.ref x, .int (iI a1), .int (iI a2), .int (iI a3), .int (iI a4)] (K0 D vwCl (TY cs) L f sz)) (va_Ql (fun (r : Int64) (g : Nat → va_E) => r = lI (-4000000000000000000) ∧ g = f) (K1 D vwCl (TY cs) (AL L sz) L) (AL L sz)) 0 0 (AL L sz) := by
  refine Met.ofW (cc := prog_1_method_18_code) (maxL := 5) (ret := (Option.some Jvm.ClassFile.FieldType.long)) (by decide) rfl ?_
  intro p e s m args below meth c s₁ Bd hml hv
  obtain ⟨rfl, hk0⟩ := hv
  obtain ⟨hsz, B⟩ := hk0.start
  subst hsz
  have hx := Bd.exec
  have hb := Bd.bytes
  have hr := Bd.returns
  have hlocks := Bd.notSynchronized
  have hts0 := atoms_spec Bd.pre
  have hown : s.vm.findClass RX6 = some m.cls := findClass_of_methodNamed Bd.named
  have hA : ∀ q, s.heap.size ≤ q → AL L s.heap.size q := fun _ h => Or.inr h
  have hl := lv_entry ([.ref x, .int (iI a1), .int (iI a2), .int (iI a3), .int (iI a4)]) (n := 5) (Nat.le_of_ble_eq_true rfl)
  rw [lg_entry_eq]
  generalize (lg_sl ([.ref x, .int (iI a1), .int (iI a2), .int (iI a3), .int (iI a4)]) ++ List.replicate (5 - (lg_sl ([.ref x, .int (iI a1), .int (iI a2), .int (iI a3), .int (iI a4)])).length) Slot.unset).toArray = ls at hl ⊢
  refine absQ (fun Q R av hQ hR hav => ?_)
  have hts : ∀ w ∈ gw, w.before av s = true := by rw [hav]; exact fun w h => hts0 w (List.mem_cons_of_mem _ h)
  have hRf : R.frames = 1 := by rw [hR]; rfl
  have hRl : R.locals = 22 := by rw [hR]; rfl
  have hRc : R.cells = 0 := by rw [hR]; rfl
  have hRs : R.slots = 0 := by rw [hR]; rfl
  clear hR hts0 Bd
  have hl : lv_has ls 5 [(0, .ref x), (1, .int (iI a1)), (2, .int (iI a2)), (3, .int (iI a3)), (4, .int (iI a4))] := hl
  have hfx : ∀ q ∈ ([(x, .inr (6, [.ref c0, .int (iI hd), .ref c2, .ref c3, .ref c4, .ref c5, .ref c6, .ref c7, .ref c8, .ref c9, .ref c10, .ref c11, .int (iI ll), .int (iI ln)]))] : List (Nat × va_E)), f q.1 = q.2 := fun q hq => by
    simp only [List.mem_cons, List.not_mem_nil, or_false] at hq
    rcases hq with rfl
    · exact ha
  have hmw : mw f [(x, .inr (6, [.ref c0, .int (iI hd), .ref c2, .ref c3, .ref c4, .ref c5, .ref c6, .ref c7, .ref c8, .ref c9, .ref c10, .ref c11, .int (iI ll), .int (iI ln)]))] = f := mw_self (fun k a e hk => hfx (a, e) (List.mem_of_getElem? hk))
  have B := B.focus [(x, .inr (6, [.ref c0, .int (iI hd), .ref c2, .ref c3, .ref c4, .ref c5, .ref c6, .ref c7, .ref c8, .ref c9, .ref c10, .ref c11, .int (iI ll), .int (iI ln)]))] hfx
  refine lv_aload_n hx hb d_RR_newton_0 rfl (lv_at hl 0 rfl) ?_
  refine lv_iload_n hx hb d_RR_newton_1 rfl (lv_at hl 1 rfl) ?_
  refine x_calli B hA (va_runV (As := [.int (iI a1)]) (rest := []) ⟨hx, hb, hml, hown, hts⟩ (c_RR_unknown_t l D cs _ _ _ x c0 c2 c3 c4 c5 c6 c7 c8 c9 c10 c11 hd ll ln a1 hF (mw_get (X := [(x, .inr (6, [.ref c0, .int (iI hd), .ref c2, .ref c3, .ref c4, .ref c5, .ref c6, .ref c7, .ref c8, .ref c9, .ref c10, .ref c11, .int (iI ll), .int (iI ln)]))]) hF.1 (k := 0) rfl) hhd (by omega) (by omega)) (cwV 1 hts (gw_V w_261 w_263 s_3 w_1 w_264) rfl rfl rfl (by decide +kernel) ⟨by rw [hRf]; exact Nat.le_of_ble_eq_true rfl, by rw [hRl]; exact Nat.le_of_ble_eq_true rfl⟩) ⟨K0.blind, B.recv (hF.2 _ (mw_key (k := 0) (X := [(x, .inr (6, [.ref c0, .int (iI hd), .ref c2, .ref c3, .ref c4, .ref c5, .ref c6, .ref c7, .ref c8, .ref c9, .ref c10, .ref c11, .int (iI ll), .int (iI ln)]))]) rfl)) (mw_get (X := [(x, .inr (6, [.ref c0, .int (iI hd), .ref c2, .ref c3, .ref c4, .ref c5, .ref c6, .ref c7, .ref c8, .ref c9, .ref c10, .ref c11, .int (iI ll), .int (iI ln)]))]) hF.1 (k := 0) rfl) rfl, B.pre _⟩ rfl rfl hl.1 rfl (lv_room (Nat.le_of_ble_eq_true rfl)) d_RR_newton_2 ⟨by rw [hRc]; omega, by rw [hRs]; omega⟩) (fun r2 g2 H locs hw B => ?_)
  obtain ⟨rfl, rfl⟩ := hw
  have B : Wb D vwCl (TY cs) L (mw f [(x, .inr (6, [.ref c0, .int (iI hd), .ref c2, .ref c3, .ref c4, .ref c5, .ref c6, .ref c7, .ref c8, .ref c9, .ref c10, .ref c11, .int (iI ll), .int (iI ln)]))]) (AL L s.heap.size) s H _ := B
  refine x_if_eq (tgt := 12) hx hb d_RR_newton_5 (by decide) (by omega) (fun h5 => ?_) (fun h5 => ?_)
  · exfalso; omega
  · refine x_ldc2 (z := -4000000000000000000) hx hb hown (hts _ w_491) (by decide) d_RR_newton_8 ?_
    have B := B.of_eq hmw
    subst hQ hav
    exact x_lret hx hb hr hlocks B d_RR_newton_11 (⟨rfl, rfl⟩)
theorem d_RR_times_0 : decode prog_1_method_8_code 0 = .ok (.iload_n 2, 1) := by decide +kernel
theorem d_RR_times_1 : decode prog_1_method_8_code 1 = .ok (.ifCond .lt 12, 3) := by decide +kernel
theorem d_RR_times_4 : decode prog_1_method_8_code 4 = .ok (.iload_n 2, 1) := by decide +kernel
theorem d_RR_times_5 : decode prog_1_method_8_code 5 = .ok (.aload_n 0, 1) := by decide +kernel
theorem d_RR_times_6 : decode prog_1_method_8_code 6 = .ok (.iload_n 1, 1) := by decide +kernel
theorem d_RR_times_7 : decode prog_1_method_8_code 7 = .ok (.invokevirtual 100, 3) := by decide +kernel
theorem d_RR_times_10 : decode prog_1_method_8_code 10 = .ok (.if_icmp .lt 5, 3) := by decide +kernel
theorem d_RR_times_13 : decode prog_1_method_8_code 13 = .ok (.iconst (-1), 1) := by decide +kernel
theorem d_RR_times_14 : decode prog_1_method_8_code 14 = .ok (.ireturn, 1) := by decide +kernel
theorem d_RR_times_15 : decode prog_1_method_8_code 15 = .ok (.aload_n 0, 1) := by decide +kernel
theorem d_RR_times_16 : decode prog_1_method_8_code 16 = .ok (.getfield 11, 3) := by decide +kernel
theorem d_RR_times_19 : decode prog_1_method_8_code 19 = .ok (.iload_n 1, 1) := by decide +kernel
theorem d_RR_times_20 : decode prog_1_method_8_code 20 = .ok (.aaload, 1) := by decide +kernel
theorem d_RR_times_21 : decode prog_1_method_8_code 21 = .ok (.astore_n 3, 1) := by decide +kernel
theorem d_RR_times_22 : decode prog_1_method_8_code 22 = .ok (.aload_n 3, 1) := by decide +kernel
theorem d_RR_times_23 : decode prog_1_method_8_code 23 = .ok (.getfield 82, 3) := by decide +kernel
theorem d_RR_times_26 : decode prog_1_method_8_code 26 = .ok (.aload_n 0, 1) := by decide +kernel
theorem d_RR_times_27 : decode prog_1_method_8_code 27 = .ok (.getfield 44, 3) := by decide +kernel
theorem d_RR_times_30 : decode prog_1_method_8_code 30 = .ok (.invokestatic 104, 3) := by decide +kernel
theorem d_RR_times_33 : decode prog_1_method_8_code 33 = .ok (.iconst 1, 1) := by decide +kernel
theorem d_RR_times_34 : decode prog_1_method_8_code 34 = .ok (.istore 4, 2) := by decide +kernel
theorem d_RR_times_36 : decode prog_1_method_8_code 36 = .ok (.iload 4, 2) := by decide +kernel
theorem d_RR_times_38 : decode prog_1_method_8_code 38 = .ok (.bipush 6, 2) := by decide +kernel
theorem d_RR_times_40 : decode prog_1_method_8_code 40 = .ok (.if_icmp .ge 48, 3) := by decide +kernel
theorem d_RR_times_43 : decode prog_1_method_8_code 43 = .ok (.aload_n 0, 1) := by decide +kernel
theorem d_RR_times_44 : decode prog_1_method_8_code 44 = .ok (.getfield 44, 3) := by decide +kernel
theorem d_RR_times_47 : decode prog_1_method_8_code 47 = .ok (.aload_n 0, 1) := by decide +kernel
theorem d_RR_times_48 : decode prog_1_method_8_code 48 = .ok (.getfield 44, 3) := by decide +kernel
theorem d_RR_times_51 : decode prog_1_method_8_code 51 = .ok (.invokestatic 108, 3) := by decide +kernel
theorem d_RR_times_54 : decode prog_1_method_8_code 54 = .ok (.aload_n 0, 1) := by decide +kernel
theorem d_RR_times_55 : decode prog_1_method_8_code 55 = .ok (.aload_n 3, 1) := by decide +kernel
theorem d_RR_times_56 : decode prog_1_method_8_code 56 = .ok (.getfield 111, 3) := by decide +kernel
theorem d_RR_times_59 : decode prog_1_method_8_code 59 = .ok (.aload_n 0, 1) := by decide +kernel
theorem d_RR_times_60 : decode prog_1_method_8_code 60 = .ok (.getfield 44, 3) := by decide +kernel
theorem d_RR_times_63 : decode prog_1_method_8_code 63 = .ok (.invokevirtual 114, 3) := by decide +kernel
theorem d_RR_times_66 : decode prog_1_method_8_code 66 = .ok (.aload_n 0, 1) := by decide +kernel
theorem d_RR_times_67 : decode prog_1_method_8_code 67 = .ok (.aload_n 3, 1) := by decide +kernel
theorem d_RR_times_68 : decode prog_1_method_8_code 68 = .ok (.iload_n 2, 1) := by decide +kernel
theorem d_RR_times_69 : decode prog_1_method_8_code 69 = .ok (.aload_n 0, 1) := by decide +kernel
theorem d_RR_times_70 : decode prog_1_method_8_code 70 = .ok (.getfield 48, 3) := by decide +kernel
theorem d_RR_times_73 : decode prog_1_method_8_code 73 = .ok (.invokevirtual 117, 3) := by decide +kernel
theorem d_RR_times_76 : decode prog_1_method_8_code 76 = .ok (.ifCond .ne 6, 3) := by decide +kernel
theorem d_RR_times_79 : decode prog_1_method_8_code 79 = .ok (.iload 4, 2) := by decide +kernel
theorem d_RR_times_81 : decode prog_1_method_8_code 81 = .ok (.ireturn, 1) := by decide +kernel
theorem d_RR_times_82 : decode prog_1_method_8_code 82 = .ok (.iinc 4 1, 3) := by decide +kernel
theorem d_RR_times_85 : decode prog_1_method_8_code 85 = .ok (.goto (-49), 3) := by decide +kernel
theorem d_RR_times_88 : decode prog_1_method_8_code 88 = .ok (.iconst 5, 1) := by decide +kernel
theorem d_RR_times_89 : decode prog_1_method_8_code 89 = .ok (.ireturn, 1) := by decide +kernel
set_option maxHeartbeats 8000000 in
set_option maxRecDepth 100000 in
theorem c_RR_times_u (l : Launch) (D : va_G) (cs : Nat → ClassId) (L : List Nat) (f : Nat → va_E) (sz : Nat) (x c0 c2 c3 c4 c5 c6 c7 c8 c9 c10 c11 : Nat) (hd ll ln : Int) (a1 a2 : Int) (hF : Fc L [x]) (ha : f x = .inr (6, [.ref c0, .int (iI hd), .ref c2, .ref c3, .ref c4, .ref c5, .ref c6, .ref c7, .ref c8, .ref c9, .ref c10, .ref c11, .int (iI ll), .int (iI ln)])) (hhd : 0 ≤ hd ∧ hd ≤ 12) (ha1 : -2147483648 ≤ a1 ∧ a1 < 2147483648) (ha2 : -2147483648 ≤ a2 ∧ a2 < 2147483648) (hun : a1 < 0 ∨ hd ≤ a1) : Met l (⟨"RealRoots", "times", "(II)I"⟩ : MethodName) (.code (⟨"RealRoots", "times", "(II)I"⟩ : MethodName) prog_1_method_8_code 5 (Option.some Jvm.ClassFile.FieldType.int) :: gw) ({ frames := 2, cells := 0, slots := 0, locals := 44 }) (va_Pc [.ref x, .int (iI a1), .int (iI a2)] (K0 D vwCl (TY cs) L f sz)) (va_Qi (fun (r : Int32) (g : Nat → va_E) => r = iI (-1) ∧ g = f) (K1 D vwCl (TY cs) (AL L sz) L) (AL L sz)) 0 0 (AL L sz) := by
  refine Met.ofW (cc := prog_1_method_8_code) (maxL := 5) (ret := (Option.some Jvm.ClassFile.FieldType.int)) (by decide) rfl ?_
  intro p e s m args below meth c s₁ Bd hml hv
  obtain ⟨rfl, hk0⟩ := hv
  obtain ⟨hsz, B⟩ := hk0.start
  subst hsz
  have hx := Bd.exec
  have hb := Bd.bytes
  have hr := Bd.returns
  have hlocks := Bd.notSynchronized
  have hts0 := atoms_spec Bd.pre
  have hown : s.vm.findClass RX6 = some m.cls := findClass_of_methodNamed Bd.named
  have hA : ∀ q, s.heap.size ≤ q → AL L s.heap.size q := fun _ h => Or.inr h
  have hl := lv_entry ([.ref x, .int (iI a1), .int (iI a2)]) (n := 5) (Nat.le_of_ble_eq_true rfl)
  rw [lg_entry_eq]
  generalize (lg_sl ([.ref x, .int (iI a1), .int (iI a2)]) ++ List.replicate (5 - (lg_sl ([.ref x, .int (iI a1), .int (iI a2)])).length) Slot.unset).toArray = ls at hl ⊢
  refine absQ (fun Q R av hQ hR hav => ?_)
  have hts : ∀ w ∈ gw, w.before av s = true := by rw [hav]; exact fun w h => hts0 w (List.mem_cons_of_mem _ h)
  have hRf : R.frames = 2 := by rw [hR]; rfl
  have hRl : R.locals = 44 := by rw [hR]; rfl
  have hRc : R.cells = 0 := by rw [hR]; rfl
  have hRs : R.slots = 0 := by rw [hR]; rfl
  clear hR hts0 Bd
  have hl : lv_has ls 5 [(0, .ref x), (1, .int (iI a1)), (2, .int (iI a2))] := hl
  have hfx : ∀ q ∈ ([(x, .inr (6, [.ref c0, .int (iI hd), .ref c2, .ref c3, .ref c4, .ref c5, .ref c6, .ref c7, .ref c8, .ref c9, .ref c10, .ref c11, .int (iI ll), .int (iI ln)]))] : List (Nat × va_E)), f q.1 = q.2 := fun q hq => by
    simp only [List.mem_cons, List.not_mem_nil, or_false] at hq
    rcases hq with rfl
    · exact ha
  have hmw : mw f [(x, .inr (6, [.ref c0, .int (iI hd), .ref c2, .ref c3, .ref c4, .ref c5, .ref c6, .ref c7, .ref c8, .ref c9, .ref c10, .ref c11, .int (iI ll), .int (iI ln)]))] = f := mw_self (fun k a e hk => hfx (a, e) (List.mem_of_getElem? hk))
  have B := B.focus [(x, .inr (6, [.ref c0, .int (iI hd), .ref c2, .ref c3, .ref c4, .ref c5, .ref c6, .ref c7, .ref c8, .ref c9, .ref c10, .ref c11, .int (iI ll), .int (iI ln)]))] hfx
  refine lv_iload_n hx hb d_RR_times_0 rfl (lv_at hl 2 rfl) ?_
  refine x_if_lt (tgt := 13) hx hb d_RR_times_1 (by decide) (by omega) (fun h1 => ?_) (fun h1 => ?_)
  · refine x_iconst hx hb d_RR_times_13 ?_
    have B := B.of_eq hmw
    subst hQ hav
    exact x_iret hx hb hr hlocks B d_RR_times_14 (⟨rfl, rfl⟩)
  · refine lv_iload_n hx hb d_RR_times_4 rfl (lv_at hl 2 rfl) ?_
    refine lv_aload_n hx hb d_RR_times_5 rfl (lv_at hl 0 rfl) ?_
    refine lv_iload_n hx hb d_RR_times_6 rfl (lv_at hl 1 rfl) ?_
    refine x_calli B hA (va_runV (As := [.int (iI a1)]) (rest := [.int (iI a2)]) ⟨hx, hb, hml, hown, hts⟩ (c_RR_ready_t l D cs _ _ _ x c0 c2 c3 c4 c5 c6 c7 c8 c9 c10 c11 hd ll ln a1 hF (mw_get (X := [(x, .inr (6, [.ref c0, .int (iI hd), .ref c2, .ref c3, .ref c4, .ref c5, .ref c6, .ref c7, .ref c8, .ref c9, .ref c10, .ref c11, .int (iI ll), .int (iI ln)]))]) hF.1 (k := 0) rfl) hhd (by omega) (by omega)) (cwV 1 hts (gw_V w_370 w_372 s_14 w_1 w_373) rfl rfl rfl (by decide +kernel) ⟨by rw [hRf]; exact Nat.le_of_ble_eq_true rfl, by rw [hRl]; exact Nat.le_of_ble_eq_true rfl⟩) ⟨K0.blind, B.recv (hF.2 _ (mw_key (k := 0) (X := [(x, .inr (6, [.ref c0, .int (iI hd), .ref c2, .ref c3, .ref c4, .ref c5, .ref c6, .ref c7, .ref c8, .ref c9, .ref c10, .ref c11, .int (iI ll), .int (iI ln)]))]) rfl)) (mw_get (X := [(x, .inr (6, [.ref c0, .int (iI hd), .ref c2, .ref c3, .ref c4, .ref c5, .ref c6, .ref c7, .ref c8, .ref c9, .ref c10, .ref c11, .int (iI ll), .int (iI ln)]))]) hF.1 (k := 0) rfl) rfl, B.pre _⟩ rfl rfl hl.1 rfl (lv_room (Nat.le_of_ble_eq_true rfl)) d_RR_times_7 ⟨by rw [hRc]; omega, by rw [hRs]; omega⟩) (fun r7 g7 H locs hw B => ?_)
    obtain ⟨rfl, rfl⟩ := hw
    have B : Wb D vwCl (TY cs) L (mw f [(x, .inr (6, [.ref c0, .int (iI hd), .ref c2, .ref c3, .ref c4, .ref c5, .ref c6, .ref c7, .ref c8, .ref c9, .ref c10, .ref c11, .int (iI ll), .int (iI ln)]))]) (AL L s.heap.size) s H _ := B
    refine x_icmp_lt (tgt := 15) hx hb d_RR_times_10 (by decide) (by omega) (by omega) (fun h10 => ?_) (fun h10 => ?_)
    · exfalso; omega
    · refine x_iconst hx hb d_RR_times_13 ?_
      have B := B.of_eq hmw
      subst hQ hav
      exact x_iret hx hb hr hlocks B d_RR_times_14 (⟨rfl, rfl⟩)
theorem d_RR_floor_0 : decode prog_1_method_9_code 0 = .ok (.iload_n 2, 1) := by decide +kernel
theorem d_RR_floor_1 : decode prog_1_method_9_code 1 = .ok (.ifCond .lt 12, 3) := by decide +kernel
theorem d_RR_floor_4 : decode prog_1_method_9_code 4 = .ok (.iload_n 2, 1) := by decide +kernel
theorem d_RR_floor_5 : decode prog_1_method_9_code 5 = .ok (.aload_n 0, 1) := by decide +kernel
theorem d_RR_floor_6 : decode prog_1_method_9_code 6 = .ok (.iload_n 1, 1) := by decide +kernel
theorem d_RR_floor_7 : decode prog_1_method_9_code 7 = .ok (.invokevirtual 100, 3) := by decide +kernel
theorem d_RR_floor_10 : decode prog_1_method_9_code 10 = .ok (.if_icmp .lt 7, 3) := by decide +kernel
theorem d_RR_floor_13 : decode prog_1_method_9_code 13 = .ok (.ldc2_w 121, 3) := by decide +kernel
theorem d_RR_floor_16 : decode prog_1_method_9_code 16 = .ok (.lreturn, 1) := by decide +kernel
theorem d_RR_floor_17 : decode prog_1_method_9_code 17 = .ok (.iload_n 3, 1) := by decide +kernel
theorem d_RR_floor_18 : decode prog_1_method_9_code 18 = .ok (.ifCond .lt 9, 3) := by decide +kernel
theorem d_RR_floor_21 : decode prog_1_method_9_code 21 = .ok (.iload_n 3, 1) := by decide +kernel
theorem d_RR_floor_22 : decode prog_1_method_9_code 22 = .ok (.bipush 40, 2) := by decide +kernel
theorem d_RR_floor_24 : decode prog_1_method_9_code 24 = .ok (.if_icmp .le 7, 3) := by decide +kernel
theorem d_RR_floor_27 : decode prog_1_method_9_code 27 = .ok (.ldc2_w 123, 3) := by decide +kernel
theorem d_RR_floor_30 : decode prog_1_method_9_code 30 = .ok (.lreturn, 1) := by decide +kernel
theorem d_RR_floor_31 : decode prog_1_method_9_code 31 = .ok (.aload_n 0, 1) := by decide +kernel
theorem d_RR_floor_32 : decode prog_1_method_9_code 32 = .ok (.aload_n 0, 1) := by decide +kernel
theorem d_RR_floor_33 : decode prog_1_method_9_code 33 = .ok (.getfield 11, 3) := by decide +kernel
theorem d_RR_floor_36 : decode prog_1_method_9_code 36 = .ok (.iload_n 1, 1) := by decide +kernel
theorem d_RR_floor_37 : decode prog_1_method_9_code 37 = .ok (.aaload, 1) := by decide +kernel
theorem d_RR_floor_38 : decode prog_1_method_9_code 38 = .ok (.iload_n 2, 1) := by decide +kernel
theorem d_RR_floor_39 : decode prog_1_method_9_code 39 = .ok (.iload_n 3, 1) := by decide +kernel
theorem d_RR_floor_40 : decode prog_1_method_9_code 40 = .ok (.invokevirtual 125, 3) := by decide +kernel
theorem d_RR_floor_43 : decode prog_1_method_9_code 43 = .ok (.aload_n 0, 1) := by decide +kernel
theorem d_RR_floor_44 : decode prog_1_method_9_code 44 = .ok (.getfield 11, 3) := by decide +kernel
theorem d_RR_floor_47 : decode prog_1_method_9_code 47 = .ok (.iload_n 1, 1) := by decide +kernel
theorem d_RR_floor_48 : decode prog_1_method_9_code 48 = .ok (.aaload, 1) := by decide +kernel
theorem d_RR_floor_49 : decode prog_1_method_9_code 49 = .ok (.getfield 129, 3) := by decide +kernel
theorem d_RR_floor_52 : decode prog_1_method_9_code 52 = .ok (.iload_n 2, 1) := by decide +kernel
theorem d_RR_floor_53 : decode prog_1_method_9_code 53 = .ok (.aaload, 1) := by decide +kernel
theorem d_RR_floor_54 : decode prog_1_method_9_code 54 = .ok (.iload_n 3, 1) := by decide +kernel
theorem d_RR_floor_55 : decode prog_1_method_9_code 55 = .ok (.invokevirtual 133, 3) := by decide +kernel
theorem d_RR_floor_58 : decode prog_1_method_9_code 58 = .ok (.lreturn, 1) := by decide +kernel
set_option maxHeartbeats 8000000 in
set_option maxRecDepth 100000 in
theorem c_RR_floor_u (l : Launch) (D : va_G) (cs : Nat → ClassId) (L : List Nat) (f : Nat → va_E) (sz : Nat) (x c0 c2 c3 c4 c5 c6 c7 c8 c9 c10 c11 : Nat) (hd ll ln : Int) (a1 a2 a3 : Int) (hF : Fc L [x]) (ha : f x = .inr (6, [.ref c0, .int (iI hd), .ref c2, .ref c3, .ref c4, .ref c5, .ref c6, .ref c7, .ref c8, .ref c9, .ref c10, .ref c11, .int (iI ll), .int (iI ln)])) (hhd : 0 ≤ hd ∧ hd ≤ 12) (ha1 : -2147483648 ≤ a1 ∧ a1 < 2147483648) (ha2 : -2147483648 ≤ a2 ∧ a2 < 2147483648) (ha3 : -2147483648 ≤ a3 ∧ a3 < 2147483648) (hun : a1 < 0 ∨ hd ≤ a1) : Met l (⟨"RealRoots", "floor", "(III)J"⟩ : MethodName) (.code (⟨"RealRoots", "floor", "(III)J"⟩ : MethodName) prog_1_method_9_code 4 (Option.some Jvm.ClassFile.FieldType.long) :: gw) ({ frames := 2, cells := 0, slots := 0, locals := 44 }) (va_Pc [.ref x, .int (iI a1), .int (iI a2), .int (iI a3)] (K0 D vwCl (TY cs) L f sz)) (va_Ql (fun (r : Int64) (g : Nat → va_E) => r = lI (-4000000000000000000) ∧ g = f) (K1 D vwCl (TY cs) (AL L sz) L) (AL L sz)) 0 0 (AL L sz) := by
  refine Met.ofW (cc := prog_1_method_9_code) (maxL := 4) (ret := (Option.some Jvm.ClassFile.FieldType.long)) (by decide) rfl ?_
  intro p e s m args below meth c s₁ Bd hml hv
  obtain ⟨rfl, hk0⟩ := hv
  obtain ⟨hsz, B⟩ := hk0.start
  subst hsz
  have hx := Bd.exec
  have hb := Bd.bytes
  have hr := Bd.returns
  have hlocks := Bd.notSynchronized
  have hts0 := atoms_spec Bd.pre
  have hown : s.vm.findClass RX6 = some m.cls := findClass_of_methodNamed Bd.named
  have hA : ∀ q, s.heap.size ≤ q → AL L s.heap.size q := fun _ h => Or.inr h
  have hl := lv_entry ([.ref x, .int (iI a1), .int (iI a2), .int (iI a3)]) (n := 4) (Nat.le_of_ble_eq_true rfl)
  rw [lg_entry_eq]
  generalize (lg_sl ([.ref x, .int (iI a1), .int (iI a2), .int (iI a3)]) ++ List.replicate (4 - (lg_sl ([.ref x, .int (iI a1), .int (iI a2), .int (iI a3)])).length) Slot.unset).toArray = ls at hl ⊢
  refine absQ (fun Q R av hQ hR hav => ?_)
  have hts : ∀ w ∈ gw, w.before av s = true := by rw [hav]; exact fun w h => hts0 w (List.mem_cons_of_mem _ h)
  have hRf : R.frames = 2 := by rw [hR]; rfl
  have hRl : R.locals = 44 := by rw [hR]; rfl
  have hRc : R.cells = 0 := by rw [hR]; rfl
  have hRs : R.slots = 0 := by rw [hR]; rfl
  clear hR hts0 Bd
  have hl : lv_has ls 4 [(0, .ref x), (1, .int (iI a1)), (2, .int (iI a2)), (3, .int (iI a3))] := hl
  have hfx : ∀ q ∈ ([(x, .inr (6, [.ref c0, .int (iI hd), .ref c2, .ref c3, .ref c4, .ref c5, .ref c6, .ref c7, .ref c8, .ref c9, .ref c10, .ref c11, .int (iI ll), .int (iI ln)]))] : List (Nat × va_E)), f q.1 = q.2 := fun q hq => by
    simp only [List.mem_cons, List.not_mem_nil, or_false] at hq
    rcases hq with rfl
    · exact ha
  have hmw : mw f [(x, .inr (6, [.ref c0, .int (iI hd), .ref c2, .ref c3, .ref c4, .ref c5, .ref c6, .ref c7, .ref c8, .ref c9, .ref c10, .ref c11, .int (iI ll), .int (iI ln)]))] = f := mw_self (fun k a e hk => hfx (a, e) (List.mem_of_getElem? hk))
  have B := B.focus [(x, .inr (6, [.ref c0, .int (iI hd), .ref c2, .ref c3, .ref c4, .ref c5, .ref c6, .ref c7, .ref c8, .ref c9, .ref c10, .ref c11, .int (iI ll), .int (iI ln)]))] hfx
  refine lv_iload_n hx hb d_RR_floor_0 rfl (lv_at hl 2 rfl) ?_
  refine x_if_lt (tgt := 13) hx hb d_RR_floor_1 (by decide) (by omega) (fun h1 => ?_) (fun h1 => ?_)
  · refine x_ldc2 (z := -4000000000000000000) hx hb hown (hts _ w_491) (by decide) d_RR_floor_13 ?_
    have B := B.of_eq hmw
    subst hQ hav
    exact x_lret hx hb hr hlocks B d_RR_floor_16 (⟨rfl, rfl⟩)
  · refine lv_iload_n hx hb d_RR_floor_4 rfl (lv_at hl 2 rfl) ?_
    refine lv_aload_n hx hb d_RR_floor_5 rfl (lv_at hl 0 rfl) ?_
    refine lv_iload_n hx hb d_RR_floor_6 rfl (lv_at hl 1 rfl) ?_
    refine x_calli B hA (va_runV (As := [.int (iI a1)]) (rest := [.int (iI a2)]) ⟨hx, hb, hml, hown, hts⟩ (c_RR_ready_t l D cs _ _ _ x c0 c2 c3 c4 c5 c6 c7 c8 c9 c10 c11 hd ll ln a1 hF (mw_get (X := [(x, .inr (6, [.ref c0, .int (iI hd), .ref c2, .ref c3, .ref c4, .ref c5, .ref c6, .ref c7, .ref c8, .ref c9, .ref c10, .ref c11, .int (iI ll), .int (iI ln)]))]) hF.1 (k := 0) rfl) hhd (by omega) (by omega)) (cwV 1 hts (gw_V w_370 w_372 s_14 w_1 w_373) rfl rfl rfl (by decide +kernel) ⟨by rw [hRf]; exact Nat.le_of_ble_eq_true rfl, by rw [hRl]; exact Nat.le_of_ble_eq_true rfl⟩) ⟨K0.blind, B.recv (hF.2 _ (mw_key (k := 0) (X := [(x, .inr (6, [.ref c0, .int (iI hd), .ref c2, .ref c3, .ref c4, .ref c5, .ref c6, .ref c7, .ref c8, .ref c9, .ref c10, .ref c11, .int (iI ll), .int (iI ln)]))]) rfl)) (mw_get (X := [(x, .inr (6, [.ref c0, .int (iI hd), .ref c2, .ref c3, .ref c4, .ref c5, .ref c6, .ref c7, .ref c8, .ref c9, .ref c10, .ref c11, .int (iI ll), .int (iI ln)]))]) hF.1 (k := 0) rfl) rfl, B.pre _⟩ rfl rfl hl.1 rfl (lv_room (Nat.le_of_ble_eq_true rfl)) d_RR_floor_7 ⟨by rw [hRc]; omega, by rw [hRs]; omega⟩) (fun r7 g7 H locs hw B => ?_)
    obtain ⟨rfl, rfl⟩ := hw
    have B : Wb D vwCl (TY cs) L (mw f [(x, .inr (6, [.ref c0, .int (iI hd), .ref c2, .ref c3, .ref c4, .ref c5, .ref c6, .ref c7, .ref c8, .ref c9, .ref c10, .ref c11, .int (iI ll), .int (iI ln)]))]) (AL L s.heap.size) s H _ := B
    refine x_icmp_lt (tgt := 17) hx hb d_RR_floor_10 (by decide) (by omega) (by omega) (fun h10 => ?_) (fun h10 => ?_)
    · exfalso; omega
    · refine x_ldc2 (z := -4000000000000000000) hx hb hown (hts _ w_491) (by decide) d_RR_floor_13 ?_
      have B := B.of_eq hmw
      subst hQ hav
      exact x_lret hx hb hr hlocks B d_RR_floor_16 (⟨rfl, rfl⟩)
theorem d_RR_fraction_0 : decode prog_1_method_10_code 0 = .ok (.iload_n 2, 1) := by decide +kernel
theorem d_RR_fraction_1 : decode prog_1_method_10_code 1 = .ok (.ifCond .lt 12, 3) := by decide +kernel
theorem d_RR_fraction_4 : decode prog_1_method_10_code 4 = .ok (.iload_n 2, 1) := by decide +kernel
theorem d_RR_fraction_5 : decode prog_1_method_10_code 5 = .ok (.aload_n 0, 1) := by decide +kernel
theorem d_RR_fraction_6 : decode prog_1_method_10_code 6 = .ok (.iload_n 1, 1) := by decide +kernel
theorem d_RR_fraction_7 : decode prog_1_method_10_code 7 = .ok (.invokevirtual 100, 3) := by decide +kernel
theorem d_RR_fraction_10 : decode prog_1_method_10_code 10 = .ok (.if_icmp .lt 7, 3) := by decide +kernel
theorem d_RR_fraction_13 : decode prog_1_method_10_code 13 = .ok (.ldc2_w 121, 3) := by decide +kernel
theorem d_RR_fraction_16 : decode prog_1_method_10_code 16 = .ok (.lreturn, 1) := by decide +kernel
theorem d_RR_fraction_17 : decode prog_1_method_10_code 17 = .ok (.iload_n 3, 1) := by decide +kernel
theorem d_RR_fraction_18 : decode prog_1_method_10_code 18 = .ok (.ifCond .lt 8, 3) := by decide +kernel
theorem d_RR_fraction_21 : decode prog_1_method_10_code 21 = .ok (.iload_n 3, 1) := by decide +kernel
theorem d_RR_fraction_22 : decode prog_1_method_10_code 22 = .ok (.iconst 1, 1) := by decide +kernel
theorem d_RR_fraction_23 : decode prog_1_method_10_code 23 = .ok (.if_icmp .le 7, 3) := by decide +kernel
theorem d_RR_fraction_26 : decode prog_1_method_10_code 26 = .ok (.ldc2_w 123, 3) := by decide +kernel
theorem d_RR_fraction_29 : decode prog_1_method_10_code 29 = .ok (.lreturn, 1) := by decide +kernel
theorem d_RR_fraction_30 : decode prog_1_method_10_code 30 = .ok (.aload_n 0, 1) := by decide +kernel
theorem d_RR_fraction_31 : decode prog_1_method_10_code 31 = .ok (.aload_n 0, 1) := by decide +kernel
theorem d_RR_fraction_32 : decode prog_1_method_10_code 32 = .ok (.getfield 11, 3) := by decide +kernel
theorem d_RR_fraction_35 : decode prog_1_method_10_code 35 = .ok (.iload_n 1, 1) := by decide +kernel
theorem d_RR_fraction_36 : decode prog_1_method_10_code 36 = .ok (.aaload, 1) := by decide +kernel
theorem d_RR_fraction_37 : decode prog_1_method_10_code 37 = .ok (.iload_n 2, 1) := by decide +kernel
theorem d_RR_fraction_38 : decode prog_1_method_10_code 38 = .ok (.invokevirtual 139, 3) := by decide +kernel
theorem d_RR_fraction_41 : decode prog_1_method_10_code 41 = .ok (.iload_n 3, 1) := by decide +kernel
theorem d_RR_fraction_42 : decode prog_1_method_10_code 42 = .ok (.ifCond .ne 13, 3) := by decide +kernel
theorem d_RR_fraction_45 : decode prog_1_method_10_code 45 = .ok (.aload_n 0, 1) := by decide +kernel
theorem d_RR_fraction_46 : decode prog_1_method_10_code 46 = .ok (.getfield 36, 3) := by decide +kernel
theorem d_RR_fraction_49 : decode prog_1_method_10_code 49 = .ok (.getfield 143, 3) := by decide +kernel
theorem d_RR_fraction_52 : decode prog_1_method_10_code 52 = .ok (.goto 10, 3) := by decide +kernel
theorem d_RR_fraction_55 : decode prog_1_method_10_code 55 = .ok (.aload_n 0, 1) := by decide +kernel
theorem d_RR_fraction_56 : decode prog_1_method_10_code 56 = .ok (.getfield 36, 3) := by decide +kernel
theorem d_RR_fraction_59 : decode prog_1_method_10_code 59 = .ok (.getfield 147, 3) := by decide +kernel
theorem d_RR_fraction_62 : decode prog_1_method_10_code 62 = .ok (.lreturn, 1) := by decide +kernel
set_option maxHeartbeats 8000000 in
set_option maxRecDepth 100000 in
theorem c_RR_fraction_u (l : Launch) (D : va_G) (cs : Nat → ClassId) (L : List Nat) (f : Nat → va_E) (sz : Nat) (x c0 c2 c3 c4 c5 c6 c7 c8 c9 c10 c11 : Nat) (hd ll ln : Int) (a1 a2 a3 : Int) (hF : Fc L [x]) (ha : f x = .inr (6, [.ref c0, .int (iI hd), .ref c2, .ref c3, .ref c4, .ref c5, .ref c6, .ref c7, .ref c8, .ref c9, .ref c10, .ref c11, .int (iI ll), .int (iI ln)])) (hhd : 0 ≤ hd ∧ hd ≤ 12) (ha1 : -2147483648 ≤ a1 ∧ a1 < 2147483648) (ha2 : -2147483648 ≤ a2 ∧ a2 < 2147483648) (ha3 : -2147483648 ≤ a3 ∧ a3 < 2147483648) (hun : a1 < 0 ∨ hd ≤ a1) : Met l (⟨"RealRoots", "fraction", "(III)J"⟩ : MethodName) (.code (⟨"RealRoots", "fraction", "(III)J"⟩ : MethodName) prog_1_method_10_code 4 (Option.some Jvm.ClassFile.FieldType.long) :: gw) ({ frames := 2, cells := 0, slots := 0, locals := 44 }) (va_Pc [.ref x, .int (iI a1), .int (iI a2), .int (iI a3)] (K0 D vwCl (TY cs) L f sz)) (va_Ql (fun (r : Int64) (g : Nat → va_E) => r = lI (-4000000000000000000) ∧ g = f) (K1 D vwCl (TY cs) (AL L sz) L) (AL L sz)) 0 0 (AL L sz) := by
  refine Met.ofW (cc := prog_1_method_10_code) (maxL := 4) (ret := (Option.some Jvm.ClassFile.FieldType.long)) (by decide) rfl ?_
  intro p e s m args below meth c s₁ Bd hml hv
  obtain ⟨rfl, hk0⟩ := hv
  obtain ⟨hsz, B⟩ := hk0.start
  subst hsz
  have hx := Bd.exec
  have hb := Bd.bytes
  have hr := Bd.returns
  have hlocks := Bd.notSynchronized
  have hts0 := atoms_spec Bd.pre
  have hown : s.vm.findClass RX6 = some m.cls := findClass_of_methodNamed Bd.named
  have hA : ∀ q, s.heap.size ≤ q → AL L s.heap.size q := fun _ h => Or.inr h
  have hl := lv_entry ([.ref x, .int (iI a1), .int (iI a2), .int (iI a3)]) (n := 4) (Nat.le_of_ble_eq_true rfl)
  rw [lg_entry_eq]
  generalize (lg_sl ([.ref x, .int (iI a1), .int (iI a2), .int (iI a3)]) ++ List.replicate (4 - (lg_sl ([.ref x, .int (iI a1), .int (iI a2), .int (iI a3)])).length) Slot.unset).toArray = ls at hl ⊢
  refine absQ (fun Q R av hQ hR hav => ?_)
  have hts : ∀ w ∈ gw, w.before av s = true := by rw [hav]; exact fun w h => hts0 w (List.mem_cons_of_mem _ h)
  have hRf : R.frames = 2 := by rw [hR]; rfl
  have hRl : R.locals = 44 := by rw [hR]; rfl
  have hRc : R.cells = 0 := by rw [hR]; rfl
  have hRs : R.slots = 0 := by rw [hR]; rfl
  clear hR hts0 Bd
  have hl : lv_has ls 4 [(0, .ref x), (1, .int (iI a1)), (2, .int (iI a2)), (3, .int (iI a3))] := hl
  have hfx : ∀ q ∈ ([(x, .inr (6, [.ref c0, .int (iI hd), .ref c2, .ref c3, .ref c4, .ref c5, .ref c6, .ref c7, .ref c8, .ref c9, .ref c10, .ref c11, .int (iI ll), .int (iI ln)]))] : List (Nat × va_E)), f q.1 = q.2 := fun q hq => by
    simp only [List.mem_cons, List.not_mem_nil, or_false] at hq
    rcases hq with rfl
    · exact ha
  have hmw : mw f [(x, .inr (6, [.ref c0, .int (iI hd), .ref c2, .ref c3, .ref c4, .ref c5, .ref c6, .ref c7, .ref c8, .ref c9, .ref c10, .ref c11, .int (iI ll), .int (iI ln)]))] = f := mw_self (fun k a e hk => hfx (a, e) (List.mem_of_getElem? hk))
  have B := B.focus [(x, .inr (6, [.ref c0, .int (iI hd), .ref c2, .ref c3, .ref c4, .ref c5, .ref c6, .ref c7, .ref c8, .ref c9, .ref c10, .ref c11, .int (iI ll), .int (iI ln)]))] hfx
  refine lv_iload_n hx hb d_RR_fraction_0 rfl (lv_at hl 2 rfl) ?_
  refine x_if_lt (tgt := 13) hx hb d_RR_fraction_1 (by decide) (by omega) (fun h1 => ?_) (fun h1 => ?_)
  · refine x_ldc2 (z := -4000000000000000000) hx hb hown (hts _ w_491) (by decide) d_RR_fraction_13 ?_
    have B := B.of_eq hmw
    subst hQ hav
    exact x_lret hx hb hr hlocks B d_RR_fraction_16 (⟨rfl, rfl⟩)
  · refine lv_iload_n hx hb d_RR_fraction_4 rfl (lv_at hl 2 rfl) ?_
    refine lv_aload_n hx hb d_RR_fraction_5 rfl (lv_at hl 0 rfl) ?_
    refine lv_iload_n hx hb d_RR_fraction_6 rfl (lv_at hl 1 rfl) ?_
    refine x_calli B hA (va_runV (As := [.int (iI a1)]) (rest := [.int (iI a2)]) ⟨hx, hb, hml, hown, hts⟩ (c_RR_ready_t l D cs _ _ _ x c0 c2 c3 c4 c5 c6 c7 c8 c9 c10 c11 hd ll ln a1 hF (mw_get (X := [(x, .inr (6, [.ref c0, .int (iI hd), .ref c2, .ref c3, .ref c4, .ref c5, .ref c6, .ref c7, .ref c8, .ref c9, .ref c10, .ref c11, .int (iI ll), .int (iI ln)]))]) hF.1 (k := 0) rfl) hhd (by omega) (by omega)) (cwV 1 hts (gw_V w_370 w_372 s_14 w_1 w_373) rfl rfl rfl (by decide +kernel) ⟨by rw [hRf]; exact Nat.le_of_ble_eq_true rfl, by rw [hRl]; exact Nat.le_of_ble_eq_true rfl⟩) ⟨K0.blind, B.recv (hF.2 _ (mw_key (k := 0) (X := [(x, .inr (6, [.ref c0, .int (iI hd), .ref c2, .ref c3, .ref c4, .ref c5, .ref c6, .ref c7, .ref c8, .ref c9, .ref c10, .ref c11, .int (iI ll), .int (iI ln)]))]) rfl)) (mw_get (X := [(x, .inr (6, [.ref c0, .int (iI hd), .ref c2, .ref c3, .ref c4, .ref c5, .ref c6, .ref c7, .ref c8, .ref c9, .ref c10, .ref c11, .int (iI ll), .int (iI ln)]))]) hF.1 (k := 0) rfl) rfl, B.pre _⟩ rfl rfl hl.1 rfl (lv_room (Nat.le_of_ble_eq_true rfl)) d_RR_fraction_7 ⟨by rw [hRc]; omega, by rw [hRs]; omega⟩) (fun r7 g7 H locs hw B => ?_)
    obtain ⟨rfl, rfl⟩ := hw
    have B : Wb D vwCl (TY cs) L (mw f [(x, .inr (6, [.ref c0, .int (iI hd), .ref c2, .ref c3, .ref c4, .ref c5, .ref c6, .ref c7, .ref c8, .ref c9, .ref c10, .ref c11, .int (iI ll), .int (iI ln)]))]) (AL L s.heap.size) s H _ := B
    refine x_icmp_lt (tgt := 17) hx hb d_RR_fraction_10 (by decide) (by omega) (by omega) (fun h10 => ?_) (fun h10 => ?_)
    · exfalso; omega
    · refine x_ldc2 (z := -4000000000000000000) hx hb hown (hts _ w_491) (by decide) d_RR_fraction_13 ?_
      have B := B.of_eq hmw
      subst hQ hav
      exact x_lret hx hb hr hlocks B d_RR_fraction_16 (⟨rfl, rfl⟩)
theorem d_RR_rank_0 : decode prog_1_method_13_code 0 = .ok (.iload_n 2, 1) := by decide +kernel
theorem d_RR_rank_1 : decode prog_1_method_13_code 1 = .ok (.ifCond .lt 12, 3) := by decide +kernel
theorem d_RR_rank_4 : decode prog_1_method_13_code 4 = .ok (.iload_n 2, 1) := by decide +kernel
theorem d_RR_rank_5 : decode prog_1_method_13_code 5 = .ok (.aload_n 0, 1) := by decide +kernel
theorem d_RR_rank_6 : decode prog_1_method_13_code 6 = .ok (.iload_n 1, 1) := by decide +kernel
theorem d_RR_rank_7 : decode prog_1_method_13_code 7 = .ok (.invokevirtual 100, 3) := by decide +kernel
theorem d_RR_rank_10 : decode prog_1_method_13_code 10 = .ok (.if_icmp .lt 5, 3) := by decide +kernel
theorem d_RR_rank_13 : decode prog_1_method_13_code 13 = .ok (.iconst (-1), 1) := by decide +kernel
theorem d_RR_rank_14 : decode prog_1_method_13_code 14 = .ok (.ireturn, 1) := by decide +kernel
theorem d_RR_rank_15 : decode prog_1_method_13_code 15 = .ok (.iconst 0, 1) := by decide +kernel
theorem d_RR_rank_16 : decode prog_1_method_13_code 16 = .ok (.istore_n 3, 1) := by decide +kernel
theorem d_RR_rank_17 : decode prog_1_method_13_code 17 = .ok (.iload_n 3, 1) := by decide +kernel
theorem d_RR_rank_18 : decode prog_1_method_13_code 18 = .ok (.aload_n 0, 1) := by decide +kernel
theorem d_RR_rank_19 : decode prog_1_method_13_code 19 = .ok (.getfield 15, 3) := by decide +kernel
theorem d_RR_rank_22 : decode prog_1_method_13_code 22 = .ok (.if_icmp .ge 15, 3) := by decide +kernel
theorem d_RR_rank_25 : decode prog_1_method_13_code 25 = .ok (.aload_n 0, 1) := by decide +kernel
theorem d_RR_rank_26 : decode prog_1_method_13_code 26 = .ok (.iload_n 3, 1) := by decide +kernel
theorem d_RR_rank_27 : decode prog_1_method_13_code 27 = .ok (.invokevirtual 100, 3) := by decide +kernel
theorem d_RR_rank_30 : decode prog_1_method_13_code 30 = .ok (.pop, 1) := by decide +kernel
theorem d_RR_rank_31 : decode prog_1_method_13_code 31 = .ok (.iinc 3 1, 3) := by decide +kernel
theorem d_RR_rank_34 : decode prog_1_method_13_code 34 = .ok (.goto (-17), 3) := by decide +kernel
theorem d_RR_rank_37 : decode prog_1_method_13_code 37 = .ok (.aload_n 0, 1) := by decide +kernel
theorem d_RR_rank_38 : decode prog_1_method_13_code 38 = .ok (.invokevirtual 173, 3) := by decide +kernel
theorem d_RR_rank_41 : decode prog_1_method_13_code 41 = .ok (.aload_n 0, 1) := by decide +kernel
theorem d_RR_rank_42 : decode prog_1_method_13_code 42 = .ok (.getfield 60, 3) := by decide +kernel
theorem d_RR_rank_45 : decode prog_1_method_13_code 45 = .ok (.iload_n 1, 1) := by decide +kernel
theorem d_RR_rank_46 : decode prog_1_method_13_code 46 = .ok (.iconst 5, 1) := by decide +kernel
theorem d_RR_rank_47 : decode prog_1_method_13_code 47 = .ok (.imul, 1) := by decide +kernel
theorem d_RR_rank_48 : decode prog_1_method_13_code 48 = .ok (.iload_n 2, 1) := by decide +kernel
theorem d_RR_rank_49 : decode prog_1_method_13_code 49 = .ok (.iadd, 1) := by decide +kernel
theorem d_RR_rank_50 : decode prog_1_method_13_code 50 = .ok (.iaload, 1) := by decide +kernel
theorem d_RR_rank_51 : decode prog_1_method_13_code 51 = .ok (.istore_n 3, 1) := by decide +kernel
theorem d_RR_rank_52 : decode prog_1_method_13_code 52 = .ok (.iconst 0, 1) := by decide +kernel
theorem d_RR_rank_53 : decode prog_1_method_13_code 53 = .ok (.istore 4, 2) := by decide +kernel
theorem d_RR_rank_55 : decode prog_1_method_13_code 55 = .ok (.iload 4, 2) := by decide +kernel
theorem d_RR_rank_57 : decode prog_1_method_13_code 57 = .ok (.aload_n 0, 1) := by decide +kernel
theorem d_RR_rank_58 : decode prog_1_method_13_code 58 = .ok (.getfield 63, 3) := by decide +kernel
theorem d_RR_rank_61 : decode prog_1_method_13_code 61 = .ok (.if_icmp .ge 20, 3) := by decide +kernel
theorem d_RR_rank_64 : decode prog_1_method_13_code 64 = .ok (.aload_n 0, 1) := by decide +kernel
theorem d_RR_rank_65 : decode prog_1_method_13_code 65 = .ok (.getfield 57, 3) := by decide +kernel
theorem d_RR_rank_68 : decode prog_1_method_13_code 68 = .ok (.iload 4, 2) := by decide +kernel
theorem d_RR_rank_70 : decode prog_1_method_13_code 70 = .ok (.iaload, 1) := by decide +kernel
theorem d_RR_rank_71 : decode prog_1_method_13_code 71 = .ok (.iload_n 3, 1) := by decide +kernel
theorem d_RR_rank_72 : decode prog_1_method_13_code 72 = .ok (.if_icmp .eq 9, 3) := by decide +kernel
theorem d_RR_rank_75 : decode prog_1_method_13_code 75 = .ok (.iinc 4 1, 3) := by decide +kernel
theorem d_RR_rank_78 : decode prog_1_method_13_code 78 = .ok (.goto (-23), 3) := by decide +kernel
theorem d_RR_rank_81 : decode prog_1_method_13_code 81 = .ok (.iload 4, 2) := by decide +kernel
theorem d_RR_rank_83 : decode prog_1_method_13_code 83 = .ok (.ireturn, 1) := by decide +kernel
set_option maxHeartbeats 8000000 in
set_option maxRecDepth 100000 in
theorem c_RR_rank_u (l : Launch) (D : va_G) (cs : Nat → ClassId) (L : List Nat) (f : Nat → va_E) (sz : Nat) (x c0 c2 c3 c4 c5 c6 c7 c8 c9 c10 c11 : Nat) (hd ll ln : Int) (a1 a2 : Int) (hF : Fc L [x]) (ha : f x = .inr (6, [.ref c0, .int (iI hd), .ref c2, .ref c3, .ref c4, .ref c5, .ref c6, .ref c7, .ref c8, .ref c9, .ref c10, .ref c11, .int (iI ll), .int (iI ln)])) (hhd : 0 ≤ hd ∧ hd ≤ 12) (ha1 : -2147483648 ≤ a1 ∧ a1 < 2147483648) (ha2 : -2147483648 ≤ a2 ∧ a2 < 2147483648) (hun : a1 < 0 ∨ hd ≤ a1) : Met l (⟨"RealRoots", "rank", "(II)I"⟩ : MethodName) (.code (⟨"RealRoots", "rank", "(II)I"⟩ : MethodName) prog_1_method_13_code 5 (Option.some Jvm.ClassFile.FieldType.int) :: gw) ({ frames := 2, cells := 0, slots := 0, locals := 44 }) (va_Pc [.ref x, .int (iI a1), .int (iI a2)] (K0 D vwCl (TY cs) L f sz)) (va_Qi (fun (r : Int32) (g : Nat → va_E) => r = iI (-1) ∧ g = f) (K1 D vwCl (TY cs) (AL L sz) L) (AL L sz)) 0 0 (AL L sz) := by
  refine Met.ofW (cc := prog_1_method_13_code) (maxL := 5) (ret := (Option.some Jvm.ClassFile.FieldType.int)) (by decide) rfl ?_
  intro p e s m args below meth c s₁ Bd hml hv
  obtain ⟨rfl, hk0⟩ := hv
  obtain ⟨hsz, B⟩ := hk0.start
  subst hsz
  have hx := Bd.exec
  have hb := Bd.bytes
  have hr := Bd.returns
  have hlocks := Bd.notSynchronized
  have hts0 := atoms_spec Bd.pre
  have hown : s.vm.findClass RX6 = some m.cls := findClass_of_methodNamed Bd.named
  have hA : ∀ q, s.heap.size ≤ q → AL L s.heap.size q := fun _ h => Or.inr h
  have hl := lv_entry ([.ref x, .int (iI a1), .int (iI a2)]) (n := 5) (Nat.le_of_ble_eq_true rfl)
  rw [lg_entry_eq]
  generalize (lg_sl ([.ref x, .int (iI a1), .int (iI a2)]) ++ List.replicate (5 - (lg_sl ([.ref x, .int (iI a1), .int (iI a2)])).length) Slot.unset).toArray = ls at hl ⊢
  refine absQ (fun Q R av hQ hR hav => ?_)
  have hts : ∀ w ∈ gw, w.before av s = true := by rw [hav]; exact fun w h => hts0 w (List.mem_cons_of_mem _ h)
  have hRf : R.frames = 2 := by rw [hR]; rfl
  have hRl : R.locals = 44 := by rw [hR]; rfl
  have hRc : R.cells = 0 := by rw [hR]; rfl
  have hRs : R.slots = 0 := by rw [hR]; rfl
  clear hR hts0 Bd
  have hl : lv_has ls 5 [(0, .ref x), (1, .int (iI a1)), (2, .int (iI a2))] := hl
  have hfx : ∀ q ∈ ([(x, .inr (6, [.ref c0, .int (iI hd), .ref c2, .ref c3, .ref c4, .ref c5, .ref c6, .ref c7, .ref c8, .ref c9, .ref c10, .ref c11, .int (iI ll), .int (iI ln)]))] : List (Nat × va_E)), f q.1 = q.2 := fun q hq => by
    simp only [List.mem_cons, List.not_mem_nil, or_false] at hq
    rcases hq with rfl
    · exact ha
  have hmw : mw f [(x, .inr (6, [.ref c0, .int (iI hd), .ref c2, .ref c3, .ref c4, .ref c5, .ref c6, .ref c7, .ref c8, .ref c9, .ref c10, .ref c11, .int (iI ll), .int (iI ln)]))] = f := mw_self (fun k a e hk => hfx (a, e) (List.mem_of_getElem? hk))
  have B := B.focus [(x, .inr (6, [.ref c0, .int (iI hd), .ref c2, .ref c3, .ref c4, .ref c5, .ref c6, .ref c7, .ref c8, .ref c9, .ref c10, .ref c11, .int (iI ll), .int (iI ln)]))] hfx
  refine lv_iload_n hx hb d_RR_rank_0 rfl (lv_at hl 2 rfl) ?_
  refine x_if_lt (tgt := 13) hx hb d_RR_rank_1 (by decide) (by omega) (fun h1 => ?_) (fun h1 => ?_)
  · refine x_iconst hx hb d_RR_rank_13 ?_
    have B := B.of_eq hmw
    subst hQ hav
    exact x_iret hx hb hr hlocks B d_RR_rank_14 (⟨rfl, rfl⟩)
  · refine lv_iload_n hx hb d_RR_rank_4 rfl (lv_at hl 2 rfl) ?_
    refine lv_aload_n hx hb d_RR_rank_5 rfl (lv_at hl 0 rfl) ?_
    refine lv_iload_n hx hb d_RR_rank_6 rfl (lv_at hl 1 rfl) ?_
    refine x_calli B hA (va_runV (As := [.int (iI a1)]) (rest := [.int (iI a2)]) ⟨hx, hb, hml, hown, hts⟩ (c_RR_ready_t l D cs _ _ _ x c0 c2 c3 c4 c5 c6 c7 c8 c9 c10 c11 hd ll ln a1 hF (mw_get (X := [(x, .inr (6, [.ref c0, .int (iI hd), .ref c2, .ref c3, .ref c4, .ref c5, .ref c6, .ref c7, .ref c8, .ref c9, .ref c10, .ref c11, .int (iI ll), .int (iI ln)]))]) hF.1 (k := 0) rfl) hhd (by omega) (by omega)) (cwV 1 hts (gw_V w_370 w_372 s_14 w_1 w_373) rfl rfl rfl (by decide +kernel) ⟨by rw [hRf]; exact Nat.le_of_ble_eq_true rfl, by rw [hRl]; exact Nat.le_of_ble_eq_true rfl⟩) ⟨K0.blind, B.recv (hF.2 _ (mw_key (k := 0) (X := [(x, .inr (6, [.ref c0, .int (iI hd), .ref c2, .ref c3, .ref c4, .ref c5, .ref c6, .ref c7, .ref c8, .ref c9, .ref c10, .ref c11, .int (iI ll), .int (iI ln)]))]) rfl)) (mw_get (X := [(x, .inr (6, [.ref c0, .int (iI hd), .ref c2, .ref c3, .ref c4, .ref c5, .ref c6, .ref c7, .ref c8, .ref c9, .ref c10, .ref c11, .int (iI ll), .int (iI ln)]))]) hF.1 (k := 0) rfl) rfl, B.pre _⟩ rfl rfl hl.1 rfl (lv_room (Nat.le_of_ble_eq_true rfl)) d_RR_rank_7 ⟨by rw [hRc]; omega, by rw [hRs]; omega⟩) (fun r7 g7 H locs hw B => ?_)
    obtain ⟨rfl, rfl⟩ := hw
    have B : Wb D vwCl (TY cs) L (mw f [(x, .inr (6, [.ref c0, .int (iI hd), .ref c2, .ref c3, .ref c4, .ref c5, .ref c6, .ref c7, .ref c8, .ref c9, .ref c10, .ref c11, .int (iI ll), .int (iI ln)]))]) (AL L s.heap.size) s H _ := B
    refine x_icmp_lt (tgt := 15) hx hb d_RR_rank_10 (by decide) (by omega) (by omega) (fun h10 => ?_) (fun h10 => ?_)
    · exfalso; omega
    · refine x_iconst hx hb d_RR_rank_13 ?_
      have B := B.of_eq hmw
      subst hQ hav
      exact x_iret hx hb hr hlocks B d_RR_rank_14 (⟨rfl, rfl⟩)
theorem d_RR_compare_0 : decode prog_1_method_12_code 0 = .ok (.iload_n 2, 1) := by decide +kernel
theorem d_RR_compare_1 : decode prog_1_method_12_code 1 = .ok (.ifCond .lt 27, 3) := by decide +kernel
theorem d_RR_compare_4 : decode prog_1_method_12_code 4 = .ok (.iload_n 2, 1) := by decide +kernel
theorem d_RR_compare_5 : decode prog_1_method_12_code 5 = .ok (.aload_n 0, 1) := by decide +kernel
theorem d_RR_compare_6 : decode prog_1_method_12_code 6 = .ok (.iload_n 1, 1) := by decide +kernel
theorem d_RR_compare_7 : decode prog_1_method_12_code 7 = .ok (.invokevirtual 100, 3) := by decide +kernel
theorem d_RR_compare_10 : decode prog_1_method_12_code 10 = .ok (.if_icmp .ge 18, 3) := by decide +kernel
theorem d_RR_compare_13 : decode prog_1_method_12_code 13 = .ok (.iload 4, 2) := by decide +kernel
theorem d_RR_compare_15 : decode prog_1_method_12_code 15 = .ok (.ifCond .lt 13, 3) := by decide +kernel
theorem d_RR_compare_18 : decode prog_1_method_12_code 18 = .ok (.iload 4, 2) := by decide +kernel
theorem d_RR_compare_20 : decode prog_1_method_12_code 20 = .ok (.aload_n 0, 1) := by decide +kernel
theorem d_RR_compare_21 : decode prog_1_method_12_code 21 = .ok (.iload_n 3, 1) := by decide +kernel
theorem d_RR_compare_22 : decode prog_1_method_12_code 22 = .ok (.invokevirtual 100, 3) := by decide +kernel
theorem d_RR_compare_25 : decode prog_1_method_12_code 25 = .ok (.if_icmp .lt 6, 3) := by decide +kernel
theorem d_RR_compare_28 : decode prog_1_method_12_code 28 = .ok (.bipush (-9), 2) := by decide +kernel
theorem d_RR_compare_30 : decode prog_1_method_12_code 30 = .ok (.ireturn, 1) := by decide +kernel
theorem d_RR_compare_31 : decode prog_1_method_12_code 31 = .ok (.aload_n 0, 1) := by decide +kernel
theorem d_RR_compare_32 : decode prog_1_method_12_code 32 = .ok (.iload_n 1, 1) := by decide +kernel
theorem d_RR_compare_33 : decode prog_1_method_12_code 33 = .ok (.iconst 5, 1) := by decide +kernel
theorem d_RR_compare_34 : decode prog_1_method_12_code 34 = .ok (.imul, 1) := by decide +kernel
theorem d_RR_compare_35 : decode prog_1_method_12_code 35 = .ok (.iload_n 2, 1) := by decide +kernel
theorem d_RR_compare_36 : decode prog_1_method_12_code 36 = .ok (.iadd, 1) := by decide +kernel
theorem d_RR_compare_37 : decode prog_1_method_12_code 37 = .ok (.iload_n 3, 1) := by decide +kernel
theorem d_RR_compare_38 : decode prog_1_method_12_code 38 = .ok (.iconst 5, 1) := by decide +kernel
theorem d_RR_compare_39 : decode prog_1_method_12_code 39 = .ok (.imul, 1) := by decide +kernel
theorem d_RR_compare_40 : decode prog_1_method_12_code 40 = .ok (.iload 4, 2) := by decide +kernel
theorem d_RR_compare_42 : decode prog_1_method_12_code 42 = .ok (.iadd, 1) := by decide +kernel
theorem d_RR_compare_43 : decode prog_1_method_12_code 43 = .ok (.invokevirtual 150, 3) := by decide +kernel
theorem d_RR_compare_46 : decode prog_1_method_12_code 46 = .ok (.ireturn, 1) := by decide +kernel
set_option maxHeartbeats 8000000 in
set_option maxRecDepth 100000 in
theorem c_RR_compare_u (l : Launch) (D : va_G) (cs : Nat → ClassId) (L : List Nat) (f : Nat → va_E) (sz : Nat) (x c0 c2 c3 c4 c5 c6 c7 c8 c9 c10 c11 : Nat) (hd ll ln : Int) (a1 a2 a3 a4 : Int) (hF : Fc L [x]) (ha : f x = .inr (6, [.ref c0, .int (iI hd), .ref c2, .ref c3, .ref c4, .ref c5, .ref c6, .ref c7, .ref c8, .ref c9, .ref c10, .ref c11, .int (iI ll), .int (iI ln)])) (hhd : 0 ≤ hd ∧ hd ≤ 12) (ha1 : -2147483648 ≤ a1 ∧ a1 < 2147483648) (ha2 : -2147483648 ≤ a2 ∧ a2 < 2147483648) (ha3 : -2147483648 ≤ a3 ∧ a3 < 2147483648) (ha4 : -2147483648 ≤ a4 ∧ a4 < 2147483648) (hun : a1 < 0 ∨ hd ≤ a1) : Met l (⟨"RealRoots", "compare", "(IIII)I"⟩ : MethodName) (.code (⟨"RealRoots", "compare", "(IIII)I"⟩ : MethodName) prog_1_method_12_code 5 (Option.some Jvm.ClassFile.FieldType.int) :: gw) ({ frames := 2, cells := 0, slots := 0, locals := 44 }) (va_Pc [.ref x, .int (iI a1), .int (iI a2), .int (iI a3), .int (iI a4)] (K0 D vwCl (TY cs) L f sz)) (va_Qi (fun (r : Int32) (g : Nat → va_E) => r = iI (-9) ∧ g = f) (K1 D vwCl (TY cs) (AL L sz) L) (AL L sz)) 0 0 (AL L sz) := by
  refine Met.ofW (cc := prog_1_method_12_code) (maxL := 5) (ret := (Option.some Jvm.ClassFile.FieldType.int)) (by decide) rfl ?_
  intro p e s m args below meth c s₁ Bd hml hv
  obtain ⟨rfl, hk0⟩ := hv
  obtain ⟨hsz, B⟩ := hk0.start
  subst hsz
  have hx := Bd.exec
  have hb := Bd.bytes
  have hr := Bd.returns
  have hlocks := Bd.notSynchronized
  have hts0 := atoms_spec Bd.pre
  have hown : s.vm.findClass RX6 = some m.cls := findClass_of_methodNamed Bd.named
  have hA : ∀ q, s.heap.size ≤ q → AL L s.heap.size q := fun _ h => Or.inr h
  have hl := lv_entry ([.ref x, .int (iI a1), .int (iI a2), .int (iI a3), .int (iI a4)]) (n := 5) (Nat.le_of_ble_eq_true rfl)
  rw [lg_entry_eq]
  generalize (lg_sl ([.ref x, .int (iI a1), .int (iI a2), .int (iI a3), .int (iI a4)]) ++ List.replicate (5 - (lg_sl ([.ref x, .int (iI a1), .int (iI a2), .int (iI a3), .int (iI a4)])).length) Slot.unset).toArray = ls at hl ⊢
  refine absQ (fun Q R av hQ hR hav => ?_)
  have hts : ∀ w ∈ gw, w.before av s = true := by rw [hav]; exact fun w h => hts0 w (List.mem_cons_of_mem _ h)
  have hRf : R.frames = 2 := by rw [hR]; rfl
  have hRl : R.locals = 44 := by rw [hR]; rfl
  have hRc : R.cells = 0 := by rw [hR]; rfl
  have hRs : R.slots = 0 := by rw [hR]; rfl
  clear hR hts0 Bd
  have hl : lv_has ls 5 [(0, .ref x), (1, .int (iI a1)), (2, .int (iI a2)), (3, .int (iI a3)), (4, .int (iI a4))] := hl
  have hfx : ∀ q ∈ ([(x, .inr (6, [.ref c0, .int (iI hd), .ref c2, .ref c3, .ref c4, .ref c5, .ref c6, .ref c7, .ref c8, .ref c9, .ref c10, .ref c11, .int (iI ll), .int (iI ln)]))] : List (Nat × va_E)), f q.1 = q.2 := fun q hq => by
    simp only [List.mem_cons, List.not_mem_nil, or_false] at hq
    rcases hq with rfl
    · exact ha
  have hmw : mw f [(x, .inr (6, [.ref c0, .int (iI hd), .ref c2, .ref c3, .ref c4, .ref c5, .ref c6, .ref c7, .ref c8, .ref c9, .ref c10, .ref c11, .int (iI ll), .int (iI ln)]))] = f := mw_self (fun k a e hk => hfx (a, e) (List.mem_of_getElem? hk))
  have B := B.focus [(x, .inr (6, [.ref c0, .int (iI hd), .ref c2, .ref c3, .ref c4, .ref c5, .ref c6, .ref c7, .ref c8, .ref c9, .ref c10, .ref c11, .int (iI ll), .int (iI ln)]))] hfx
  refine lv_iload_n hx hb d_RR_compare_0 rfl (lv_at hl 2 rfl) ?_
  refine x_if_lt (tgt := 28) hx hb d_RR_compare_1 (by decide) (by omega) (fun h1 => ?_) (fun h1 => ?_)
  · refine x_bipush hx hb d_RR_compare_28 (by decide) ?_
    have B := B.of_eq hmw
    subst hQ hav
    exact x_iret hx hb hr hlocks B d_RR_compare_30 (⟨rfl, rfl⟩)
  · refine lv_iload_n hx hb d_RR_compare_4 rfl (lv_at hl 2 rfl) ?_
    refine lv_aload_n hx hb d_RR_compare_5 rfl (lv_at hl 0 rfl) ?_
    refine lv_iload_n hx hb d_RR_compare_6 rfl (lv_at hl 1 rfl) ?_
    refine x_calli B hA (va_runV (As := [.int (iI a1)]) (rest := [.int (iI a2)]) ⟨hx, hb, hml, hown, hts⟩ (c_RR_ready_t l D cs _ _ _ x c0 c2 c3 c4 c5 c6 c7 c8 c9 c10 c11 hd ll ln a1 hF (mw_get (X := [(x, .inr (6, [.ref c0, .int (iI hd), .ref c2, .ref c3, .ref c4, .ref c5, .ref c6, .ref c7, .ref c8, .ref c9, .ref c10, .ref c11, .int (iI ll), .int (iI ln)]))]) hF.1 (k := 0) rfl) hhd (by omega) (by omega)) (cwV 1 hts (gw_V w_370 w_372 s_14 w_1 w_373) rfl rfl rfl (by decide +kernel) ⟨by rw [hRf]; exact Nat.le_of_ble_eq_true rfl, by rw [hRl]; exact Nat.le_of_ble_eq_true rfl⟩) ⟨K0.blind, B.recv (hF.2 _ (mw_key (k := 0) (X := [(x, .inr (6, [.ref c0, .int (iI hd), .ref c2, .ref c3, .ref c4, .ref c5, .ref c6, .ref c7, .ref c8, .ref c9, .ref c10, .ref c11, .int (iI ll), .int (iI ln)]))]) rfl)) (mw_get (X := [(x, .inr (6, [.ref c0, .int (iI hd), .ref c2, .ref c3, .ref c4, .ref c5, .ref c6, .ref c7, .ref c8, .ref c9, .ref c10, .ref c11, .int (iI ll), .int (iI ln)]))]) hF.1 (k := 0) rfl) rfl, B.pre _⟩ rfl rfl hl.1 rfl (lv_room (Nat.le_of_ble_eq_true rfl)) d_RR_compare_7 ⟨by rw [hRc]; omega, by rw [hRs]; omega⟩) (fun r7 g7 H locs hw B => ?_)
    obtain ⟨rfl, rfl⟩ := hw
    have B : Wb D vwCl (TY cs) L (mw f [(x, .inr (6, [.ref c0, .int (iI hd), .ref c2, .ref c3, .ref c4, .ref c5, .ref c6, .ref c7, .ref c8, .ref c9, .ref c10, .ref c11, .int (iI ll), .int (iI ln)]))]) (AL L s.heap.size) s H _ := B
    refine x_icmp_ge (tgt := 28) hx hb d_RR_compare_10 (by decide) (by omega) (by omega) (fun h10 => ?_) (fun h10 => ?_)
    · refine x_bipush hx hb d_RR_compare_28 (by decide) ?_
      have B := B.of_eq hmw
      subst hQ hav
      exact x_iret hx hb hr hlocks B d_RR_compare_30 (⟨rfl, rfl⟩)
    · exfalso; omega
