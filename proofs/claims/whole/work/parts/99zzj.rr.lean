theorem d_RR_findFraction_0 : decode prog_1_method_50_code 0 = .ok (.aload_n 0, 1) := by decide +kernel
theorem d_RR_findFraction_1 : decode prog_1_method_50_code 1 = .ok (.getfield 36, 3) := by decide +kernel
theorem d_RR_findFraction_4 : decode prog_1_method_50_code 4 = .ok (.lconst 0, 1) := by decide +kernel
theorem d_RR_findFraction_5 : decode prog_1_method_50_code 5 = .ok (.putfield 143, 3) := by decide +kernel
theorem d_RR_findFraction_8 : decode prog_1_method_50_code 8 = .ok (.aload_n 0, 1) := by decide +kernel
theorem d_RR_findFraction_9 : decode prog_1_method_50_code 9 = .ok (.getfield 36, 3) := by decide +kernel
theorem d_RR_findFraction_12 : decode prog_1_method_50_code 12 = .ok (.lconst 0, 1) := by decide +kernel
theorem d_RR_findFraction_13 : decode prog_1_method_50_code 13 = .ok (.putfield 147, 3) := by decide +kernel
theorem d_RR_findFraction_16 : decode prog_1_method_50_code 16 = .ok (.aload_n 0, 1) := by decide +kernel
theorem d_RR_findFraction_17 : decode prog_1_method_50_code 17 = .ok (.aload_n 1, 1) := by decide +kernel
theorem d_RR_findFraction_18 : decode prog_1_method_50_code 18 = .ok (.iload_n 2, 1) := by decide +kernel
theorem d_RR_findFraction_19 : decode prog_1_method_50_code 19 = .ok (.bipush 10, 2) := by decide +kernel
theorem d_RR_findFraction_21 : decode prog_1_method_50_code 21 = .ok (.invokevirtual 125, 3) := by decide +kernel
theorem d_RR_findFraction_24 : decode prog_1_method_50_code 24 = .ok (.aload_n 1, 1) := by decide +kernel
theorem d_RR_findFraction_25 : decode prog_1_method_50_code 25 = .ok (.getfield 111, 3) := by decide +kernel
theorem d_RR_findFraction_28 : decode prog_1_method_50_code 28 = .ok (.invokestatic 88, 3) := by decide +kernel
theorem d_RR_findFraction_31 : decode prog_1_method_50_code 31 = .ok (.istore_n 3, 1) := by decide +kernel
theorem d_RR_findFraction_32 : decode prog_1_method_50_code 32 = .ok (.iload_n 3, 1) := by decide +kernel
theorem d_RR_findFraction_33 : decode prog_1_method_50_code 33 = .ok (.ifCond .ge 4, 3) := by decide +kernel
theorem d_RR_findFraction_36 : decode prog_1_method_50_code 36 = .ok (.return_, 1) := by decide +kernel
theorem d_RR_findFraction_37 : decode prog_1_method_50_code 37 = .ok (.aload_n 1, 1) := by decide +kernel
theorem d_RR_findFraction_38 : decode prog_1_method_50_code 38 = .ok (.getfield 111, 3) := by decide +kernel
theorem d_RR_findFraction_41 : decode prog_1_method_50_code 41 = .ok (.iload_n 3, 1) := by decide +kernel
theorem d_RR_findFraction_42 : decode prog_1_method_50_code 42 = .ok (.iaload, 1) := by decide +kernel
theorem d_RR_findFraction_43 : decode prog_1_method_50_code 43 = .ok (.i2l, 1) := by decide +kernel
theorem d_RR_findFraction_44 : decode prog_1_method_50_code 44 = .ok (.lstore 4, 2) := by decide +kernel
theorem d_RR_findFraction_46 : decode prog_1_method_50_code 46 = .ok (.aload_n 1, 1) := by decide +kernel
theorem d_RR_findFraction_47 : decode prog_1_method_50_code 47 = .ok (.getfield 129, 3) := by decide +kernel
theorem d_RR_findFraction_50 : decode prog_1_method_50_code 50 = .ok (.iload_n 2, 1) := by decide +kernel
theorem d_RR_findFraction_51 : decode prog_1_method_50_code 51 = .ok (.aaload, 1) := by decide +kernel
theorem d_RR_findFraction_52 : decode prog_1_method_50_code 52 = .ok (.bipush 10, 2) := by decide +kernel
theorem d_RR_findFraction_54 : decode prog_1_method_50_code 54 = .ok (.invokevirtual 133, 3) := by decide +kernel
theorem d_RR_findFraction_57 : decode prog_1_method_50_code 57 = .ok (.lload 4, 2) := by decide +kernel
theorem d_RR_findFraction_59 : decode prog_1_method_50_code 59 = .ok (.lmul, 1) := by decide +kernel
theorem d_RR_findFraction_60 : decode prog_1_method_50_code 60 = .ok (.lneg, 1) := by decide +kernel
theorem d_RR_findFraction_61 : decode prog_1_method_50_code 61 = .ok (.ldc2_w 339, 3) := by decide +kernel
theorem d_RR_findFraction_64 : decode prog_1_method_50_code 64 = .ok (.invokestatic 341, 3) := by decide +kernel
theorem d_RR_findFraction_67 : decode prog_1_method_50_code 67 = .ok (.lneg, 1) := by decide +kernel
theorem d_RR_findFraction_68 : decode prog_1_method_50_code 68 = .ok (.lstore 6, 2) := by decide +kernel
theorem d_RR_findFraction_70 : decode prog_1_method_50_code 70 = .ok (.aload_n 0, 1) := by decide +kernel
theorem d_RR_findFraction_71 : decode prog_1_method_50_code 71 = .ok (.getfield 29, 3) := by decide +kernel
theorem d_RR_findFraction_74 : decode prog_1_method_50_code 74 = .ok (.lload 6, 2) := by decide +kernel
theorem d_RR_findFraction_76 : decode prog_1_method_50_code 76 = .ok (.lload 4, 2) := by decide +kernel
theorem d_RR_findFraction_78 : decode prog_1_method_50_code 78 = .ok (.invokevirtual 183, 3) := by decide +kernel
theorem d_RR_findFraction_81 : decode prog_1_method_50_code 81 = .ok (.aload_n 0, 1) := by decide +kernel
theorem d_RR_findFraction_82 : decode prog_1_method_50_code 82 = .ok (.getfield 29, 3) := by decide +kernel
theorem d_RR_findFraction_85 : decode prog_1_method_50_code 85 = .ok (.aload_n 1, 1) := by decide +kernel
theorem d_RR_findFraction_86 : decode prog_1_method_50_code 86 = .ok (.getfield 111, 3) := by decide +kernel
theorem d_RR_findFraction_89 : decode prog_1_method_50_code 89 = .ok (.invokevirtual 154, 3) := by decide +kernel
theorem d_RR_findFraction_92 : decode prog_1_method_50_code 92 = .ok (.aload_n 0, 1) := by decide +kernel
theorem d_RR_findFraction_93 : decode prog_1_method_50_code 93 = .ok (.getfield 29, 3) := by decide +kernel
theorem d_RR_findFraction_96 : decode prog_1_method_50_code 96 = .ok (.aload_n 0, 1) := by decide +kernel
theorem d_RR_findFraction_97 : decode prog_1_method_50_code 97 = .ok (.getfield 29, 3) := by decide +kernel
theorem d_RR_findFraction_100 : decode prog_1_method_50_code 100 = .ok (.getfield 162, 3) := by decide +kernel
theorem d_RR_findFraction_103 : decode prog_1_method_50_code 103 = .ok (.iconst 0, 1) := by decide +kernel
theorem d_RR_findFraction_104 : decode prog_1_method_50_code 104 = .ok (.aload_n 0, 1) := by decide +kernel
theorem d_RR_findFraction_105 : decode prog_1_method_50_code 105 = .ok (.getfield 29, 3) := by decide +kernel
theorem d_RR_findFraction_108 : decode prog_1_method_50_code 108 = .ok (.getfield 166, 3) := by decide +kernel
theorem d_RR_findFraction_111 : decode prog_1_method_50_code 111 = .ok (.invokevirtual 169, 3) := by decide +kernel
theorem d_RR_findFraction_114 : decode prog_1_method_50_code 114 = .ok (.ifCond .eq 4, 3) := by decide +kernel
theorem d_RR_findFraction_117 : decode prog_1_method_50_code 117 = .ok (.return_, 1) := by decide +kernel
theorem d_RR_findFraction_118 : decode prog_1_method_50_code 118 = .ok (.iconst 0, 1) := by decide +kernel
theorem d_RR_findFraction_119 : decode prog_1_method_50_code 119 = .ok (.istore 8, 2) := by decide +kernel
theorem d_RR_findFraction_121 : decode prog_1_method_50_code 121 = .ok (.iload 8, 2) := by decide +kernel
theorem d_RR_findFraction_123 : decode prog_1_method_50_code 123 = .ok (.bipush 6, 2) := by decide +kernel
theorem d_RR_findFraction_125 : decode prog_1_method_50_code 125 = .ok (.if_icmp .ge 41, 3) := by decide +kernel
theorem d_RR_findFraction_128 : decode prog_1_method_50_code 128 = .ok (.aload_n 0, 1) := by decide +kernel
theorem d_RR_findFraction_129 : decode prog_1_method_50_code 129 = .ok (.getfield 48, 3) := by decide +kernel
theorem d_RR_findFraction_132 : decode prog_1_method_50_code 132 = .ok (.iload 8, 2) := by decide +kernel
theorem d_RR_findFraction_134 : decode prog_1_method_50_code 134 = .ok (.iload 8, 2) := by decide +kernel
theorem d_RR_findFraction_136 : decode prog_1_method_50_code 136 = .ok (.ifCond .ne 10, 3) := by decide +kernel
theorem d_RR_findFraction_139 : decode prog_1_method_50_code 139 = .ok (.lload 6, 2) := by decide +kernel
theorem d_RR_findFraction_141 : decode prog_1_method_50_code 141 = .ok (.lneg, 1) := by decide +kernel
theorem d_RR_findFraction_142 : decode prog_1_method_50_code 142 = .ok (.l2i, 1) := by decide +kernel
theorem d_RR_findFraction_143 : decode prog_1_method_50_code 143 = .ok (.goto 16, 3) := by decide +kernel
theorem d_RR_findFraction_146 : decode prog_1_method_50_code 146 = .ok (.iload 8, 2) := by decide +kernel
theorem d_RR_findFraction_148 : decode prog_1_method_50_code 148 = .ok (.iconst 1, 1) := by decide +kernel
theorem d_RR_findFraction_149 : decode prog_1_method_50_code 149 = .ok (.if_icmp .ne 9, 3) := by decide +kernel
theorem d_RR_findFraction_152 : decode prog_1_method_50_code 152 = .ok (.lload 4, 2) := by decide +kernel
theorem d_RR_findFraction_154 : decode prog_1_method_50_code 154 = .ok (.l2i, 1) := by decide +kernel
theorem d_RR_findFraction_155 : decode prog_1_method_50_code 155 = .ok (.goto 4, 3) := by decide +kernel
theorem d_RR_findFraction_158 : decode prog_1_method_50_code 158 = .ok (.iconst 0, 1) := by decide +kernel
theorem d_RR_findFraction_159 : decode prog_1_method_50_code 159 = .ok (.iastore, 1) := by decide +kernel
theorem d_RR_findFraction_160 : decode prog_1_method_50_code 160 = .ok (.iinc 8 1, 3) := by decide +kernel
theorem d_RR_findFraction_163 : decode prog_1_method_50_code 163 = .ok (.goto (-42), 3) := by decide +kernel
theorem d_RR_findFraction_166 : decode prog_1_method_50_code 166 = .ok (.aload_n 0, 1) := by decide +kernel
theorem d_RR_findFraction_167 : decode prog_1_method_50_code 167 = .ok (.aload_n 1, 1) := by decide +kernel
theorem d_RR_findFraction_168 : decode prog_1_method_50_code 168 = .ok (.iload_n 2, 1) := by decide +kernel
theorem d_RR_findFraction_169 : decode prog_1_method_50_code 169 = .ok (.aload_n 0, 1) := by decide +kernel
theorem d_RR_findFraction_170 : decode prog_1_method_50_code 170 = .ok (.getfield 48, 3) := by decide +kernel
theorem d_RR_findFraction_173 : decode prog_1_method_50_code 173 = .ok (.invokevirtual 117, 3) := by decide +kernel
theorem d_RR_findFraction_176 : decode prog_1_method_50_code 176 = .ok (.ifCond .eq 58, 3) := by decide +kernel
theorem d_RR_findFraction_179 : decode prog_1_method_50_code 179 = .ok (.lload 6, 2) := by decide +kernel
theorem d_RR_findFraction_181 : decode prog_1_method_50_code 181 = .ok (.lload 4, 2) := by decide +kernel
theorem d_RR_findFraction_183 : decode prog_1_method_50_code 183 = .ok (.invokestatic 262, 3) := by decide +kernel
theorem d_RR_findFraction_186 : decode prog_1_method_50_code 186 = .ok (.lstore 8, 2) := by decide +kernel
theorem d_RR_findFraction_188 : decode prog_1_method_50_code 188 = .ok (.aload_n 0, 1) := by decide +kernel
theorem d_RR_findFraction_189 : decode prog_1_method_50_code 189 = .ok (.getfield 36, 3) := by decide +kernel
theorem d_RR_findFraction_192 : decode prog_1_method_50_code 192 = .ok (.lload 8, 2) := by decide +kernel
theorem d_RR_findFraction_194 : decode prog_1_method_50_code 194 = .ok (.lconst 0, 1) := by decide +kernel
theorem d_RR_findFraction_195 : decode prog_1_method_50_code 195 = .ok (.lcmp, 1) := by decide +kernel
theorem d_RR_findFraction_196 : decode prog_1_method_50_code 196 = .ok (.ifCond .ne 7, 3) := by decide +kernel
theorem d_RR_findFraction_199 : decode prog_1_method_50_code 199 = .ok (.lconst 0, 1) := by decide +kernel
theorem d_RR_findFraction_200 : decode prog_1_method_50_code 200 = .ok (.goto 8, 3) := by decide +kernel
theorem d_RR_findFraction_203 : decode prog_1_method_50_code 203 = .ok (.lload 6, 2) := by decide +kernel
theorem d_RR_findFraction_205 : decode prog_1_method_50_code 205 = .ok (.lload 8, 2) := by decide +kernel
theorem d_RR_findFraction_207 : decode prog_1_method_50_code 207 = .ok (.ldiv, 1) := by decide +kernel
theorem d_RR_findFraction_208 : decode prog_1_method_50_code 208 = .ok (.putfield 143, 3) := by decide +kernel
theorem d_RR_findFraction_211 : decode prog_1_method_50_code 211 = .ok (.aload_n 0, 1) := by decide +kernel
theorem d_RR_findFraction_212 : decode prog_1_method_50_code 212 = .ok (.getfield 36, 3) := by decide +kernel
theorem d_RR_findFraction_215 : decode prog_1_method_50_code 215 = .ok (.lload 8, 2) := by decide +kernel
theorem d_RR_findFraction_217 : decode prog_1_method_50_code 217 = .ok (.lconst 0, 1) := by decide +kernel
theorem d_RR_findFraction_218 : decode prog_1_method_50_code 218 = .ok (.lcmp, 1) := by decide +kernel
theorem d_RR_findFraction_219 : decode prog_1_method_50_code 219 = .ok (.ifCond .ne 7, 3) := by decide +kernel
theorem d_RR_findFraction_222 : decode prog_1_method_50_code 222 = .ok (.lconst 0, 1) := by decide +kernel
theorem d_RR_findFraction_223 : decode prog_1_method_50_code 223 = .ok (.goto 8, 3) := by decide +kernel
theorem d_RR_findFraction_226 : decode prog_1_method_50_code 226 = .ok (.lload 4, 2) := by decide +kernel
theorem d_RR_findFraction_228 : decode prog_1_method_50_code 228 = .ok (.lload 8, 2) := by decide +kernel
theorem d_RR_findFraction_230 : decode prog_1_method_50_code 230 = .ok (.ldiv, 1) := by decide +kernel
theorem d_RR_findFraction_231 : decode prog_1_method_50_code 231 = .ok (.putfield 147, 3) := by decide +kernel
theorem d_RR_findFraction_234 : decode prog_1_method_50_code 234 = .ok (.return_, 1) := by decide +kernel
set_option maxHeartbeats 8000000 in
set_option maxRecDepth 100000 in
theorem c_RR_findFraction (l : Launch) (D : va_G) (cs : Nat → ClassId) (L : List Nat) (f : Nat → va_E) (sz : Nat) (ad Qm : Nat → Nat) (If : Nat → Int) (Af : Nat → Nat → Int) (Rf : Nat → Nat) (Zf : Nat → Int) (p0 nm i0 : Nat) (N : Rat → Int) (dp : Nat → Nat) (v : Nat → Int) (cc0 : Int) (hAd : AdOk L ad Qm) (hC : CSt cs ad Qm f If Af Rf Zf) (hp0 : p0 < 12) (hi0 : i0 < nm) (hVM : ∀ j, j < 6 → -1000 ≤ Af (20 + p0) j ∧ Af (20 + p0) j ≤ 1000) (hcr : Crv If Af p0 nm N dp v) (hcc : Cell N (i0 : Int) cc0 256) : Met l (⟨"RealRoots", "findFraction", "(LRealRoots$Curve;I)V"⟩ : MethodName) (.code (⟨"RealRoots", "findFraction", "(LRealRoots$Curve;I)V"⟩ : MethodName) prog_1_method_50_code 10 (Option.none : Option Jvm.ClassFile.FieldType) :: gw) ({ frames := 6, cells := 0, slots := 0, locals := 280 }) (va_Pc [.ref ((ad 0)), .ref ((ad (15 + p0))), .int (iI ((i0 : Int)))] (K0 D vwCl (TY cs) L f sz)) (va_Qv (fun (g : Nat → va_E) => ∃ (I' : Nat → Int) (A' : Nat → Nat → Int) (R' : Nat → Nat) (Z' : Nat → Int), CSt cs ad Qm g I' A' R' Z' ∧ (∀ k, Awy ad k → g k = f k) ∧ (∃ (d' : Nat) (v' : Int), Crv I' A' p0 nm N (va_up dp i0 d') (up v i0 v')) ∧ FrP cc0 (I' 7) (I' 8) ∧ (∀ i, i ≠ 6 → i ≠ 7 → i ≠ 8 → i ≠ 200 + (5 * p0 + i0) → I' i = If i) ∧ ∀ q, q ≠ 2 → q ≠ 100 + (5 * p0 + i0) → A' q = Af q) (K1 D vwCl (TY cs) (AL L sz) L) (AL L sz)) 0 0 (AL L sz) := by
  refine Met.ofW (cc := prog_1_method_50_code) (maxL := 10) (ret := (Option.none : Option Jvm.ClassFile.FieldType)) (by decide) rfl ?_
  intro p e s m args below meth c s₁ Bd hml hv
  obtain ⟨rfl, hk0⟩ := hv
  obtain ⟨hsz, B⟩ := hk0.start
  subst hsz
  have hx := Bd.exec
  have hb := Bd.bytes
  have hr := Bd.returns
  have hlocks := Bd.notSynchronized
  have hts0 := atoms_spec Bd.pre
  have hown : s.vm.findClass RX6 = some m.cls := findClass_of_methodNamed Bd.named
  have hA : ∀ q, s.heap.size ≤ q → AL L s.heap.size q := fun _ h => Or.inr h
  have hl := lv_entry ([.ref ((ad 0)), .ref ((ad (15 + p0))), .int (iI ((i0 : Int)))]) (n := 10) (Nat.le_of_ble_eq_true rfl)
  rw [lg_entry_eq]
  generalize (lg_sl ([.ref ((ad 0)), .ref ((ad (15 + p0))), .int (iI ((i0 : Int)))]) ++ List.replicate (10 - (lg_sl ([.ref ((ad 0)), .ref ((ad (15 + p0))), .int (iI ((i0 : Int)))])).length) Slot.unset).toArray = ls at hl ⊢
  refine absQ (fun Q R av hQ hR hav => ?_)
  have hts : ∀ w ∈ gw, w.before av s = true := by rw [hav]; exact fun w h => hts0 w (List.mem_cons_of_mem _ h)
  have hRf : R.frames = 6 := by rw [hR]; rfl
  have hRl : R.locals = 280 := by rw [hR]; rfl
  have hRc : R.cells = 0 := by rw [hR]; rfl
  have hRs : R.slots = 0 := by rw [hR]; rfl
  clear hR hts0 Bd
  have hl : lv_has ls 10 [(0, .ref ((ad 0))), (1, .ref ((ad (15 + p0)))), (2, .int (iI ((i0 : Int))))] := hl
  have hfr : ∀ k, Awy ad k → f k = f k := fun _ _ => rfl
  obtain ⟨⟨p1, hPart⟩, hcgF, hFP, hFb⟩ := hcr.part hVM
  have hSq := hPart.2.2.1
  have hnm5 := hcr.2.2.2.1
  have hNB := hcr.2.2.2.2.1
  refine lv_aload_n hx hb d_RR_findFraction_0 rfl (lv_at hl 0 rfl) ?_
  refine x_get (C := RX6) (T := TX6) (N := 14) hx hb hts inX6 hown (B.foc1 (hC.x)) (hAd.f1 (by omega)) 0 rfl rfl 4 (by decide) (hts _ w_201) (fun _ h9 => h9) rfl d_RR_findFraction_1 ?_
  refine x_lconst (z := 0) hx hb d_RR_findFraction_4 (by decide) ?_
  refine x_put (C := RX4) (T := TX4) (N := 7) hx hb hts inX4 tyX4 tyX4_ok nmX4 hown (B.foc1 (hC.ra)) (hAd.f1 (by omega)) 0 rfl rfl 2 (by decide) (hts _ w_127) (fun _ h9 => h9) rfl (tyX4_ok 2 (by decide)) rfl rfl (Nat.le_of_ble_eq_true rfl) d_RR_findFraction_5 (fun H locs B => ?_)
  have B : Wb D vwCl (TY cs) L (mw f [((ad 7), .inr (4, [.ref (ad 239), .ref (ad 240), .long (lI (0)), .long (lI (If 8)), .ref (ad 241), .ref (ad 242), .ref (ad 243)]))]) (AL L s.heap.size) s H _ := B
  obtain ⟨f_5, hf_5⟩ : ∃ f_5, f_5 = mw f [((ad 7), .inr (4, [.ref (ad 239), .ref (ad 240), .long (lI (0)), .long (lI (If 8)), .ref (ad 241), .ref (ad 242), .ref (ad 243)]))] := ⟨_, rfl⟩
  rw [← hf_5] at B
  obtain ⟨I_5, hI_5⟩ : ∃ I_5, I_5 = up If 7 (0) := ⟨_, rfl⟩
  have hC_5 : CSt cs ad Qm f_5 I_5 Af Rf Zf := by rw [hf_5, hI_5]; exact CSt.w_n hAd hC (0)
  have hfr_5 : ∀ k, Awy ad k → f_5 k = f k := fun k hk => Eq.trans (by rw [hf_5]; exact hk.mw1 (by omega)) (hfr k hk)
  refine lv_aload_n hx hb d_RR_findFraction_8 rfl (lv_at hl 0 rfl) ?_
  refine x_get (C := RX6) (T := TX6) (N := 14) hx hb hts inX6 hown (B.foc1 (hC_5.x)) (hAd.f1 (by omega)) 0 rfl rfl 4 (by decide) (hts _ w_201) (fun _ h9 => h9) rfl d_RR_findFraction_9 ?_
  refine x_lconst (z := 0) hx hb d_RR_findFraction_12 (by decide) ?_
  refine x_put (C := RX4) (T := TX4) (N := 7) hx hb hts inX4 tyX4 tyX4_ok nmX4 hown (B.foc1 (hC_5.ra)) (hAd.f1 (by omega)) 0 rfl rfl 3 (by decide) (hts _ w_129) (fun _ h9 => h9) rfl (tyX4_ok 3 (by decide)) rfl rfl (Nat.le_of_ble_eq_true rfl) d_RR_findFraction_13 (fun H locs B => ?_)
  have B : Wb D vwCl (TY cs) L (mw f_5 [((ad 7), .inr (4, [.ref (ad 239), .ref (ad 240), .long (lI (I_5 7)), .long (lI (0)), .ref (ad 241), .ref (ad 242), .ref (ad 243)]))]) (AL L s.heap.size) s H _ := B
  obtain ⟨f_13, hf_13⟩ : ∃ f_13, f_13 = mw f_5 [((ad 7), .inr (4, [.ref (ad 239), .ref (ad 240), .long (lI (I_5 7)), .long (lI (0)), .ref (ad 241), .ref (ad 242), .ref (ad 243)]))] := ⟨_, rfl⟩
  rw [← hf_13] at B
  obtain ⟨I_13, hI_13⟩ : ∃ I_13, I_13 = up I_5 8 (0) := ⟨_, rfl⟩
  have hC_13 : CSt cs ad Qm f_13 I_13 Af Rf Zf := by rw [hf_13, hI_13]; exact CSt.w_d hAd hC_5 (0)
  have hfr_13 : ∀ k, Awy ad k → f_13 k = f k := fun k hk => Eq.trans (by rw [hf_13]; exact hk.mw1 (by omega)) (hfr_5 k hk)
  have hIz : ∀ i, i ≠ 7 → i ≠ 8 → I_13 i = If i := fun i h1 h2 => by rw [hI_13, up_ne _ _ h2, hI_5, up_ne _ _ h1]
  have hI7z : I_13 7 = 0 := by rw [hI_13, up_ne _ _ (by decide), hI_5, up_self]
  have hI8z : I_13 8 = 0 := by rw [hI_13, up_self]
  have hcr0 : Crv I_13 Af p0 nm N dp v := hcr.keep rfl rfl (hIz _ (by omega) (by omega)) (fun i hi => ⟨hIz _ (by omega) (by omega), hIz _ (by omega) (by omega), rfl⟩)
  refine lv_aload_n hx hb d_RR_findFraction_16 rfl (lv_at hl 0 rfl) ?_
  refine lv_aload_n hx hb d_RR_findFraction_17 rfl (lv_at hl 1 rfl) ?_
  refine lv_iload_n hx hb d_RR_findFraction_18 rfl (lv_at hl 2 rfl) ?_
  refine x_bipush hx hb d_RR_findFraction_19 (by decide) ?_
  refine x_callv B hA (va_runV (As := [.ref ((ad (15 + p0))), .int (iI ((i0 : Int))), .int (iI 10)]) (rest := []) ⟨hx, hb, hml, hown, hts⟩ (c_RR_deepenTo l D cs _ _ _ ad Qm I_13 Af Rf Zf p0 nm i0 N dp v 10 hAd hC_13 hp0 hi0 hVM hcr0 (by decide)) (cwV 3 hts (gw_V w_493 w_495 s_21 w_1 w_496) rfl rfl rfl (by decide +kernel) ⟨by rw [hRf]; exact Nat.le_of_ble_eq_true rfl, by rw [hRl]; exact Nat.le_of_ble_eq_true rfl⟩) ⟨K0.blind, B.recv (hAd.1 _ (by omega)) (hC_13.x) rfl, B.pre _⟩ rfl rfl hl.1 rfl (lv_room (Nat.le_of_ble_eq_true rfl)) d_RR_findFraction_21 ⟨by rw [hRc]; omega, by rw [hRs]; omega⟩) (fun g21 H locs hw B => ?_)
  obtain ⟨Id, Ad, Rd, Zd, hCd, hqd, ⟨dd, vd, hcrd, hdd1, hdd2, hdd3⟩, hId6, hAdo⟩ := hw
  have hfrd : ∀ k, Awy ad k → g21 k = f k := fun k hk => (hqd k hk).trans (hfr_13 k hk)
  have B : Wb D vwCl (TY cs) L g21 (AL L s.heap.size) s H _ := B
  have hAFd : Ad (40 + p0) = Af (40 + p0) := hAdo _ (by omega)
  have hpld := hcrd.2.2.2.2.2.2.1 i0 hi0
  rw [va_up_self, up_self] at hpld
  have hwhd := hpld.2.1.whr hpld.2.2.1
  have hd8 := hpld.2.1.1
  have hisod := hcrd.iso (by rw [hAFd]; exact hSq) hi0
  rw [va_up_self, up_self] at hisod
  have hvd : vd = cc0 / 2 ^ (256 - dd) := Cell.pre hNB hSq hcc hd8 hpld.2.2
  refine lv_aload_n hx hb d_RR_findFraction_24 rfl (lv_at hl 1 rfl) ?_
  refine x_get (C := RX2) (T := TX2) (N := 5) hx hb hts inX2 hown (B.foc1 (hCd.cu (p := p0) (by omega))) (hAd.f1 (by omega)) 0 rfl rfl 1 (by decide) (hts _ w_179) (fun _ h9 => h9) rfl d_RR_findFraction_25 ?_
  refine x_calli B hA (va_runS (As := [.ref ((ad (39 + p0)))]) (rest := []) ⟨hx, hb, hml, hown, hts⟩ (c_RR_topOf l D cs _ _ _ (ad (39 + p0)) (Ad (40 + p0)) (hAd.f1 (by have := ((Ar.fr hp0)).lt; omega)) (hCd.ar (Ar.fr hp0)) (fun j hj => by rw [hAFd]; have := hFb j hj; omega)) (va_cwS 1 hts (gw_S w_273 w_274 w_1 w_275) rfl rfl rfl (by decide +kernel) ⟨by rw [hRf]; exact Nat.le_of_ble_eq_true rfl, by rw [hRl]; exact Nat.le_of_ble_eq_true rfl⟩) ⟨K0.blind, B.pre _⟩ rfl rfl hl.1 rfl (lv_room (Nat.le_of_ble_eq_true rfl)) d_RR_findFraction_28 ⟨by rw [hRc]; omega, by rw [hRs]; omega⟩) (fun r28 g28 H locs hw B => ?_)
  obtain ⟨kt, rfl, hkt6, hktz, hktl, hgf⟩ := hw
  rw [hgf] at B
  rw [hAFd] at hktz hktl
  have hkt0 : 0 < kt := by rcases Nat.eq_zero_or_pos kt with h | h; obtain ⟨j, hj, hn⟩ := hSq.1; exact absurd (hktz j (by omega) hj) hn; exact h
  obtain ⟨nn, hnn⟩ : ∃ nn, kt = nn + 1 := ⟨kt - 1, by omega⟩
  rw [show (kt : Int) - 1 = (nn : Int) by omega]
  have hFz : ∀ j, nn < j → j < 6 → Af (40 + p0) j = 0 := fun j h1 h2 => hktz j (by omega) h2
  have hFn : Af (40 + p0) nn ≠ 0 := by have h9 := hktl hkt0; rw [show kt - 1 = nn by omega] at h9; exact h9
  have hn6 : nn < 6 := by omega
  have hld0 : 0 < Af (40 + p0) nn := by
      obtain ⟨_, _, kx, h1, h2, h3⟩ := FreeOf.part hcr.1 hVM hcr.2.1
      have : kx = nn := by rcases Nat.lt_trichotomy kx nn with c | c | c; exact absurd (h3 nn c hn6) hFn; exact c; exact absurd (hFz kx c h1) (by omega)
      rw [← this]; exact h2
  obtain ⟨ld, hld⟩ : ∃ ld : Int, ld = Af (40 + p0) nn := ⟨_, rfl⟩
  have hld1 : 1 ≤ ld ∧ ld ≤ 1000 := by rw [hld]; exact ⟨by omega, lead_fac hPart hn6 hld0 hFz⟩
  refine lv_istore_n (lv' := [(3, .int (iI ((nn : Int)))), (0, .ref ((ad 0))), (1, .ref ((ad (15 + p0)))), (2, .int (iI ((i0 : Int))))]) hx hb d_RR_findFraction_31 rfl hl (by decide) rfl (fun ls hl => ?_)
  refine lv_iload_n hx hb d_RR_findFraction_32 rfl (lv_at hl 0 rfl) ?_
  refine x_if_ge (tgt := 37) hx hb d_RR_findFraction_33 (by decide) (by omega) (fun h33 => ?_) (fun h33 => ?_)
  · refine lv_aload_n hx hb d_RR_findFraction_37 rfl (lv_at hl 2 rfl) ?_
    refine x_get (C := RX2) (T := TX2) (N := 5) hx hb hts inX2 hown (B.foc1 (hCd.cu (p := p0) (by omega))) (hAd.f1 (by omega)) 0 rfl rfl 1 (by decide) (hts _ w_179) (fun _ h9 => h9) rfl d_RR_findFraction_38 ?_
    refine lv_iload_n hx hb d_RR_findFraction_41 rfl (lv_at hl 0 rfl) ?_
    refine x_iald hx hb (B.foc1 (hCd.fr (p := p0) (by omega))) (hAd.f1 (by omega)) 0 0 rfl rfl nn (by omega) (by omega) (by decide) d_RR_findFraction_42 ?_
    rw [hAFd, ← hld]
    refine x_i2l hx hb d_RR_findFraction_43 (by omega) ?_
    refine lv_lstore (lv' := [(4, .long (lI ld)), (3, .int (iI ((nn : Int)))), (0, .ref ((ad 0))), (1, .ref ((ad (15 + p0)))), (2, .int (iI ((i0 : Int))))]) hx hb d_RR_findFraction_44 hl (by decide) rfl (fun ls hl => ?_)
    refine lv_aload_n hx hb d_RR_findFraction_46 rfl (lv_at hl 3 rfl) ?_
    refine x_get (C := RX2) (T := TX2) (N := 5) hx hb hts inX2 hown (B.foc1 (hCd.cu (p := p0) (by omega))) (hAd.f1 (by omega)) 0 rfl rfl 2 (by decide) (hts _ w_181) (fun _ h9 => h9) rfl d_RR_findFraction_47 ?_
    refine lv_iload_n hx hb d_RR_findFraction_50 rfl (lv_at hl 4 rfl) ?_
    refine x_aald hx hb (B.foc1 (hCd.pa (p := p0) (by omega))) (hAd.f1 (by omega)) 0 5 rfl rfl i0 (by omega) (by omega) (by decide) (rfs_at (by omega)) d_RR_findFraction_51 ?_
    refine x_bipush hx hb d_RR_findFraction_52 (by decide) ?_
    refine x_calll B hA (va_runV (As := [.int (iI 10)]) (rest := []) ⟨hx, hb, hml, hown, hts⟩ (c_Place_scaled l D cs _ _ _ (ad (63 + (5 * p0 + i0))) (ad (123 + (5 * p0 + i0))) (Id (100 + (5 * p0 + i0))) (Id (200 + (5 * p0 + i0))) (Ad (100 + (5 * p0 + i0))) 10 (hAd.fc [63 + (5 * p0 + i0), 123 + (5 * p0 + i0)] (by simp only [List.nodup_cons, List.mem_cons, List.not_mem_nil, or_false, not_or, List.nodup_nil, and_true, not_false_eq_true]; omega) (by intro q hq; simp only [List.mem_cons, List.not_mem_nil, or_false] at hq; omega)) (hCd.pl (m := (5 * p0 + i0)) (by omega)) (hCd.wq (m := (5 * p0 + i0)) (by omega)) (by omega) (by omega) (hpld.2.1.2.1 0 (by decide)) (hpld.2.1.2.1 1 (by decide))) (cwV 1 hts (gw_V w_497 w_498 w_499 w_7 w_500) rfl rfl rfl (by decide +kernel) ⟨by rw [hRf]; exact Nat.le_of_ble_eq_true rfl, by rw [hRl]; exact Nat.le_of_ble_eq_true rfl⟩) ⟨K0.blind, B.recv (hAd.1 _ (by omega)) (hCd.pl (m := (5 * p0 + i0)) (by omega)) rfl, B.pre _⟩ rfl rfl hl.1 rfl (lv_room (Nat.le_of_ble_eq_true rfl)) d_RR_findFraction_54 ⟨by rw [hRc]; omega, by rw [hRs]; omega⟩) (fun r54 g54 H locs hw B => ?_)
    obtain ⟨rfl, hgf⟩ := hw
    rw [hgf] at B
    rw [hpld.2.1.scl (by omega) (by omega)]
    have hs0 : vd / 2 ^ (dd - 10) = cc0 / 2 ^ 246 := by rw [hvd, ← div_pow_add, show 256 - dd + (dd - 10) = 246 by omega]
    rw [hs0]
    obtain ⟨sc, hsc⟩ : ∃ sc : Int, sc = cc0 / 2 ^ 246 := ⟨_, rfl⟩
    rw [← hsc]
    have hscr : -2097152 ≤ sc ∧ sc < 2097152 := by
      have q := hcc.1
      rw [hsc]
      refine ⟨(Int.le_ediv_iff_mul_le (Int.pow_pos (by decide))).mpr ?_, (Int.ediv_lt_iff_lt_mul (Int.pow_pos (by decide))).mpr ?_⟩
      · exact Int.le_trans (by decide +kernel) q.1
      · exact Int.lt_of_lt_of_le q.2 (by decide +kernel)
    obtain ⟨pr, hpr⟩ : ∃ pr : Int, pr = sc * ld := ⟨_, rfl⟩
    have hprr : -2097152000 ≤ pr ∧ pr ≤ 2097152000 := by
      rw [hpr]
      have a1 := Int.mul_le_mul_of_nonneg_right (show sc ≤ 2097152 by omega) (show 0 ≤ ld by omega)
      have a2 := Int.mul_le_mul_of_nonneg_right (show -2097152 ≤ sc by omega) (show 0 ≤ ld by omega)
      omega
    refine lv_lload hx hb d_RR_findFraction_57 (lv_at hl 0 rfl) ?_
    refine x_lmul hx hb d_RR_findFraction_59 ?_
    rw [← hpr]
    refine x_lneg hx hb d_RR_findFraction_60 ?_
    refine x_ldc2 (z := 1024) hx hb hown (hts _ w_509) (by decide) d_RR_findFraction_61 ?_
    refine x_calll B hA (va_runS (As := [.long (lI (-pr)), .long (lI 1024)]) (rest := []) ⟨hx, hb, hml, hown, hts⟩ (c_Math_floorDivJ l D cs _ _ _ (-pr) 1024 (by omega) (by omega)) (va_cwS 2 hts (gw_S w_510 w_511 w_9 w_512) rfl rfl rfl (by decide +kernel) ⟨by rw [hRf]; exact Nat.le_of_ble_eq_true rfl, by rw [hRl]; exact Nat.le_of_ble_eq_true rfl⟩) ⟨K0.blind, B.pre _⟩ rfl rfl hl.1 rfl (lv_room (Nat.le_of_ble_eq_true rfl)) d_RR_findFraction_64 ⟨by rw [hRc]; omega, by rw [hRs]; omega⟩) (fun r64 g64 H locs hw B => ?_)
    obtain ⟨rfl, hgf⟩ := hw
    rw [hgf] at B
    refine x_lneg hx hb d_RR_findFraction_67 ?_
    obtain ⟨nr, hnr⟩ : ∃ nr : Int, nr = -((-pr) / 1024) := ⟨_, rfl⟩
    rw [← hnr]
    have hnrr : -2048000 ≤ nr ∧ nr ≤ 2048000 := by omega
    have hnrE : nr = -((-(cc0 / 2 ^ 246 * Af (40 + p0) nn)) / 1024) := by rw [hnr, hpr, hsc, hld]
    refine lv_lstore (lv' := [(6, .long (lI nr)), (4, .long (lI ld)), (3, .int (iI ((nn : Int)))), (0, .ref ((ad 0))), (1, .ref ((ad (15 + p0)))), (2, .int (iI ((i0 : Int))))]) hx hb d_RR_findFraction_68 hl (by decide) rfl (fun ls hl => ?_)
    refine lv_aload_n hx hb d_RR_findFraction_70 rfl (lv_at hl 3 rfl) ?_
    refine x_get (C := RX6) (T := TX6) (N := 14) hx hb hts inX6 hown (B.foc1 (hCd.x)) (hAd.f1 (by omega)) 0 rfl rfl 3 (by decide) (hts _ w_200) (fun _ h9 => h9) rfl d_RR_findFraction_71 ?_
    refine lv_lload hx hb d_RR_findFraction_74 (lv_at hl 0 rfl) ?_
    refine lv_lload hx hb d_RR_findFraction_76 (lv_at hl 1 rfl) ?_
    obtain ⟨sdn780, nnn780, lmn780, c1n780, c2n780, c3n780⟩ := hCd.2.2.1 (ad 227) (Bg.pl (by decide))
    obtain ⟨sdn781, nnn781, lmn781, c1n781, c2n781, c3n781⟩ := hCd.2.2.1 (ad 228) (Bg.pl (by decide))
    have hqan78 : Qm (ad 227) = ad 288 := hAd.2.2 44 (by decide)
    have hqbn78 : Qm (ad 228) = ad 289 := hAd.2.2 45 (by decide)
    refine x_callv B hA (va_runV (As := [.long (lI nr), .long (lI ld)]) (rest := []) ⟨hx, hb, hml, hown, hts⟩ (c_Spot_number l D cs _ _ _ (ad 5) (ad 227) (ad 228) (ad 6) (Rd 52) (Rd 53) (Rd 54) (Rd 55) (Qm (ad 227)) (Qm (ad 228)) (Id 6) sdn780 sdn781 nnn780 nnn781 lmn780 lmn781 nr ld (by rw [hqan78, hqbn78]; exact hAd.fc [5, 227, 288, 228, 289] (by decide) (by decide)) hCd.sp c1n780 c2n780 c1n781 c2n781 (by omega) (by omega)) (cwV 2 hts (gw_V w_401 w_402 w_403 w_4 w_404) rfl rfl rfl (by decide +kernel) ⟨by rw [hRf]; exact Nat.le_of_ble_eq_true rfl, by rw [hRl]; exact Nat.le_of_ble_eq_true rfl⟩) ⟨K0.blind, B.recv (hAd.1 _ (by omega)) (hCd.sp) rfl, B.pre _⟩ rfl rfl hl.1 rfl (lv_room (Nat.le_of_ble_eq_true rfl)) d_RR_findFraction_78 ⟨by rw [hRc]; omega, by rw [hRs]; omega⟩) (fun g78 H locs hw B => ?_)
    obtain ⟨s1_78, n1_78, l1_78, s2_78, n2_78, l2_78, hz1_78, hz2_78, hg_78⟩ := hw
    obtain ⟨hC_78, hq_78⟩ := CSt.number hAd hCd hz1_78 hz2_78 hg_78
    obtain ⟨Z_78, hZ_78⟩ : ∃ Z_78, Z_78 = up (up Zd (ad 228) ld) (ad 227) nr := ⟨_, rfl⟩
    rw [← hZ_78] at hC_78
    have hfr_78 : ∀ k, Awy ad k → g78 k = f k := fun k hk => (hq_78 k hk).trans (hfrd k hk)
    have hZu_78 : Z_78 (ad 227) = nr := by rw [hZ_78, up_self]
    have hZl_78 : Z_78 (ad 228) = ld := by rw [hZ_78, up_ne _ _ (hAd.ne (by decide) (by decide) (by decide)), up_self]
    have B : Wb D vwCl (TY cs) L g78 (AL L s.heap.size) s H _ := B
    refine lv_aload_n hx hb d_RR_findFraction_81 rfl (lv_at hl 3 rfl) ?_
    refine x_get (C := RX6) (T := TX6) (N := 14) hx hb hts inX6 hown (B.foc1 (hC_78.x)) (hAd.f1 (by omega)) 0 rfl rfl 3 (by decide) (hts _ w_200) (fun _ h9 => h9) rfl d_RR_findFraction_82 ?_
    refine lv_aload_n hx hb d_RR_findFraction_85 rfl (lv_at hl 4 rfl) ?_
    refine x_get (C := RX2) (T := TX2) (N := 5) hx hb hts inX2 hown (B.foc1 (hC_78.cu (p := p0) (by omega))) (hAd.f1 (by omega)) 0 rfl rfl 1 (by decide) (hts _ w_179) (fun _ h9 => h9) rfl d_RR_findFraction_86 ?_
    refine x_callv B hA (va_runV (As := [.ref ((ad (39 + p0)))]) (rest := []) ⟨hx, hb, hml, hown, hts⟩ (c_Spot_load l D cs _ _ _ (ad 5) (ad (39 + p0)) (ad 227) (ad 228) (ad 6) (Rd 52) (Rd 53) (Rd 54) (Rd 55) (Id 6) (Bg ad) Qm Z_78 (rfs 6 (fun j => ad (229 + j))) (fun j => ad (229 + j)) (Ad (40 + p0)) (hAd.fc [5, 6, 39 + p0] (by have := ((Ar.fr hp0)).lt; simp only [List.nodup_cons, List.mem_cons, List.not_mem_nil, or_false, not_or, List.nodup_nil, and_true, not_false_eq_true]; omega) (by have := ((Ar.fr hp0)).lt; intro q hq; simp only [List.mem_cons, List.not_mem_nil, or_false] at hq; omega)) hC_78.sp hC_78.gs (hC_78.ar (Ar.fr hp0)) hAd.sp hC_78.2.2.1 (hAd.outs [5, 6, 39 + p0] (by have := ((Ar.fr hp0)).lt; intro q hq; simp only [List.mem_cons, List.not_mem_nil, or_false] at hq; omega)) (fun j hj => Bg.pl (by omega)) (fun j hj => rfs_at hj) (fun i j hi hj h => by have := hAd.2.1 _ _ (by omega) (by omega) h; omega) (fun j hj => by rw [hAFd]; have := hFb j hj; omega)) (cwV 1 hts (gw_V w_473 w_474 w_475 w_4 w_476) rfl rfl rfl (by decide +kernel) ⟨by rw [hRf]; exact Nat.le_of_ble_eq_true rfl, by rw [hRl]; exact Nat.le_of_ble_eq_true rfl⟩) ⟨K0.blind, B.recv (hAd.1 _ (by omega)) (hC_78.sp) rfl, B.pre _⟩ rfl rfl hl.1 rfl (lv_room (Nat.le_of_ble_eq_true rfl)) d_RR_findFraction_89 ⟨by rw [hRc]; omega, by rw [hRs]; omega⟩) (fun g89 H locs hw B => ?_)
    obtain ⟨kd, Z_89, hkd6, hkdz, hkdl, hZs_89, hZo_89, hBB_89, hq_89, hc1_89, hc2_89, hc3_89⟩ := hw
    obtain ⟨I_89, hI_89⟩ : ∃ I_89, I_89 = up Id 6 ((kd : Int) - 1) := ⟨_, rfl⟩
    have hC_89 : CSt cs ad Qm g89 I_89 Ad Rd Z_89 := by
      have h9 := CSt.spot hAd hC_78 [6, 39 + p0] hC_78.2.2.2.2.1 hC_78.2.2.2.2.2 hBB_89 hq_89 (fun k hk => by
        simp only [List.mem_cons, List.not_mem_nil, or_false] at hk
        rcases hk with h | h <;> rw [h]
        · exact ⟨by omega, hc2_89.trans hC_78.gs.symm⟩
        · exact ⟨by have := ((Ar.fr hp0)).lt; omega, hc3_89.trans (hC_78.ar (Ar.fr hp0)).symm⟩) hc1_89
      rw [upW_same, ← hI_89] at h9
      exact h9
    have hfr_89 : ∀ k, Awy ad k → g89 k = f k := fun k hk => (hq_89 k (hk.out hAd) (hk.nin [5, 6, 39 + p0] (by have := ((Ar.fr hp0)).lt; intro q hq; simp only [List.mem_cons, List.not_mem_nil, or_false] at hq; omega))).trans (hfr_78 k hk)
    have hIo_89 : ∀ i, i ≠ 6 → I_89 i = Id i := fun i hi => by rw [hI_89, up_ne _ _ hi]
    have hI6_89 : I_89 6 = (kd : Int) - 1 := by rw [hI_89, up_self]
    have B : Wb D vwCl (TY cs) L g89 (AL L s.heap.size) s H _ := B
    have hZu_89 := (hZo_89 (ad 227) (fun j hj => hAd.ne (by omega) (by omega) (by omega))).trans hZu_78
    have hZl_89 := (hZo_89 (ad 228) (fun j hj => hAd.ne (by omega) (by omega) (by omega))).trans hZl_78
    rw [hAFd] at hkdz hkdl
    have hkdn : kd = nn + 1 := by
      rcases Nat.lt_trichotomy kd (nn + 1) with c | c | c
      · exact absurd (hkdz nn (by omega) hn6) hFn
      · exact c
      · exact absurd (hFz (kd - 1) (by omega) (by omega)) (hkdl (by omega))
    have hI6n : I_89 6 = (nn : Int) := by rw [hI6_89]; omega
    have hRB16 : ∀ j, j < 6 → ((Ad (40 + p0) j).natAbs : Int) < 2 ^ 16 := fun j hj => by rw [hAFd]; have := hFb j hj; rw [show (2 : Int) ^ 16 = 65536 from rfl]; omega
    refine lv_aload_n hx hb d_RR_findFraction_92 rfl (lv_at hl 3 rfl) ?_
    refine x_get (C := RX6) (T := TX6) (N := 14) hx hb hts inX6 hown (B.foc1 (hC_89.x)) (hAd.f1 (by omega)) 0 rfl rfl 3 (by decide) (hts _ w_200) (fun _ h9 => h9) rfl d_RR_findFraction_93 ?_
    refine lv_aload_n hx hb d_RR_findFraction_96 rfl (lv_at hl 3 rfl) ?_
    refine x_get (C := RX6) (T := TX6) (N := 14) hx hb hts inX6 hown (B.foc1 (hC_89.x)) (hAd.f1 (by omega)) 0 rfl rfl 3 (by decide) (hts _ w_200) (fun _ h9 => h9) rfl d_RR_findFraction_97 ?_
    refine x_get (C := RX5) (T := TX5) (N := 8) hx hb hts inX5 hown (B.foc1 (hC_89.sp)) (hAd.f1 (by omega)) 0 rfl rfl 2 (by decide) (hts _ w_89) (fun _ h9 => h9) rfl d_RR_findFraction_100 ?_
    refine x_iconst hx hb d_RR_findFraction_103 ?_
    refine lv_aload_n hx hb d_RR_findFraction_104 rfl (lv_at hl 3 rfl) ?_
    refine x_get (C := RX6) (T := TX6) (N := 14) hx hb hts inX6 hown (B.foc1 (hC_89.x)) (hAd.f1 (by omega)) 0 rfl rfl 3 (by decide) (hts _ w_200) (fun _ h9 => h9) rfl d_RR_findFraction_105 ?_
    refine x_get (C := RX5) (T := TX5) (N := 8) hx hb hts inX5 hown (B.foc1 (hC_89.sp)) (hAd.f1 (by omega)) 0 rfl rfl 3 (by decide) (hts _ w_91) (fun _ h9 => h9) rfl d_RR_findFraction_108 ?_
    rw [hI6n]
    refine x_calli B hA (va_runV (As := [.ref ((ad 6)), .int (iI 0), .int (iI ((nn : Int)))]) (rest := []) ⟨hx, hb, hml, hown, hts⟩ (c_Spot_signOf_s l D cs _ _ _ (ad 5) (ad 6) (ad 227) (ad 228) (ad 6) (Rd 52) (Rd 53) (Rd 54) (Rd 55) 0 nn (I_89 6) (Bg ad) (Wkk ad) Qm Z_89 (rfs 6 (fun j => ad (229 + j))) (fun j => ad (229 + j)) (hAd.fc [5, 6] (by simp only [List.nodup_cons, List.mem_cons, List.not_mem_nil, or_false, not_or, List.nodup_nil, and_true, not_false_eq_true]; omega) (by intro q hq; simp only [List.mem_cons, List.not_mem_nil, or_false] at hq; omega)) hC_89.sp hC_89.gs hAd.sp hC_89.2.2.1 (hAd.outs [5, 6] (by intro q hq; simp only [List.mem_cons, List.not_mem_nil, or_false] at hq; omega)) (fun b hb => Wkk.bg hb) hC_89.2.2.2.2.1 hC_89.2.2.2.2.2 (Bg.pl (by decide)) (Bg.pl (by decide)) (Wkk.not hAd (by decide) (by decide)) (Wkk.not hAd (by decide) (by decide)) (by omega) (by omega) (fun j hj => by rw [Nat.zero_add]; exact rfs_at (by omega)) (fun j hj => ⟨Bg.pl (by omega), Wkk.not hAd (by omega) (by omega)⟩) (sp_room (c := (fun j => Z_89 ((fun j => ad (229 + j)) (0 + j)))) (a := 16) (fun j hj => by show ((Z_89 (ad (229 + (0 + j)))).natAbs : Int) < _; rw [Nat.zero_add, hZs_89 j hj]; exact hRB16 j hj) (by omega) (by omega) (by rw [hZu_89]; exact Int.lt_of_le_of_lt (show ((nr : Int).natAbs : Int) ≤ 2048000 by omega) (by decide)) (by rw [hZl_89]; exact Int.lt_of_le_of_lt (show ((ld : Int).natAbs : Int) ≤ 1000 by omega) (by decide)))) (cwV 3 hts (gw_V w_478 w_411 w_412 w_4 w_413) rfl rfl rfl (by decide +kernel) ⟨by rw [hRf]; exact Nat.le_of_ble_eq_true rfl, by rw [hRl]; exact Nat.le_of_ble_eq_true rfl⟩) ⟨K0.blind, B.recv (hAd.1 _ (by omega)) (hC_89.sp) rfl, B.pre _⟩ rfl rfl hl.1 rfl (lv_room (Nat.le_of_ble_eq_true rfl)) d_RR_findFraction_111 ⟨by rw [hRc]; omega, by rw [hRs]; omega⟩) (fun r111 g111 H locs hw B => ?_)
    obtain ⟨gt_111, gp_111, ga_111, gb_111, Z_111, rfl, hZt_111, hWd_111, hNe_111, hZo_111, hBB_111, hq_111, hc1_111, hc2_111⟩ := hw
    obtain ⟨R_111, hR_111⟩ : ∃ R_111, R_111 = upW Rd gt_111 gp_111 ga_111 gb_111 := ⟨_, rfl⟩
    have hC_111 : CSt cs ad Qm g111 I_89 Ad R_111 Z_111 := by
      have h9 := CSt.spot hAd hC_89 [6] hWd_111 hNe_111 hBB_111 hq_111 (fun k hk => by rw [List.mem_singleton.mp hk]; exact ⟨by decide, hc2_111.trans hC_89.gs.symm⟩) hc1_111
      rw [up_same, ← hR_111] at h9
      exact h9
    have hfr_111 : ∀ k, Awy ad k → g111 k = f k := fun k hk => (hq_111 k (hk.out hAd) (hk.nin [5, 6] (by intro q hq; simp only [List.mem_cons, List.not_mem_nil, or_false] at hq; omega))).trans (hfr_89 k hk)
    obtain ⟨sg1, hsg1⟩ : ∃ sg1 : Int, sg1 = (hsum (fun j => Z_89 ((fun j => ad (229 + j)) (0 + j))) nn (Z_89 (ad 227)) (Z_89 (ad 228)) nn).sign := ⟨_, rfl⟩
    rw [← hsg1]
    have hsg1S : sg1 = sg (es (Af (40 + p0)) 6 (((nr : Rat) / (ld : Rat)))) := by rw [hsg1, ← (show (Z_89 (ad 227) : Rat) / (Z_89 (ad 228) : Rat) = (nr : Rat) / (ld : Rat) by rw [hZu_89, hZl_89])]; exact sgn_row (by rw [hZl_89]; omega) (by omega) (fun j hj => by show Z_89 (ad (229 + (0 + j))) = _; rw [Nat.zero_add]; exact (hZs_89 j hj).trans (by rw [hAFd])) (hFz)
    have hsg1r : -1 ≤ sg1 ∧ sg1 ≤ 1 := by rw [hsg1S]; exact sg_rng _
    have B : Wb D vwCl (TY cs) L g111 (AL L s.heap.size) s H _ := B
    have hrw_111 : ∀ t, t < 42 → Z_111 (R_111 t) = Z_89 (Rd t) := fun t ht => by rw [hR_111, upW_lt ht]; exact hZo_111 _ (Ckk.wk hAd (hC_89.rck ht))
    have hZu_111 := (hZo_111 (ad 227) (Wkk.not hAd (by decide) (by decide))).trans hZu_89
    have hZl_111 := (hZo_111 (ad 228) (Wkk.not hAd (by decide) (by decide))).trans hZl_89
    have hZs_111 : ∀ j, j < 6 → Z_111 (ad (229 + j)) = (Ad (40 + p0)) j := fun j hj => (hZo_111 (ad (229 + j)) (Wkk.not hAd (by omega) (by omega))).trans (hZs_89 j hj)
    have hIk : ∀ i, i ≠ 6 → i ≠ 7 → i ≠ 8 → i ≠ 200 + (5 * p0 + i0) → I_89 i = If i := fun i h1 h2 h3 h4 => by rw [hIo_89 i h1, hId6 i h1 h4]; exact hIz i h2 h3
    have hAk : ∀ q, q ≠ 2 → q ≠ 100 + (5 * p0 + i0) → Ad q = Af q := fun q _ h2 => hAdo q h2
    have hI78 : I_89 7 = 0 ∧ I_89 8 = 0 := ⟨by rw [hIo_89 _ (by decide), hId6 _ (by decide) (by omega)]; exact hI7z, by rw [hIo_89 _ (by decide), hId6 _ (by decide) (by omega)]; exact hI8z⟩
    have hcrk : Crv I_89 Ad p0 nm N (va_up dp i0 dd) (up v i0 vd) := hcrd.scr hp0 hIo_89 (fun _ => rfl)
    refine x_if_eq (tgt := 118) hx hb d_RR_findFraction_114 (by decide) (by omega) (fun h114 => ?_) (fun h114 => ?_)
    · refine x_iconst hx hb d_RR_findFraction_118 ?_
      refine lv_istore (lv' := [(8, .int (iI 0)), (6, .long (lI nr)), (4, .long (lI ld)), (3, .int (iI ((nn : Int)))), (0, .ref ((ad 0))), (1, .ref ((ad (15 + p0)))), (2, .int (iI ((i0 : Int))))]) hx hb d_RR_findFraction_119 hl (by decide) rfl (fun ls hl => ?_)
      have LA : ∀ (fuel : Nat) (fw : Nat → va_E) (Iw : Nat → Int) (Aw : Nat → Nat → Int) (Rw : Nat → Nat) (Zw : Nat → Int) (kk : Nat), 6 - kk < fuel → (CSt cs ad Qm fw Iw Aw Rw Zw) → (∀ k, Awy ad k → fw k = f k) → (kk ≤ 6) → (∀ i, i ≠ 6 → i ≠ 7 → i ≠ 8 → i ≠ 200 + (5 * p0 + i0) → Iw i = If i) → (Iw 7 = 0 ∧ Iw 8 = 0) → (∀ q, q ≠ 2 → q ≠ 100 + (5 * p0 + i0) → Aw q = Af q) → (Crv Iw Aw p0 nm N (va_up dp i0 dd) (up v i0 vd)) → (∀ j, j < kk → Aw 2 j = if j = 0 then -nr else if j = 1 then ld else 0) → ∀ (H : Heap) (locs : List Loc) (ls : Array Slot), Wb D vwCl (TY cs) L fw (AL L s.heap.size) s H locs → lv_has ls 10 [(8, .int (iI ((kk : Int)))), (0, .ref ((ad 0))), (1, .ref ((ad (15 + p0)))), (2, .int (iI ((i0 : Int)))), (4, .long (lI ld)), (6, .long (lI nr))] → W p l e R s m av below meth c H locs (0) (0) Q (F0 m 121 ls []) := by
        intro fuel
        induction fuel with
        | zero => intro fw Iw Aw Rw Zw kk hfu; exact absurd hfu (Nat.not_lt_zero _)
        | succ fuel ih_LA =>
          intro fw Iw Aw Rw Zw kk hfu_LA hCw hfrw hkk hIw h78 hAw hcw hSw H locs ls B hl
          refine lv_iload hx hb d_RR_findFraction_121 (lv_at hl 0 rfl) ?_
          refine x_bipush hx hb d_RR_findFraction_123 (by decide) ?_
          refine x_icmp_ge (tgt := 166) hx hb d_RR_findFraction_125 (by decide) (by omega) (by omega) (fun h125 => ?_) (fun h125 => ?_)
          · have hS0 : Aw 2 0 = -nr := by rw [hSw 0 (by omega), if_pos rfl]
            have hS1 : Aw 2 1 = ld := by rw [hSw 1 (by omega), if_neg (by omega), if_pos rfl]
            have hSz : ∀ j, 2 ≤ j → j < 6 → Aw 2 j = 0 := fun j h1 h2 => by rw [hSw j (by omega), if_neg (by omega), if_neg (by omega)]
            have hrt : es (Af (40 + p0)) 6 ((nr : Rat) / (ld : Rat)) = 0 := sg_eq0 (by rw [← hsg1S]; omega)
            obtain ⟨kq, h0, hkq, hGF⟩ := lin_dv (F := Af (40 + p0)) hld1.1 hS0 hS1 hSz hrt
            obtain ⟨M, hMB⟩ := NB.ex (F := Aw 2) ⟨1, by decide, by rw [hS1]; omega⟩
            have hAFw : Aw (40 + p0) = Af (40 + p0) := hAw _ (by omega) (by omega)
            obtain ⟨hSqG, _⟩ := jump_k hSq hkq hGF hNB hMB
            have hVw : ∀ j, j < 6 → -1000 ≤ Aw (20 + p0) j ∧ Aw (20 + p0) j ≤ 1000 := by rw [hAw _ (by omega) (by omega)]; exact hVM
            have hSb : ∀ j, j < 6 → -1073741824 < Aw 2 j ∧ Aw 2 j < 1073741824 := fun j hj => by
              rcases Nat.lt_or_ge j 2 with h | h
              · rcases (show j = 0 ∨ j = 1 by omega) with h | h <;> rw [h]
                · rw [hS0]; omega
                · rw [hS1]; omega
              · rw [hSz j h hj]; omega
            refine lv_aload_n hx hb d_RR_findFraction_166 rfl (lv_at hl 1 rfl) ?_
            refine lv_aload_n hx hb d_RR_findFraction_167 rfl (lv_at hl 2 rfl) ?_
            refine lv_iload_n hx hb d_RR_findFraction_168 rfl (lv_at hl 3 rfl) ?_
            refine lv_aload_n hx hb d_RR_findFraction_169 rfl (lv_at hl 1 rfl) ?_
            refine x_get (C := RX6) (T := TX6) (N := 14) hx hb hts inX6 hown (B.foc1 (hCw.x)) (hAd.f1 (by omega)) 0 rfl rfl 7 (by decide) (hts _ w_204) (fun _ h9 => h9) rfl d_RR_findFraction_170 ?_
            refine x_calli B hA (va_runV (As := [.ref ((ad (15 + p0))), .int (iI ((i0 : Int))), .ref ((ad 10))]) (rest := []) ⟨hx, hb, hml, hown, hts⟩ (c_RR_vanishes l D cs _ _ _ ad Qm Iw Aw Rw Zw p0 nm i0 N (va_up dp i0 dd) (up v i0 vd) 10 2 kq h0 M hAd hCw hp0 hi0 hVw hcw Ar.sh hSb hkq (fun x => by rw [hAFw]; exact hGF x) hMB) (cwV 3 hts (gw_V w_469 w_471 s_19 w_1 w_472) rfl rfl rfl (by decide +kernel) ⟨by rw [hRf]; exact Nat.le_of_ble_eq_true rfl, by rw [hRl]; exact Nat.le_of_ble_eq_true rfl⟩) ⟨K0.blind, B.recv (hAd.1 _ (by omega)) (hCw.x) rfl, B.pre _⟩ rfl rfl hl.1 rfl (lv_room (Nat.le_of_ble_eq_true rfl)) d_RR_findFraction_173 ⟨by rw [hRc]; omega, by rw [hRs]; omega⟩) (fun r173 g173 H locs hw B => ?_)
            obtain ⟨Iv, Av, Rv, Zv, hCv, hqv, ⟨vr, rfl, hvr⟩, ⟨dv, vv, hcrv, hdvd, hvvd⟩, hIv1, hAv1⟩ := hw
            have hfrv : ∀ k, Awy ad k → g173 k = f k := fun k hk => (hqv k hk).trans (hfrw k hk)
            have B : Wb D vwCl (TY cs) L g173 (AL L s.heap.size) s H _ := B
            rw [va_up_self, up_self] at hvr
            rw [va_twice, up_twice] at hcrv
            have hvr01 : vr = 0 ∨ vr = 1 := by rcases hvr with ⟨h, _⟩ | ⟨h, _⟩; exact Or.inr h; exact Or.inl h
            have hIvk : ∀ i, i ≠ 6 → i ≠ 7 → i ≠ 8 → i ≠ 200 + (5 * p0 + i0) → Iv i = If i := fun i h1 h2 h3 h4 => by rw [hIv1 i h1 h4]; exact hIw i h1 h2 h3 h4
            have hAvk : ∀ q, q ≠ 2 → q ≠ 100 + (5 * p0 + i0) → Av q = Af q := fun q h1 h2 => by rw [hAv1 q h2]; exact hAw q h1 h2
            obtain ⟨hlin1, hlin0⟩ := lin_in hSqG hMB hld1.1 hS0 hS1 hSz (x := Pt vd dd) (y := Pt (vd + 1) dd)
            refine x_if_eq (tgt := 234) hx hb d_RR_findFraction_176 (by decide) (by omega) (fun h176 => ?_) (fun h176 => ?_)
            · subst hQ hav
              exact x_vret hx hb hr hlocks B d_RR_findFraction_234 (⟨Iv, Av, Rv, Zv, hCv, hfrv, ⟨dv, vv, hcrv⟩, by rw [hIv1 7 (by decide) (by omega), hIv1 8 (by decide) (by omega), h78.1, h78.2]; exact fr_no2 hPart hNB hcc hn6 hld0 hFz (by omega) hvd (by rw [← hnrE, ← hld]; exact hlin0 (by rcases hvr with ⟨h, _⟩ | ⟨_, h⟩; omega; exact h)), hIvk, hAvk⟩)
            · have hin := hlin1 (by rcases hvr with ⟨_, h⟩ | ⟨h, _⟩; exact h; omega)
              have hfs := fr_some hSq hNB hcc hisod hld1 hrt hin
              refine lv_lload hx hb d_RR_findFraction_179 (lv_at hl 5 rfl) ?_
              refine lv_lload hx hb d_RR_findFraction_181 (lv_at hl 4 rfl) ?_
              refine x_calll B hA (va_runS (As := [.long (lI nr), .long (lI ld)]) (rest := []) ⟨hx, hb, hml, hown, hts⟩ (c_RR_greatestDivisor l D cs _ _ _ nr ld (by omega) (by omega)) (va_cwS 2 hts (gw_S w_314 w_315 w_1 w_316) rfl rfl rfl (by decide +kernel) ⟨by rw [hRf]; exact Nat.le_of_ble_eq_true rfl, by rw [hRl]; exact Nat.le_of_ble_eq_true rfl⟩) ⟨K0.blind, B.pre _⟩ rfl rfl hl.1 rfl (lv_room (Nat.le_of_ble_eq_true rfl)) d_RR_findFraction_183 ⟨by rw [hRc]; omega, by rw [hRs]; omega⟩) (fun r183 g183 H locs hw B => ?_)
              obtain ⟨rfl, hgf⟩ := hw
              rw [hgf] at B
              obtain ⟨gd, hgd⟩ : ∃ gd : Int, gd = ((Nat.gcd nr.natAbs ld.natAbs : Nat) : Int) := ⟨_, rfl⟩
              rw [← hgd]
              refine lv_lstore (lv' := [(8, .long (lI gd)), (0, .ref ((ad 0))), (1, .ref ((ad (15 + p0)))), (2, .int (iI ((i0 : Int)))), (4, .long (lI ld)), (6, .long (lI nr))]) hx hb d_RR_findFraction_186 hl (by decide) rfl (fun ls hl => ?_)
              have hgd1 : 1 ≤ gd := by rw [hgd]; have : 0 < Nat.gcd nr.natAbs ld.natAbs := Nat.gcd_pos_of_pos_right _ (by omega); omega
              have hgdn : gd ∣ nr := by rw [hgd]; exact Int.dvd_natAbs.mp (Int.natCast_dvd_natCast.mpr (Nat.gcd_dvd_left _ _))
              have hgdd : gd ∣ ld := by rw [hgd]; exact Int.dvd_natAbs.mp (Int.natCast_dvd_natCast.mpr (Nat.gcd_dvd_right _ _))
              have hgdb : gd ≤ ld := Int.le_of_dvd (by omega) hgdd
              rw [← hgd] at hfs
              refine lv_aload_n hx hb d_RR_findFraction_188 rfl (lv_at hl 1 rfl) ?_
              refine x_get (C := RX6) (T := TX6) (N := 14) hx hb hts inX6 hown (B.foc1 (hCv.x)) (hAd.f1 (by omega)) 0 rfl rfl 4 (by decide) (hts _ w_201) (fun _ h9 => h9) rfl d_RR_findFraction_189 ?_
              refine lv_lload hx hb d_RR_findFraction_192 (lv_at hl 0 rfl) ?_
              refine x_lconst (z := 0) hx hb d_RR_findFraction_194 (by decide) ?_
              refine x_lc_ne (tgt := 203) hx hb d_RR_findFraction_195 rfl d_RR_findFraction_196 (by decide) (by omega) (by omega) (fun h196 => ?_) (fun h196 => ?_)
              · refine lv_lload hx hb d_RR_findFraction_203 (lv_at hl 5 rfl) ?_
                refine lv_lload hx hb d_RR_findFraction_205 (lv_at hl 0 rfl) ?_
                refine x_ldiv hx hb d_RR_findFraction_207 (by omega) (by omega) (by omega) ?_
                rw [Int.tdiv_eq_ediv_of_dvd hgdn]
                refine x_put (C := RX4) (T := TX4) (N := 7) hx hb hts inX4 tyX4 tyX4_ok nmX4 hown (B.foc1 (hCv.ra)) (hAd.f1 (by omega)) 0 rfl rfl 2 (by decide) (hts _ w_127) (fun _ h9 => h9) rfl (tyX4_ok 2 (by decide)) rfl rfl (Nat.le_of_ble_eq_true rfl) d_RR_findFraction_208 (fun H locs B => ?_)
                have B : Wb D vwCl (TY cs) L (mw g173 [((ad 7), .inr (4, [.ref (ad 239), .ref (ad 240), .long (lI (nr / gd)), .long (lI (Iv 8)), .ref (ad 241), .ref (ad 242), .ref (ad 243)]))]) (AL L s.heap.size) s H _ := B
                obtain ⟨f_208, hf_208⟩ : ∃ f_208, f_208 = mw g173 [((ad 7), .inr (4, [.ref (ad 239), .ref (ad 240), .long (lI (nr / gd)), .long (lI (Iv 8)), .ref (ad 241), .ref (ad 242), .ref (ad 243)]))] := ⟨_, rfl⟩
                rw [← hf_208] at B
                obtain ⟨I_208, hI_208⟩ : ∃ I_208, I_208 = up Iv 7 (nr / gd) := ⟨_, rfl⟩
                have hC_208 : CSt cs ad Qm f_208 I_208 Av Rv Zv := by rw [hf_208, hI_208]; exact CSt.w_n hAd hCv (nr / gd)
                have hfr_208 : ∀ k, Awy ad k → f_208 k = f k := fun k hk => Eq.trans (by rw [hf_208]; exact hk.mw1 (by omega)) (hfrv k hk)
                refine lv_aload_n hx hb d_RR_findFraction_211 rfl (lv_at hl 1 rfl) ?_
                refine x_get (C := RX6) (T := TX6) (N := 14) hx hb hts inX6 hown (B.foc1 (hC_208.x)) (hAd.f1 (by omega)) 0 rfl rfl 4 (by decide) (hts _ w_201) (fun _ h9 => h9) rfl d_RR_findFraction_212 ?_
                refine lv_lload hx hb d_RR_findFraction_215 (lv_at hl 0 rfl) ?_
                refine x_lconst (z := 0) hx hb d_RR_findFraction_217 (by decide) ?_
                refine x_lc_ne (tgt := 226) hx hb d_RR_findFraction_218 rfl d_RR_findFraction_219 (by decide) (by omega) (by omega) (fun h219 => ?_) (fun h219 => ?_)
                · refine lv_lload hx hb d_RR_findFraction_226 (lv_at hl 4 rfl) ?_
                  refine lv_lload hx hb d_RR_findFraction_228 (lv_at hl 0 rfl) ?_
                  refine x_ldiv hx hb d_RR_findFraction_230 (by omega) (by omega) (by omega) ?_
                  rw [Int.tdiv_eq_ediv_of_dvd hgdd]
                  refine x_put (C := RX4) (T := TX4) (N := 7) hx hb hts inX4 tyX4 tyX4_ok nmX4 hown (B.foc1 (hC_208.ra)) (hAd.f1 (by omega)) 0 rfl rfl 3 (by decide) (hts _ w_129) (fun _ h9 => h9) rfl (tyX4_ok 3 (by decide)) rfl rfl (Nat.le_of_ble_eq_true rfl) d_RR_findFraction_231 (fun H locs B => ?_)
                  have B : Wb D vwCl (TY cs) L (mw f_208 [((ad 7), .inr (4, [.ref (ad 239), .ref (ad 240), .long (lI (I_208 7)), .long (lI (ld / gd)), .ref (ad 241), .ref (ad 242), .ref (ad 243)]))]) (AL L s.heap.size) s H _ := B
                  obtain ⟨f_231, hf_231⟩ : ∃ f_231, f_231 = mw f_208 [((ad 7), .inr (4, [.ref (ad 239), .ref (ad 240), .long (lI (I_208 7)), .long (lI (ld / gd)), .ref (ad 241), .ref (ad 242), .ref (ad 243)]))] := ⟨_, rfl⟩
                  rw [← hf_231] at B
                  obtain ⟨I_231, hI_231⟩ : ∃ I_231, I_231 = up I_208 8 (ld / gd) := ⟨_, rfl⟩
                  have hC_231 : CSt cs ad Qm f_231 I_231 Av Rv Zv := by rw [hf_231, hI_231]; exact CSt.w_d hAd hC_208 (ld / gd)
                  have hfr_231 : ∀ k, Awy ad k → f_231 k = f k := fun k hk => Eq.trans (by rw [hf_231]; exact hk.mw1 (by omega)) (hfr_208 k hk)
                  subst hQ hav
                  exact x_vret hx hb hr hlocks B d_RR_findFraction_234 (⟨I_231, Av, Rv, Zv, hC_231, hfr_231, ⟨dv, vv, hcrv.keep rfl rfl (by rw [hI_231, up_ne _ _ (by omega), hI_208, up_ne _ _ (by omega)]) (fun i hi => ⟨by rw [hI_231, up_ne _ _ (by omega), hI_208, up_ne _ _ (by omega)], by rw [hI_231, up_ne _ _ (by omega), hI_208, up_ne _ _ (by omega)], rfl⟩)⟩, by rw [hI_231, up_self, up_ne _ _ (by decide), hI_208, up_self]; exact hfs, fun i h1 h2 h3 h4 => by rw [hI_231, up_ne _ _ h3, hI_208, up_ne _ _ h2]; exact hIvk i h1 h2 h3 h4, hAvk⟩)
                · exfalso; omega
              · exfalso; omega
          · refine lv_aload_n hx hb d_RR_findFraction_128 rfl (lv_at hl 1 rfl) ?_
            refine x_get (C := RX6) (T := TX6) (N := 14) hx hb hts inX6 hown (B.foc1 (hCw.x)) (hAd.f1 (by omega)) 0 rfl rfl 7 (by decide) (hts _ w_204) (fun _ h9 => h9) rfl d_RR_findFraction_129 ?_
            refine lv_iload hx hb d_RR_findFraction_132 (lv_at hl 0 rfl) ?_
            refine lv_iload hx hb d_RR_findFraction_134 (lv_at hl 0 rfl) ?_
            refine x_if_ne (tgt := 146) hx hb d_RR_findFraction_136 (by decide) (by omega) (fun h136 => ?_) (fun h136 => ?_)
            · refine lv_iload hx hb d_RR_findFraction_146 (lv_at hl 0 rfl) ?_
              refine x_iconst hx hb d_RR_findFraction_148 ?_
              refine x_icmp_ne (tgt := 158) hx hb d_RR_findFraction_149 (by decide) (by omega) (by omega) (fun h149 => ?_) (fun h149 => ?_)
              · refine x_iconst hx hb d_RR_findFraction_158 ?_
                refine x_iast hx hb (B.foc1 (hCw.shared)) (hAd.f1 (by omega)) 0 0 rfl rfl kk (by omega) (by omega) (by decide) d_RR_findFraction_159 (fun H locs B => ?_)
                have B : Wb D vwCl (TY cs) L (mw fw [((ad 10), .inl (cs 0, 6, .inl (ai (up (Aw 2) kk (0)))))]) (AL L s.heap.size) s H _ := B
                obtain ⟨f_159, hf_159⟩ : ∃ f_159, f_159 = mw fw [((ad 10), .inl (cs 0, 6, .inl (ai (up (Aw 2) kk (0)))))] := ⟨_, rfl⟩
                rw [← hf_159] at B
                obtain ⟨A_159, hA_159⟩ : ∃ A_159, A_159 = upA Aw 2 (up (Aw 2) kk (0)) := ⟨_, rfl⟩
                have hC_159 : CSt cs ad Qm f_159 Iw A_159 Rw Zw := by rw [hf_159, hA_159]; exact CSt.wAr hAd hCw Ar.sh _
                have hfr_159 : ∀ k, Awy ad k → f_159 k = f k := fun k hk => Eq.trans (by rw [hf_159]; exact hk.mw1 (by omega)) (hfrw k hk)
                refine x_iinc (lv' := [(8, .int (iI (((kk : Int)) + 1))), (0, .ref ((ad 0))), (1, .ref ((ad (15 + p0)))), (2, .int (iI ((i0 : Int)))), (4, .long (lI ld)), (6, .long (lI nr))]) hx hb d_RR_findFraction_160 hl (q := 0) rfl rfl (by decide) rfl (fun ls hl => ?_)
                refine lv_goto (tgt := 121) hx hb d_RR_findFraction_163 (by decide) ?_
                exact ih_LA f_159 Iw A_159 Rw Zw (kk + 1) (by omega) hC_159 hfr_159 (by omega) hIw h78 (fun q h1 h2 => by rw [hA_159, upA_ne _ _ h1]; exact hAw q h1 h2) (hcw.keep (by rw [hA_159, upA_ne _ _ (by omega)]) (by rw [hA_159, upA_ne _ _ (by omega)]) rfl (fun i hi => ⟨rfl, rfl, by rw [hA_159, upA_ne _ _ (by omega)]⟩)) (fun j hj => by
          rw [hA_159, upA_self]
          by_cases c : j = kk
          · rw [c, up_self]
            first
            | rw [if_pos (by omega)]
            | rw [if_neg (by omega), if_pos (by omega)]
            | rw [if_neg (by omega), if_neg (by omega)]
          · rw [up_ne _ _ c]; exact hSw j (by omega)) _ _ _ B (lv_sub hl [0, 1, 2, 3, 4, 5] rfl)
              · refine lv_lload hx hb d_RR_findFraction_152 (lv_at hl 4 rfl) ?_
                refine x_l2i hx hb d_RR_findFraction_154 ?_
                refine lv_goto (tgt := 159) hx hb d_RR_findFraction_155 (by decide) ?_
                refine x_iast hx hb (B.foc1 (hCw.shared)) (hAd.f1 (by omega)) 0 0 rfl rfl kk (by omega) (by omega) (by decide) d_RR_findFraction_159 (fun H locs B => ?_)
                have B : Wb D vwCl (TY cs) L (mw fw [((ad 10), .inl (cs 0, 6, .inl (ai (up (Aw 2) kk (ld)))))]) (AL L s.heap.size) s H _ := B
                obtain ⟨f_159, hf_159⟩ : ∃ f_159, f_159 = mw fw [((ad 10), .inl (cs 0, 6, .inl (ai (up (Aw 2) kk (ld)))))] := ⟨_, rfl⟩
                rw [← hf_159] at B
                obtain ⟨A_159, hA_159⟩ : ∃ A_159, A_159 = upA Aw 2 (up (Aw 2) kk (ld)) := ⟨_, rfl⟩
                have hC_159 : CSt cs ad Qm f_159 Iw A_159 Rw Zw := by rw [hf_159, hA_159]; exact CSt.wAr hAd hCw Ar.sh _
                have hfr_159 : ∀ k, Awy ad k → f_159 k = f k := fun k hk => Eq.trans (by rw [hf_159]; exact hk.mw1 (by omega)) (hfrw k hk)
                refine x_iinc (lv' := [(8, .int (iI (((kk : Int)) + 1))), (0, .ref ((ad 0))), (1, .ref ((ad (15 + p0)))), (2, .int (iI ((i0 : Int)))), (4, .long (lI ld)), (6, .long (lI nr))]) hx hb d_RR_findFraction_160 hl (q := 0) rfl rfl (by decide) rfl (fun ls hl => ?_)
                refine lv_goto (tgt := 121) hx hb d_RR_findFraction_163 (by decide) ?_
                exact ih_LA f_159 Iw A_159 Rw Zw (kk + 1) (by omega) hC_159 hfr_159 (by omega) hIw h78 (fun q h1 h2 => by rw [hA_159, upA_ne _ _ h1]; exact hAw q h1 h2) (hcw.keep (by rw [hA_159, upA_ne _ _ (by omega)]) (by rw [hA_159, upA_ne _ _ (by omega)]) rfl (fun i hi => ⟨rfl, rfl, by rw [hA_159, upA_ne _ _ (by omega)]⟩)) (fun j hj => by
          rw [hA_159, upA_self]
          by_cases c : j = kk
          · rw [c, up_self]
            first
            | rw [if_pos (by omega)]
            | rw [if_neg (by omega), if_pos (by omega)]
            | rw [if_neg (by omega), if_neg (by omega)]
          · rw [up_ne _ _ c]; exact hSw j (by omega)) _ _ _ B (lv_sub hl [0, 1, 2, 3, 4, 5] rfl)
            · refine lv_lload hx hb d_RR_findFraction_139 (lv_at hl 5 rfl) ?_
              refine x_lneg hx hb d_RR_findFraction_141 ?_
              refine x_l2i hx hb d_RR_findFraction_142 ?_
              refine lv_goto (tgt := 159) hx hb d_RR_findFraction_143 (by decide) ?_
              refine x_iast hx hb (B.foc1 (hCw.shared)) (hAd.f1 (by omega)) 0 0 rfl rfl kk (by omega) (by omega) (by decide) d_RR_findFraction_159 (fun H locs B => ?_)
              have B : Wb D vwCl (TY cs) L (mw fw [((ad 10), .inl (cs 0, 6, .inl (ai (up (Aw 2) kk (-nr)))))]) (AL L s.heap.size) s H _ := B
              obtain ⟨f_159, hf_159⟩ : ∃ f_159, f_159 = mw fw [((ad 10), .inl (cs 0, 6, .inl (ai (up (Aw 2) kk (-nr)))))] := ⟨_, rfl⟩
              rw [← hf_159] at B
              obtain ⟨A_159, hA_159⟩ : ∃ A_159, A_159 = upA Aw 2 (up (Aw 2) kk (-nr)) := ⟨_, rfl⟩
              have hC_159 : CSt cs ad Qm f_159 Iw A_159 Rw Zw := by rw [hf_159, hA_159]; exact CSt.wAr hAd hCw Ar.sh _
              have hfr_159 : ∀ k, Awy ad k → f_159 k = f k := fun k hk => Eq.trans (by rw [hf_159]; exact hk.mw1 (by omega)) (hfrw k hk)
              refine x_iinc (lv' := [(8, .int (iI (((kk : Int)) + 1))), (0, .ref ((ad 0))), (1, .ref ((ad (15 + p0)))), (2, .int (iI ((i0 : Int)))), (4, .long (lI ld)), (6, .long (lI nr))]) hx hb d_RR_findFraction_160 hl (q := 0) rfl rfl (by decide) rfl (fun ls hl => ?_)
              refine lv_goto (tgt := 121) hx hb d_RR_findFraction_163 (by decide) ?_
              exact ih_LA f_159 Iw A_159 Rw Zw (kk + 1) (by omega) hC_159 hfr_159 (by omega) hIw h78 (fun q h1 h2 => by rw [hA_159, upA_ne _ _ h1]; exact hAw q h1 h2) (hcw.keep (by rw [hA_159, upA_ne _ _ (by omega)]) (by rw [hA_159, upA_ne _ _ (by omega)]) rfl (fun i hi => ⟨rfl, rfl, by rw [hA_159, upA_ne _ _ (by omega)]⟩)) (fun j hj => by
          rw [hA_159, upA_self]
          by_cases c : j = kk
          · rw [c, up_self]
            first
            | rw [if_pos (by omega)]
            | rw [if_neg (by omega), if_pos (by omega)]
            | rw [if_neg (by omega), if_neg (by omega)]
          · rw [up_ne _ _ c]; exact hSw j (by omega)) _ _ _ B (lv_sub hl [0, 1, 2, 3, 4, 5] rfl)
      exact LA _ g111 I_89 Ad R_111 Z_111 0 (Nat.lt_succ_self _) hC_111 hfr_111 (by omega) hIk hI78 hAk hcrk (fun j hj => absurd hj (Nat.not_lt_zero _)) _ _ _ B (lv_sub hl [0, 4, 5, 6, 2, 1] rfl)
    · subst hQ hav
      exact x_vret hx hb hr hlocks B d_RR_findFraction_117 (⟨I_89, Ad, R_111, Z_111, hC_111, hfr_111, ⟨dd, vd, hcrk⟩, by rw [hI78.1, hI78.2]; exact fr_no1 hPart hNB hcc hn6 hld0 hFz (by rw [← hnrE, ← hld]; intro h9; rw [h9, sg_zero] at hsg1S; omega), hIk, hAk⟩)
  · subst hQ hav
    exact x_vret hx hb hr hlocks B d_RR_findFraction_36 (by exfalso; omega)
