theorem d_Ratio_reduce_0 : decode prog_6_method_2_code 0 = .ok (.aload_n 0, 1) := by decide +kernel
theorem d_Ratio_reduce_1 : decode prog_6_method_2_code 1 = .ok (.getfield 10, 3) := by decide +kernel
theorem d_Ratio_reduce_4 : decode prog_6_method_2_code 4 = .ok (.dup, 1) := by decide +kernel
theorem d_Ratio_reduce_5 : decode prog_6_method_2_code 5 = .ok (.getfield 35, 3) := by decide +kernel
theorem d_Ratio_reduce_8 : decode prog_6_method_2_code 8 = .ok (.aload_n 0, 1) := by decide +kernel
theorem d_Ratio_reduce_9 : decode prog_6_method_2_code 9 = .ok (.getfield 16, 3) := by decide +kernel
theorem d_Ratio_reduce_12 : decode prog_6_method_2_code 12 = .ok (.getfield 35, 3) := by decide +kernel
theorem d_Ratio_reduce_15 : decode prog_6_method_2_code 15 = .ok (.imul, 1) := by decide +kernel
theorem d_Ratio_reduce_16 : decode prog_6_method_2_code 16 = .ok (.putfield 35, 3) := by decide +kernel
theorem d_Ratio_reduce_19 : decode prog_6_method_2_code 19 = .ok (.aload_n 0, 1) := by decide +kernel
theorem d_Ratio_reduce_20 : decode prog_6_method_2_code 20 = .ok (.getfield 16, 3) := by decide +kernel
theorem d_Ratio_reduce_23 : decode prog_6_method_2_code 23 = .ok (.iconst 1, 1) := by decide +kernel
theorem d_Ratio_reduce_24 : decode prog_6_method_2_code 24 = .ok (.putfield 35, 3) := by decide +kernel
theorem d_Ratio_reduce_27 : decode prog_6_method_2_code 27 = .ok (.aload_n 0, 1) := by decide +kernel
theorem d_Ratio_reduce_28 : decode prog_6_method_2_code 28 = .ok (.getfield 10, 3) := by decide +kernel
theorem d_Ratio_reduce_31 : decode prog_6_method_2_code 31 = .ok (.getfield 35, 3) := by decide +kernel
theorem d_Ratio_reduce_34 : decode prog_6_method_2_code 34 = .ok (.ifCond .ne 15, 3) := by decide +kernel
theorem d_Ratio_reduce_37 : decode prog_6_method_2_code 37 = .ok (.aload_n 0, 1) := by decide +kernel
theorem d_Ratio_reduce_38 : decode prog_6_method_2_code 38 = .ok (.lconst 0, 1) := by decide +kernel
theorem d_Ratio_reduce_39 : decode prog_6_method_2_code 39 = .ok (.putfield 19, 3) := by decide +kernel
theorem d_Ratio_reduce_42 : decode prog_6_method_2_code 42 = .ok (.aload_n 0, 1) := by decide +kernel
theorem d_Ratio_reduce_43 : decode prog_6_method_2_code 43 = .ok (.lconst 1, 1) := by decide +kernel
theorem d_Ratio_reduce_44 : decode prog_6_method_2_code 44 = .ok (.putfield 23, 3) := by decide +kernel
theorem d_Ratio_reduce_47 : decode prog_6_method_2_code 47 = .ok (.iconst 1, 1) := by decide +kernel
theorem d_Ratio_reduce_48 : decode prog_6_method_2_code 48 = .ok (.ireturn, 1) := by decide +kernel
theorem d_Ratio_reduce_49 : decode prog_6_method_2_code 49 = .ok (.aload_n 0, 1) := by decide +kernel
theorem d_Ratio_reduce_50 : decode prog_6_method_2_code 50 = .ok (.getfield 10, 3) := by decide +kernel
theorem d_Ratio_reduce_53 : decode prog_6_method_2_code 53 = .ok (.invokevirtual 39, 3) := by decide +kernel
theorem d_Ratio_reduce_56 : decode prog_6_method_2_code 56 = .ok (.aload_n 0, 1) := by decide +kernel
theorem d_Ratio_reduce_57 : decode prog_6_method_2_code 57 = .ok (.getfield 16, 3) := by decide +kernel
theorem d_Ratio_reduce_60 : decode prog_6_method_2_code 60 = .ok (.invokevirtual 39, 3) := by decide +kernel
theorem d_Ratio_reduce_63 : decode prog_6_method_2_code 63 = .ok (.invokestatic 43, 3) := by decide +kernel
theorem d_Ratio_reduce_66 : decode prog_6_method_2_code 66 = .ok (.istore_n 3, 1) := by decide +kernel
theorem d_Ratio_reduce_67 : decode prog_6_method_2_code 67 = .ok (.aload_n 0, 1) := by decide +kernel
theorem d_Ratio_reduce_68 : decode prog_6_method_2_code 68 = .ok (.getfield 10, 3) := by decide +kernel
theorem d_Ratio_reduce_71 : decode prog_6_method_2_code 71 = .ok (.iload_n 3, 1) := by decide +kernel
theorem d_Ratio_reduce_72 : decode prog_6_method_2_code 72 = .ok (.invokevirtual 49, 3) := by decide +kernel
theorem d_Ratio_reduce_75 : decode prog_6_method_2_code 75 = .ok (.aload_n 0, 1) := by decide +kernel
theorem d_Ratio_reduce_76 : decode prog_6_method_2_code 76 = .ok (.getfield 16, 3) := by decide +kernel
theorem d_Ratio_reduce_79 : decode prog_6_method_2_code 79 = .ok (.iload_n 3, 1) := by decide +kernel
theorem d_Ratio_reduce_80 : decode prog_6_method_2_code 80 = .ok (.invokevirtual 49, 3) := by decide +kernel
theorem d_Ratio_reduce_83 : decode prog_6_method_2_code 83 = .ok (.aload_n 0, 1) := by decide +kernel
theorem d_Ratio_reduce_84 : decode prog_6_method_2_code 84 = .ok (.invokevirtual 53, 3) := by decide +kernel
theorem d_Ratio_reduce_87 : decode prog_6_method_2_code 87 = .ok (.aload_n 0, 1) := by decide +kernel
theorem d_Ratio_reduce_88 : decode prog_6_method_2_code 88 = .ok (.aload_n 0, 1) := by decide +kernel
theorem d_Ratio_reduce_89 : decode prog_6_method_2_code 89 = .ok (.aload_n 0, 1) := by decide +kernel
theorem d_Ratio_reduce_90 : decode prog_6_method_2_code 90 = .ok (.getfield 10, 3) := by decide +kernel
theorem d_Ratio_reduce_93 : decode prog_6_method_2_code 93 = .ok (.invokevirtual 56, 3) := by decide +kernel
theorem d_Ratio_reduce_96 : decode prog_6_method_2_code 96 = .ok (.putfield 19, 3) := by decide +kernel
theorem d_Ratio_reduce_99 : decode prog_6_method_2_code 99 = .ok (.aload_n 0, 1) := by decide +kernel
theorem d_Ratio_reduce_100 : decode prog_6_method_2_code 100 = .ok (.aload_n 0, 1) := by decide +kernel
theorem d_Ratio_reduce_101 : decode prog_6_method_2_code 101 = .ok (.aload_n 0, 1) := by decide +kernel
theorem d_Ratio_reduce_102 : decode prog_6_method_2_code 102 = .ok (.getfield 16, 3) := by decide +kernel
theorem d_Ratio_reduce_105 : decode prog_6_method_2_code 105 = .ok (.invokevirtual 56, 3) := by decide +kernel
theorem d_Ratio_reduce_108 : decode prog_6_method_2_code 108 = .ok (.putfield 23, 3) := by decide +kernel
theorem d_Ratio_reduce_111 : decode prog_6_method_2_code 111 = .ok (.aload_n 0, 1) := by decide +kernel
theorem d_Ratio_reduce_112 : decode prog_6_method_2_code 112 = .ok (.getfield 19, 3) := by decide +kernel
theorem d_Ratio_reduce_115 : decode prog_6_method_2_code 115 = .ok (.lload_n 1, 1) := by decide +kernel
theorem d_Ratio_reduce_116 : decode prog_6_method_2_code 116 = .ok (.lneg, 1) := by decide +kernel
theorem d_Ratio_reduce_117 : decode prog_6_method_2_code 117 = .ok (.lcmp, 1) := by decide +kernel
theorem d_Ratio_reduce_118 : decode prog_6_method_2_code 118 = .ok (.ifCond .lt 43, 3) := by decide +kernel
theorem d_Ratio_reduce_121 : decode prog_6_method_2_code 121 = .ok (.aload_n 0, 1) := by decide +kernel
theorem d_Ratio_reduce_122 : decode prog_6_method_2_code 122 = .ok (.getfield 19, 3) := by decide +kernel
theorem d_Ratio_reduce_125 : decode prog_6_method_2_code 125 = .ok (.lload_n 1, 1) := by decide +kernel
theorem d_Ratio_reduce_126 : decode prog_6_method_2_code 126 = .ok (.lcmp, 1) := by decide +kernel
theorem d_Ratio_reduce_127 : decode prog_6_method_2_code 127 = .ok (.ifCond .gt 34, 3) := by decide +kernel
theorem d_Ratio_reduce_130 : decode prog_6_method_2_code 130 = .ok (.aload_n 0, 1) := by decide +kernel
theorem d_Ratio_reduce_131 : decode prog_6_method_2_code 131 = .ok (.getfield 23, 3) := by decide +kernel
theorem d_Ratio_reduce_134 : decode prog_6_method_2_code 134 = .ok (.lconst 0, 1) := by decide +kernel
theorem d_Ratio_reduce_135 : decode prog_6_method_2_code 135 = .ok (.lcmp, 1) := by decide +kernel
theorem d_Ratio_reduce_136 : decode prog_6_method_2_code 136 = .ok (.ifCond .eq 25, 3) := by decide +kernel
theorem d_Ratio_reduce_139 : decode prog_6_method_2_code 139 = .ok (.aload_n 0, 1) := by decide +kernel
theorem d_Ratio_reduce_140 : decode prog_6_method_2_code 140 = .ok (.getfield 23, 3) := by decide +kernel
theorem d_Ratio_reduce_143 : decode prog_6_method_2_code 143 = .ok (.lload_n 1, 1) := by decide +kernel
theorem d_Ratio_reduce_144 : decode prog_6_method_2_code 144 = .ok (.lcmp, 1) := by decide +kernel
theorem d_Ratio_reduce_145 : decode prog_6_method_2_code 145 = .ok (.ifCond .gt 16, 3) := by decide +kernel
theorem d_Ratio_reduce_148 : decode prog_6_method_2_code 148 = .ok (.aload_n 0, 1) := by decide +kernel
theorem d_Ratio_reduce_149 : decode prog_6_method_2_code 149 = .ok (.getfield 19, 3) := by decide +kernel
theorem d_Ratio_reduce_152 : decode prog_6_method_2_code 152 = .ok (.lconst 0, 1) := by decide +kernel
theorem d_Ratio_reduce_153 : decode prog_6_method_2_code 153 = .ok (.lcmp, 1) := by decide +kernel
theorem d_Ratio_reduce_154 : decode prog_6_method_2_code 154 = .ok (.ifCond .eq 7, 3) := by decide +kernel
theorem d_Ratio_reduce_157 : decode prog_6_method_2_code 157 = .ok (.iconst 1, 1) := by decide +kernel
theorem d_Ratio_reduce_158 : decode prog_6_method_2_code 158 = .ok (.goto 4, 3) := by decide +kernel
theorem d_Ratio_reduce_161 : decode prog_6_method_2_code 161 = .ok (.iconst 0, 1) := by decide +kernel
theorem d_Ratio_reduce_162 : decode prog_6_method_2_code 162 = .ok (.ireturn, 1) := by decide +kernel
set_option maxHeartbeats 8000000 in
set_option maxRecDepth 100000 in
theorem c_Ra_reduce (l : Launch) (D : va_G) (cs : Nat → ClassId) (L : List Nat) (f : Nat → va_E) (sz : Nat) (ad Qm : Nat → Nat) (If : Nat → Int) (Af : Nat → Nat → Int) (Rf : Nat → Nat) (Zf : Nat → Int)  (hAd : AdOk L ad Qm) (hC : CSt cs ad Qm f If Af Rf Zf) (hL : Zf (ad 240) ≠ 0) (hU2 : Nb2 (Zf (ad 239))) (hL2 : Nb2 (Zf (ad 240))) : Met l (⟨"RealRoots$Ratio", "reduce", "(J)Z"⟩ : MethodName) (.code (⟨"RealRoots$Ratio", "reduce", "(J)Z"⟩ : MethodName) prog_6_method_2_code 4 (Option.some Jvm.ClassFile.FieldType.boolean) :: gw) ({ frames := 4, cells := 0, slots := 0, locals := 120 }) (va_Pc [.ref ((ad 7)), .long (lI 1000000000000000000)] (K0 D vwCl (TY cs) L f sz)) (va_Qi (fun (r : Int32) (g : Nat → va_E) => ∃ (I' : Nat → Int) (A' : Nat → Nat → Int) (R' : Nat → Nat) (Z' : Nat → Int), CSt cs ad Qm g I' A' R' Z' ∧ (∀ k, Awy ad k → g k = f k) ∧ (∀ i, i ≠ 7 → i ≠ 8 → I' i = If i) ∧ (∀ q, A' q = Af q) ∧ ((Zf (ad 239) = 0 ∧ r = iI 1 ∧ I' 7 = 0 ∧ I' 8 = 1) ∨ (Zf (ad 239) ≠ 0 ∧ ∃ qn qd : Int, qn = ((Zf (ad 239)).natAbs : Int) / ((Nat.gcd (Zf (ad 239)).natAbs (Zf (ad 240)).natAbs : Nat) : Int) ∧ qd = ((Zf (ad 240)).natAbs : Int) / ((Nat.gcd (Zf (ad 239)).natAbs (Zf (ad 240)).natAbs : Nat) : Int) ∧ ((qn ≤ 1000000000000000000 ∧ qd ≤ 1000000000000000000 ∧ r = iI 1 ∧ I' 7 = (Zf (ad 240)).sign * (Zf (ad 239)).sign * qn ∧ I' 8 = qd) ∨ ((1000000000000000000 < qn ∨ 1000000000000000000 < qd) ∧ r = iI 0))))) (K1 D vwCl (TY cs) (AL L sz) L) (AL L sz)) 0 0 (AL L sz) := by
  refine Met.ofW (cc := prog_6_method_2_code) (maxL := 4) (ret := (Option.some Jvm.ClassFile.FieldType.boolean)) (by decide) rfl ?_
  intro p e s m args below meth c s₁ Bd hml hv
  obtain ⟨rfl, hk0⟩ := hv
  obtain ⟨hsz, B⟩ := hk0.start
  subst hsz
  have hx := Bd.exec
  have hb := Bd.bytes
  have hr := Bd.returns
  have hlocks := Bd.notSynchronized
  have hts0 := atoms_spec Bd.pre
  have hown : s.vm.findClass RX4 = some m.cls := findClass_of_methodNamed Bd.named
  have hA : ∀ q, s.heap.size ≤ q → AL L s.heap.size q := fun _ h => Or.inr h
  have hl := lv_entry ([.ref ((ad 7)), .long (lI 1000000000000000000)]) (n := 4) (Nat.le_of_ble_eq_true rfl)
  rw [lg_entry_eq]
  generalize (lg_sl ([.ref ((ad 7)), .long (lI 1000000000000000000)]) ++ List.replicate (4 - (lg_sl ([.ref ((ad 7)), .long (lI 1000000000000000000)])).length) Slot.unset).toArray = ls at hl ⊢
  refine absQ (fun Q R av hQ hR hav => ?_)
  have hts : ∀ w ∈ gw, w.before av s = true := by rw [hav]; exact fun w h => hts0 w (List.mem_cons_of_mem _ h)
  have hRf : R.frames = 4 := by rw [hR]; rfl
  have hRl : R.locals = 120 := by rw [hR]; rfl
  have hRc : R.cells = 0 := by rw [hR]; rfl
  have hRs : R.slots = 0 := by rw [hR]; rfl
  clear hR hts0 Bd
  have hl : lv_has ls 4 [(0, .ref ((ad 7))), (1, .long (lI 1000000000000000000))] := hl
  have hfr : ∀ k, Awy ad k → f k = f k := fun _ _ => rfl
  have hLs : (Zf (ad 240)).sign = 1 ∨ (Zf (ad 240)).sign = -1 := by rcases Int.lt_trichotomy (Zf (ad 240)) 0 with k | k | k; exact Or.inr (Int.sign_eq_neg_one_of_neg k); exact absurd k hL; exact Or.inl (Int.sign_eq_one_of_pos k)
  refine lv_aload_n hx hb d_Ratio_reduce_0 rfl (lv_at hl 0 rfl) ?_
  refine x_get (C := RX4) (T := TX4) (N := 7) hx hb hts inX4 hown (B.foc1 (hC.ra)) (hAd.f1 (by omega)) 0 rfl rfl 0 (by decide) (hts _ w_122) (fun _ h9 => h9) rfl d_Ratio_reduce_1 ?_
  refine lv_dup hx hb d_Ratio_reduce_4 rfl ?_
  obtain ⟨sdq5, nnq5, lmq5, c1q5, c2q5, c3q5⟩ := hC.2.2.1 (ad 239) (Bg.pl (by decide))
  refine x_get (C := RX0) (T := TX0) (N := 3) hx hb hts inX0 hown (B.foc1 c1q5) (hAd.f1 (by omega)) 0 rfl rfl 0 (by decide) (hts _ w_39) (fun _ h9 => h9) rfl d_Ratio_reduce_5 ?_
  rw [show sdq5 = (Zf (ad 239)).sign from c3q5.2.2.2.2.1]
  refine lv_aload_n hx hb d_Ratio_reduce_8 rfl (lv_at hl 0 rfl) ?_
  refine x_get (C := RX4) (T := TX4) (N := 7) hx hb hts inX4 hown (B.foc1 (hC.ra)) (hAd.f1 (by omega)) 0 rfl rfl 1 (by decide) (hts _ w_124) (fun _ h9 => h9) rfl d_Ratio_reduce_9 ?_
  obtain ⟨sdq12, nnq12, lmq12, c1q12, c2q12, c3q12⟩ := hC.2.2.1 (ad 240) (Bg.pl (by decide))
  refine x_get (C := RX0) (T := TX0) (N := 3) hx hb hts inX0 hown (B.foc1 c1q12) (hAd.f1 (by omega)) 0 rfl rfl 0 (by decide) (hts _ w_39) (fun _ h9 => h9) rfl d_Ratio_reduce_12 ?_
  rw [show sdq12 = (Zf (ad 240)).sign from c3q12.2.2.2.2.1]
  refine x_imul hx hb d_Ratio_reduce_15 ?_
  obtain ⟨sd_16, nn_16, lm_16, c1_16, c2_16, c3_16⟩ := hC.2.2.1 (ad 239) (Bg.pl (by decide))
  refine x_put (C := RX0) (T := TX0) (N := 3) hx hb hts inX0 tyX0 tyX0_ok nmX0 hown (B.foc1 c1_16) (hAd.f1 (by omega)) 0 rfl rfl 0 (by decide) (hts _ w_39) (fun _ h9 => h9) rfl (tyX0_ok 0 (by decide)) rfl rfl (Nat.le_of_ble_eq_true rfl) d_Ratio_reduce_16 (fun H locs B => ?_)
  have B : Wb D vwCl (TY cs) L (mw f [((ad 239), .inr (0, [.int (iI (((Zf (ad 239)).sign) * ((Zf (ad 240)).sign))), .int (iI ((nn_16 : Int))), .ref (Qm (ad 239))]))]) (AL L s.heap.size) s H _ := B
  obtain ⟨f_16, hf_16⟩ : ∃ f_16, f_16 = mw f [((ad 239), .inr (0, [.int (iI (((Zf (ad 239)).sign) * ((Zf (ad 240)).sign))), .int (iI ((nn_16 : Int))), .ref (Qm (ad 239))]))] := ⟨_, rfl⟩
  rw [← hf_16] at B
  obtain ⟨hC_16, hq_16⟩ := CSt.side1 hAd hC (Bg.pl (by decide)) c2_16 (by have h9 := c3_16.sgm hLs; rw [c3_16.2.2.2.2.1] at h9; exact h9) hf_16
  obtain ⟨Z_16, hZ_16⟩ : ∃ Z_16, Z_16 = up Zf (ad 239) (Zf (ad 239) * (Zf (ad 240)).sign) := ⟨_, rfl⟩
  rw [← hZ_16] at hC_16
  have hfr_16 : ∀ k, Awy ad k → f_16 k = f k := fun k hk => (hq_16 k hk).trans (hfr k hk)
  refine lv_aload_n hx hb d_Ratio_reduce_19 rfl (lv_at hl 0 rfl) ?_
  refine x_get (C := RX4) (T := TX4) (N := 7) hx hb hts inX4 hown (B.foc1 (hC_16.ra)) (hAd.f1 (by omega)) 0 rfl rfl 1 (by decide) (hts _ w_124) (fun _ h9 => h9) rfl d_Ratio_reduce_20 ?_
  refine x_iconst hx hb d_Ratio_reduce_23 ?_
  obtain ⟨sd_24, nn_24, lm_24, c1_24, c2_24, c3_24⟩ := hC_16.2.2.1 (ad 240) (Bg.pl (by decide))
  refine x_put (C := RX0) (T := TX0) (N := 3) hx hb hts inX0 tyX0 tyX0_ok nmX0 hown (B.foc1 c1_24) (hAd.f1 (by omega)) 0 rfl rfl 0 (by decide) (hts _ w_39) (fun _ h9 => h9) rfl (tyX0_ok 0 (by decide)) rfl rfl (Nat.le_of_ble_eq_true rfl) d_Ratio_reduce_24 (fun H locs B => ?_)
  have B : Wb D vwCl (TY cs) L (mw f_16 [((ad 240), .inr (0, [.int (iI (1)), .int (iI ((nn_24 : Int))), .ref (Qm (ad 240))]))]) (AL L s.heap.size) s H _ := B
  obtain ⟨f_24, hf_24⟩ : ∃ f_24, f_24 = mw f_16 [((ad 240), .inr (0, [.int (iI (1)), .int (iI ((nn_24 : Int))), .ref (Qm (ad 240))]))] := ⟨_, rfl⟩
  rw [← hf_24] at B
  obtain ⟨hC_24, hq_24⟩ := CSt.side1 hAd hC_16 (Bg.pl (by decide)) c2_24 (c3_24.abs1 (by rw [hZ_16, up_ne _ _ (hAd.ne (by decide) (by decide) (by decide))]; exact hL)) hf_24
  obtain ⟨Z_24, hZ_24⟩ : ∃ Z_24, Z_24 = up Z_16 (ad 240) (((Z_16 (ad 240)).natAbs : Int)) := ⟨_, rfl⟩
  rw [← hZ_24] at hC_24
  have hfr_24 : ∀ k, Awy ad k → f_24 k = f k := fun k hk => (hq_24 k hk).trans (hfr_16 k hk)
  refine lv_aload_n hx hb d_Ratio_reduce_27 rfl (lv_at hl 0 rfl) ?_
  refine x_get (C := RX4) (T := TX4) (N := 7) hx hb hts inX4 hown (B.foc1 (hC_24.ra)) (hAd.f1 (by omega)) 0 rfl rfl 0 (by decide) (hts _ w_122) (fun _ h9 => h9) rfl d_Ratio_reduce_28 ?_
  obtain ⟨sdq31, nnq31, lmq31, c1q31, c2q31, c3q31⟩ := hC_24.2.2.1 (ad 239) (Bg.pl (by decide))
  refine x_get (C := RX0) (T := TX0) (N := 3) hx hb hts inX0 hown (B.foc1 c1q31) (hAd.f1 (by omega)) 0 rfl rfl 0 (by decide) (hts _ w_39) (fun _ h9 => h9) rfl d_Ratio_reduce_31 ?_
  rw [show sdq31 = (Z_24 (ad 239)).sign from c3q31.2.2.2.2.1]
  have hzu : Z_24 (ad 239) = Zf (ad 239) * (Zf (ad 240)).sign := by rw [hZ_24, up_ne _ _ (hAd.ne (by decide) (by decide) (by decide)), hZ_16, up_self]
  have hzl : Z_24 (ad 240) = ((Zf (ad 240)).natAbs : Int) := by rw [hZ_24, up_self, hZ_16, up_ne _ _ (hAd.ne (by decide) (by decide) (by decide))]
  obtain ⟨u, l0, sg0, hHid, hzu0, hl00, hsgc⟩ := red_start (Zf (ad 239)) (Zf (ad 240)) hL
  have hzu2 : Z_24 (ad 239) = sg0 * (u : Int) := hzu.trans hzu0
  have hzl2 : Z_24 (ad 240) = (l0 : Int) := hzl.trans (by rw [show l0 = (Zf (ad 240)).natAbs from hHid.2.1])
  clear hzl hzu hzu0
  obtain ⟨su, hsu⟩ : ∃ su : Int, su = (Z_24 (ad 239)).sign := ⟨_, rfl⟩
  have hsur : -1 ≤ su ∧ su ≤ 1 := by rw [hsu]; exact sign_rng _
  have hsuc : (su = 0 ∧ Zf (ad 239) = 0) ∨ (su ≠ 0 ∧ Zf (ad 239) ≠ 0) := by rw [hsu]; exact sgn_su hzu2 hsgc
  rw [← hsu]
  clear hsu
  refine x_if_ne (tgt := 49) hx hb d_Ratio_reduce_34 (by decide) (by omega) (fun h34 => ?_) (fun h34 => ?_)
  · have hU : Zf (ad 239) ≠ 0 := by omega
    have hsg1 : sg0 = 1 ∨ sg0 = -1 := by rcases hsgc with ⟨k, _⟩ | ⟨_, _, k⟩; exact absurd k hU; exact k
    have hu0 : u ≠ 0 := by omega
    clear hsgc hsuc
    refine lv_aload_n hx hb d_Ratio_reduce_49 rfl (lv_at hl 0 rfl) ?_
    refine x_get (C := RX4) (T := TX4) (N := 7) hx hb hts inX4 hown (B.foc1 (hC_24.ra)) (hAd.f1 (by omega)) 0 rfl rfl 0 (by decide) (hts _ w_122) (fun _ h9 => h9) rfl d_Ratio_reduce_50 ?_
    obtain ⟨sdb530, nnb530, lmb530, c1b530, c2b530, c3b530⟩ := hC_24.2.2.1 (ad 239) (Bg.pl (by decide))
    refine x_calli B hA (va_runV (As := []) (rest := []) ⟨hx, hb, hml, hown, hts⟩ (c_Big_twos l D cs _ _ _ (ad 239) (Qm (ad 239)) sdb530 nnb530 lmb530 (Z_24 (ad 239)) (hAd.sp.fc1 (Bg.pl (by decide))) c1b530 c2b530 c3b530) (cwV 0 hts (gw_V w_654 w_326 w_327 w_3 w_328) rfl rfl rfl (by decide +kernel) ⟨by rw [hRf]; exact Nat.le_of_ble_eq_true rfl, by rw [hRl]; exact Nat.le_of_ble_eq_true rfl⟩) ⟨K0.blind, B.recv (hAd.1 _ (by omega)) (c1b530) rfl, B.pre _⟩ rfl rfl hl.1 rfl (lv_room (Nat.le_of_ble_eq_true rfl)) d_Ratio_reduce_53 ⟨by rw [hRc]; omega, by rw [hRs]; omega⟩) (fun r53 g53 H locs hw B => ?_)
    obtain ⟨t1, rfl, ht1m, ht10, ht1o, hgf⟩ := hw
    rw [hgf] at B
    refine lv_aload_n hx hb d_Ratio_reduce_56 rfl (lv_at hl 0 rfl) ?_
    refine x_get (C := RX4) (T := TX4) (N := 7) hx hb hts inX4 hown (B.foc1 (hC_24.ra)) (hAd.f1 (by omega)) 0 rfl rfl 1 (by decide) (hts _ w_124) (fun _ h9 => h9) rfl d_Ratio_reduce_57 ?_
    obtain ⟨sdb600, nnb600, lmb600, c1b600, c2b600, c3b600⟩ := hC_24.2.2.1 (ad 240) (Bg.pl (by decide))
    refine x_calli B hA (va_runV (As := []) (rest := [.int (iI ((t1 : Int)))]) ⟨hx, hb, hml, hown, hts⟩ (c_Big_twos l D cs _ _ _ (ad 240) (Qm (ad 240)) sdb600 nnb600 lmb600 (Z_24 (ad 240)) (hAd.sp.fc1 (Bg.pl (by decide))) c1b600 c2b600 c3b600) (cwV 0 hts (gw_V w_654 w_326 w_327 w_3 w_328) rfl rfl rfl (by decide +kernel) ⟨by rw [hRf]; exact Nat.le_of_ble_eq_true rfl, by rw [hRl]; exact Nat.le_of_ble_eq_true rfl⟩) ⟨K0.blind, B.recv (hAd.1 _ (by omega)) (c1b600) rfl, B.pre _⟩ rfl rfl hl.1 rfl (lv_room (Nat.le_of_ble_eq_true rfl)) d_Ratio_reduce_60 ⟨by rw [hRc]; omega, by rw [hRs]; omega⟩) (fun r60 g60 H locs hw B => ?_)
    obtain ⟨t2, rfl, ht2m, ht20, ht2o, hgf⟩ := hw
    rw [hgf] at B
    refine x_calli B hA (va_runS (As := [.int (iI ((t1 : Int))), .int (iI ((t2 : Int)))]) (rest := []) ⟨hx, hb, hml, hown, hts⟩ (c_Math_min l D cs _ _ _ ((t1 : Int)) ((t2 : Int)) (by omega) (by omega)) (va_cwS 2 hts (gw_S w_655 w_386 w_9 w_387) rfl rfl rfl (by decide +kernel) ⟨by rw [hRf]; exact Nat.le_of_ble_eq_true rfl, by rw [hRl]; exact Nat.le_of_ble_eq_true rfl⟩) ⟨K0.blind, B.pre _⟩ rfl rfl hl.1 rfl (lv_room (Nat.le_of_ble_eq_true rfl)) d_Ratio_reduce_63 ⟨by rw [hRc]; omega, by rw [hRs]; omega⟩) (fun r63 g63 H locs hw B => ?_)
    obtain ⟨rfl, hgf⟩ := hw
    rw [hgf] at B
    rw [show min (t1 : Int) (t2 : Int) = ((min t1 t2 : Nat) : Int) by omega]
    obtain ⟨tm, htm⟩ : ∃ tm : Nat, tm = min t1 t2 := ⟨_, rfl⟩
    rw [← htm]
    obtain ⟨o1, ho1, ho1o⟩ := ht1o (sg_ne0 hsg1 hu0 hzu2)
    obtain ⟨o2, ho2, ho2o⟩ := ht2o (by rw [hzl2]; exact nat_ne0 hl00)
    rw [hzu2] at ho1
    rw [hzl2] at ho2
    have ho1e := sg_ox hsg1 ho1 ho1o
    obtain ⟨ox, hox, hoxo⟩ := ho1e
    obtain ⟨u1, hu1, hu1o⟩ := part_twos (m := tm) hox hoxo (by omega)
    obtain ⟨l1, hl1, hl1o⟩ := part_twos (m := tm) ho2 ho2o (by omega)
    have hod : u1 % 2 = 1 ∨ l1 % 2 = 1 := by rcases (show tm = t1 ∨ tm = t2 by omega) with c | c; exact Or.inl (hu1o c); exact Or.inr (hl1o c)
    clear ht1o ht2o ht10 ht20 hu1o hl1o ho1 ho2 hox
    refine lv_istore_n (lv' := [(3, .int (iI ((tm : Int)))), (0, .ref ((ad 7))), (1, .long (lI 1000000000000000000))]) hx hb d_Ratio_reduce_66 rfl hl (by decide) rfl (fun ls hl => ?_)
    refine lv_aload_n hx hb d_Ratio_reduce_67 rfl (lv_at hl 1 rfl) ?_
    refine x_get (C := RX4) (T := TX4) (N := 7) hx hb hts inX4 hown (B.foc1 (hC_24.ra)) (hAd.f1 (by omega)) 0 rfl rfl 0 (by decide) (hts _ w_122) (fun _ h9 => h9) rfl d_Ratio_reduce_68 ?_
    refine lv_iload_n hx hb d_Ratio_reduce_71 rfl (lv_at hl 0 rfl) ?_
    obtain ⟨sdb720, nnb720, lmb720, c1b720, c2b720, c3b720⟩ := hC_24.2.2.1 (ad 239) (Bg.pl (by decide))
    refine x_callv B hA (va_runV (As := [.int (iI ((tm : Int)))]) (rest := []) ⟨hx, hb, hml, hown, hts⟩ (c_Big_shiftDown l D cs _ _ _ (ad 239) (Qm (ad 239)) sdb720 nnb720 lmb720 (Z_24 (ad 239)) tm (hAd.sp.fc1 (Bg.pl (by decide))) c1b720 c2b720 c3b720 (by omega)) (cwV 1 hts (gw_V w_656 w_330 w_331 w_3 w_332) rfl rfl rfl (by decide +kernel) ⟨by rw [hRf]; exact Nat.le_of_ble_eq_true rfl, by rw [hRl]; exact Nat.le_of_ble_eq_true rfl⟩) ⟨K0.blind, B.recv (hAd.1 _ (by omega)) (c1b720) rfl, B.pre _⟩ rfl rfl hl.1 rfl (lv_room (Nat.le_of_ble_eq_true rfl)) d_Ratio_reduce_72 ⟨by rw [hRc]; omega, by rw [hRs]; omega⟩) (fun g72 H locs hw B => ?_)
    obtain ⟨s1_72, n1_72, l1_72, hz_72, hg_72⟩ := hw
    obtain ⟨hC_72, hq_72⟩ := CSt.big1 hAd hC_24 (Bg.pl (by decide)) hz_72 hg_72
    obtain ⟨Z_72, hZ_72⟩ : ∃ Z_72, Z_72 = up Z_24 (ad 239) ((Z_24 (ad 239)).tdiv (2 ^ tm)) := ⟨_, rfl⟩
    rw [← hZ_72] at hC_72
    have hfr_72 : ∀ k, Awy ad k → g72 k = f k := fun k hk => (hq_72 k hk).trans (hfr_24 k hk)
    have B : Wb D vwCl (TY cs) L g72 (AL L s.heap.size) s H _ := B
    refine lv_aload_n hx hb d_Ratio_reduce_75 rfl (lv_at hl 1 rfl) ?_
    refine x_get (C := RX4) (T := TX4) (N := 7) hx hb hts inX4 hown (B.foc1 (hC_72.ra)) (hAd.f1 (by omega)) 0 rfl rfl 1 (by decide) (hts _ w_124) (fun _ h9 => h9) rfl d_Ratio_reduce_76 ?_
    refine lv_iload_n hx hb d_Ratio_reduce_79 rfl (lv_at hl 0 rfl) ?_
    obtain ⟨sdb800, nnb800, lmb800, c1b800, c2b800, c3b800⟩ := hC_72.2.2.1 (ad 240) (Bg.pl (by decide))
    refine x_callv B hA (va_runV (As := [.int (iI ((tm : Int)))]) (rest := []) ⟨hx, hb, hml, hown, hts⟩ (c_Big_shiftDown l D cs _ _ _ (ad 240) (Qm (ad 240)) sdb800 nnb800 lmb800 (Z_72 (ad 240)) tm (hAd.sp.fc1 (Bg.pl (by decide))) c1b800 c2b800 c3b800 (by omega)) (cwV 1 hts (gw_V w_656 w_330 w_331 w_3 w_332) rfl rfl rfl (by decide +kernel) ⟨by rw [hRf]; exact Nat.le_of_ble_eq_true rfl, by rw [hRl]; exact Nat.le_of_ble_eq_true rfl⟩) ⟨K0.blind, B.recv (hAd.1 _ (by omega)) (c1b800) rfl, B.pre _⟩ rfl rfl hl.1 rfl (lv_room (Nat.le_of_ble_eq_true rfl)) d_Ratio_reduce_80 ⟨by rw [hRc]; omega, by rw [hRs]; omega⟩) (fun g80 H locs hw B => ?_)
    obtain ⟨s1_80, n1_80, l1_80, hz_80, hg_80⟩ := hw
    obtain ⟨hC_80, hq_80⟩ := CSt.big1 hAd hC_72 (Bg.pl (by decide)) hz_80 hg_80
    obtain ⟨Z_80, hZ_80⟩ : ∃ Z_80, Z_80 = up Z_72 (ad 240) ((Z_72 (ad 240)).tdiv (2 ^ tm)) := ⟨_, rfl⟩
    rw [← hZ_80] at hC_80
    have hfr_80 : ∀ k, Awy ad k → g80 k = f k := fun k hk => (hq_80 k hk).trans (hfr_72 k hk)
    have B : Wb D vwCl (TY cs) L g80 (AL L s.heap.size) s H _ := B
    refine lv_aload_n hx hb d_Ratio_reduce_83 rfl (lv_at hl 1 rfl) ?_
    have hzu8 : Z_80 (ad 239) = sg0 * (u1 : Int) := by rw [hZ_80, up_ne _ _ (hAd.ne (by decide) (by decide) (by decide)), hZ_72, up_self, hzu2, hu1]; exact tdiv_pow hsg1
    have hzl8 : Z_80 (ad 240) = (l1 : Int) := by
      rw [hZ_80, up_self, hZ_72, up_ne _ _ (hAd.ne (by decide) (by decide) (by decide)), hzl2, hl1]
      have h9 := tdiv_pow (s := 1) (m := tm) (u1 := l1) (Or.inl rfl)
      rw [Int.one_mul, Int.one_mul] at h9; exact h9
    have hu1p : 0 < u1 := Nat.pos_of_ne_zero (fun h => hu0 (by rw [hu1, h, Nat.mul_zero]))
    have hl1p : 0 < l1 := Nat.pos_of_ne_zero (fun h => hl00 (by rw [hl1, h, Nat.mul_zero]))
    have hu1l : u1 ≤ u := by rw [hu1]; have := Nat.mul_le_mul_right u1 (Nat.one_le_two_pow (n := tm)); omega
    have hl1l : l1 ≤ l0 := by rw [hl1]; have := Nat.mul_le_mul_right l1 (Nat.one_le_two_pow (n := tm)); omega
    have hun := sg_ne0 hsg1 (show u1 ≠ 0 by omega) hzu8
    have hub : (u1 : Int) < 2 ^ 240 := Int.lt_of_le_of_lt (show (u1 : Int) ≤ (u : Int) by omega) (by rw [show u = (Zf (ad 239)).natAbs from hHid.1]; exact hU2)
    have hlb : (l1 : Int) < 2 ^ 240 := Int.lt_of_le_of_lt (show (l1 : Int) ≤ (l0 : Int) by omega) (by rw [show l0 = (Zf (ad 240)).natAbs from hHid.2.1]; exact hL2)
    refine x_callv B hA (va_runV (As := []) (rest := []) ⟨hx, hb, hml, hown, hts⟩ (c_Ra_findDivisor l D cs _ _ _ ad Qm If Af Rf Z_80 hAd hC_80 hun (by rw [hzl8]; omega) (by rw [sg_abs hsg1 hzu8]; exact hub) (by rw [hzl8]; exact hlb)) (cwV 0 hts (gw_V w_657 w_659 s_27 w_5 w_660) rfl rfl rfl (by decide +kernel) ⟨by rw [hRf]; exact Nat.le_of_ble_eq_true rfl, by rw [hRl]; exact Nat.le_of_ble_eq_true rfl⟩) ⟨K0.blind, B.recv (hAd.1 _ (by omega)) (hC_80.ra) rfl, B.pre _⟩ rfl rfl hl.1 rfl (lv_room (Nat.le_of_ble_eq_true rfl)) d_Ratio_reduce_84 ⟨by rw [hRc]; omega, by rw [hRs]; omega⟩) (fun g84 H locs hw B => ?_)
    obtain ⟨Id, Ad, Rd, Zd, hCd, hqd, hId, hAd9, ⟨x1, w1, x2, w2, hx1, hw1o, hx2, hw2o, hGd⟩, hZd⟩ := hw
    have hfrd : ∀ k, Awy ad k → g84 k = f k := fun k hk => (hqd k hk).trans (hfr_80 k hk)
    have B : Wb D vwCl (TY cs) L g84 (AL L s.heap.size) s H _ := B
    rw [sg_abs hsg1 hzu8] at hx1
    rw [hzl8] at hx2
    have hx2 : l1 = 2 ^ x2 * w2 := Int.ofNat.inj hx2
    obtain ⟨hGo, hGu, hGl, hq1, hq2, hq1p, hq2p⟩ := red_all hu0 hl00 hu1 hl1 hod hx1 hx2 hw1o hw2o
    obtain ⟨G, hGe⟩ : ∃ G : Nat, G = Nat.gcd w1 w2 := ⟨_, rfl⟩
    rw [← hGe] at hGd hGo hGu hGl hq1 hq2
    have hzud : Zd (ad 239) = sg0 * (u1 : Int) := by rw [hZd _ (hAd.ne (by decide) (by decide) (by decide)) (hAd.ne (by decide) (by decide) (by decide))]; exact hzu8
    have hzld : Zd (ad 240) = (l1 : Int) := by rw [hZd _ (hAd.ne (by decide) (by decide) (by decide)) (hAd.ne (by decide) (by decide) (by decide))]; exact hzl8
    have hGle : G ≤ u1 := Nat.le_of_dvd hu1p hGu
    have hGb : (G : Int) < 2 ^ 240 := Int.lt_of_le_of_lt (show (G : Int) ≤ (u1 : Int) by omega) hub
    obtain ⟨hdu, hdu2⟩ := div_sgn hsg1 (show 0 < G by omega) hGu
    obtain ⟨hdl, hdl2⟩ := div_sgn (s := 1) (Or.inl rfl) (show 0 < G by omega) hGl
    rw [Int.one_mul, Int.one_mul] at hdl
    rw [Int.one_mul] at hdl2
    rw [hq1] at hdu
    rw [hq2] at hdl
    obtain ⟨qn, hqn⟩ : ∃ qn : Nat, qn = u / Nat.gcd u l0 := ⟨_, rfl⟩
    obtain ⟨qd, hqd⟩ : ∃ qd : Nat, qd = l0 / Nat.gcd u l0 := ⟨_, rfl⟩
    rw [← hqn] at hdu hq1p
    rw [← hqd] at hdl hq2p
    refine lv_aload_n hx hb d_Ratio_reduce_87 rfl (lv_at hl 1 rfl) ?_
    refine lv_aload_n hx hb d_Ratio_reduce_88 rfl (lv_at hl 1 rfl) ?_
    refine lv_aload_n hx hb d_Ratio_reduce_89 rfl (lv_at hl 1 rfl) ?_
    refine x_get (C := RX4) (T := TX4) (N := 7) hx hb hts inX4 hown (B.foc1 (hCd.ra)) (hAd.f1 (by omega)) 0 rfl rfl 0 (by decide) (hts _ w_122) (fun _ h9 => h9) rfl d_Ratio_reduce_90 ?_
    refine x_calll B hA (va_runV (As := [.ref ((ad 239))]) (rest := [.ref ((ad 7))]) ⟨hx, hb, hml, hown, hts⟩ (c_Ra_quotient l D cs _ _ _ ad Qm Id Ad Rd Zd 239 G hAd hCd (by decide) (hGd) hGo (by rw [hzud]; exact hdu2) hGb (by rw [hzud]; exact (by rw [sg_abs hsg1 rfl]; exact hub))) (cwV 1 hts (gw_V w_663 w_665 s_28 w_5 w_666) rfl rfl rfl (by decide +kernel) ⟨by rw [hRf]; exact Nat.le_of_ble_eq_true rfl, by rw [hRl]; exact Nat.le_of_ble_eq_true rfl⟩) ⟨K0.blind, B.recv (hAd.1 _ (by omega)) (hCd.ra) rfl, B.pre _⟩ rfl rfl hl.1 rfl (lv_room (Nat.le_of_ble_eq_true rfl)) d_Ratio_reduce_93 ⟨by rw [hRc]; omega, by rw [hRs]; omega⟩) (fun r93 g93 H locs hw B => ?_)
    obtain ⟨Ie, Ae, Re, Ze, hCe, hqe, hIe, hAe, rfl, hZe⟩ := hw
    have hfre : ∀ k, Awy ad k → g93 k = f k := fun k hk => (hqe k hk).trans (hfrd k hk)
    have B : Wb D vwCl (TY cs) L g93 (AL L s.heap.size) s H _ := B
    have hzle : Ze (ad 240) = (l1 : Int) := by rw [hZe _ (hAd.ne (by decide) (by decide) (by decide)) (hAd.ne (by decide) (by decide) (by decide))]; exact hzld
    have hGe2 : Ze (ad 242) = (G : Int) := by rw [hZe _ (hAd.ne (by decide) (by decide) (by decide)) (hAd.ne (by decide) (by decide) (by decide))]; exact hGd
    rw [hzud, hdu]
    obtain ⟨nn, hnn⟩ : ∃ nn : Int, nn = if ((sg0 * (qn : Int)).natAbs : Int) < 4611686018427387904 then sg0 * (qn : Int) else 0 := ⟨_, rfl⟩
    rw [← hnn]
    have hnc := nn_c hsg1 hnn
    clear hnn
    refine x_put (C := RX4) (T := TX4) (N := 7) hx hb hts inX4 tyX4 tyX4_ok nmX4 hown (B.foc1 (hCe.ra)) (hAd.f1 (by omega)) 0 rfl rfl 2 (by decide) (hts _ w_126) (fun _ h9 => h9) rfl (tyX4_ok 2 (by decide)) rfl rfl (Nat.le_of_ble_eq_true rfl) d_Ratio_reduce_96 (fun H locs B => ?_)
    have B : Wb D vwCl (TY cs) L (mw g93 [((ad 7), .inr (4, [.ref (ad 239), .ref (ad 240), .long (lI (nn)), .long (lI (Ie 8)), .ref (ad 241), .ref (ad 242), .ref (ad 243)]))]) (AL L s.heap.size) s H _ := B
    obtain ⟨f_96, hf_96⟩ : ∃ f_96, f_96 = mw g93 [((ad 7), .inr (4, [.ref (ad 239), .ref (ad 240), .long (lI (nn)), .long (lI (Ie 8)), .ref (ad 241), .ref (ad 242), .ref (ad 243)]))] := ⟨_, rfl⟩
    rw [← hf_96] at B
    obtain ⟨I_96, hI_96⟩ : ∃ I_96, I_96 = up Ie 7 (nn) := ⟨_, rfl⟩
    have hC_96 : CSt cs ad Qm f_96 I_96 Ae Re Ze := by rw [hf_96, hI_96]; exact CSt.w_n hAd hCe (nn)
    have hfr_96 : ∀ k, Awy ad k → f_96 k = f k := fun k hk => Eq.trans (by rw [hf_96]; exact hk.mw1 (by omega)) (hfre k hk)
    refine lv_aload_n hx hb d_Ratio_reduce_99 rfl (lv_at hl 1 rfl) ?_
    refine lv_aload_n hx hb d_Ratio_reduce_100 rfl (lv_at hl 1 rfl) ?_
    refine lv_aload_n hx hb d_Ratio_reduce_101 rfl (lv_at hl 1 rfl) ?_
    refine x_get (C := RX4) (T := TX4) (N := 7) hx hb hts inX4 hown (B.foc1 (hC_96.ra)) (hAd.f1 (by omega)) 0 rfl rfl 1 (by decide) (hts _ w_124) (fun _ h9 => h9) rfl d_Ratio_reduce_102 ?_
    refine x_calll B hA (va_runV (As := [.ref ((ad 240))]) (rest := [.ref ((ad 7))]) ⟨hx, hb, hml, hown, hts⟩ (c_Ra_quotient l D cs _ _ _ ad Qm I_96 Ae Re Ze 240 G hAd hC_96 (by decide) (hGe2) hGo (by rw [hzle]; exact hdl2) hGb (by rw [hzle]; exact (by rw [Int.natAbs_natCast]; exact hlb))) (cwV 1 hts (gw_V w_663 w_665 s_28 w_5 w_666) rfl rfl rfl (by decide +kernel) ⟨by rw [hRf]; exact Nat.le_of_ble_eq_true rfl, by rw [hRl]; exact Nat.le_of_ble_eq_true rfl⟩) ⟨K0.blind, B.recv (hAd.1 _ (by omega)) (hC_96.ra) rfl, B.pre _⟩ rfl rfl hl.1 rfl (lv_room (Nat.le_of_ble_eq_true rfl)) d_Ratio_reduce_105 ⟨by rw [hRc]; omega, by rw [hRs]; omega⟩) (fun r105 g105 H locs hw B => ?_)
    obtain ⟨Ig, Ag, Rg, Zg, hCg, hqg, hIg, hAg, rfl, hZg⟩ := hw
    have hfrg : ∀ k, Awy ad k → g105 k = f k := fun k hk => (hqg k hk).trans (hfr_96 k hk)
    have B : Wb D vwCl (TY cs) L g105 (AL L s.heap.size) s H _ := B
    rw [show Ze (ad 240) = (l1 : Int) from hzle, hdl]
    obtain ⟨nd, hnd⟩ : ∃ nd : Int, nd = if (((qd : Nat) : Int).natAbs : Int) < 4611686018427387904 then (qd : Int) else 0 := ⟨_, rfl⟩
    rw [← hnd]
    have hdc := nd_c hnd
    clear hnd
    refine x_put (C := RX4) (T := TX4) (N := 7) hx hb hts inX4 tyX4 tyX4_ok nmX4 hown (B.foc1 (hCg.ra)) (hAd.f1 (by omega)) 0 rfl rfl 3 (by decide) (hts _ w_128) (fun _ h9 => h9) rfl (tyX4_ok 3 (by decide)) rfl rfl (Nat.le_of_ble_eq_true rfl) d_Ratio_reduce_108 (fun H locs B => ?_)
    have B : Wb D vwCl (TY cs) L (mw g105 [((ad 7), .inr (4, [.ref (ad 239), .ref (ad 240), .long (lI (Ig 7)), .long (lI (nd)), .ref (ad 241), .ref (ad 242), .ref (ad 243)]))]) (AL L s.heap.size) s H _ := B
    obtain ⟨f_108, hf_108⟩ : ∃ f_108, f_108 = mw g105 [((ad 7), .inr (4, [.ref (ad 239), .ref (ad 240), .long (lI (Ig 7)), .long (lI (nd)), .ref (ad 241), .ref (ad 242), .ref (ad 243)]))] := ⟨_, rfl⟩
    rw [← hf_108] at B
    obtain ⟨I_108, hI_108⟩ : ∃ I_108, I_108 = up Ig 8 (nd) := ⟨_, rfl⟩
    have hC_108 : CSt cs ad Qm f_108 I_108 Ag Rg Zg := by rw [hf_108, hI_108]; exact CSt.w_d hAd hCg (nd)
    have hfr_108 : ∀ k, Awy ad k → f_108 k = f k := fun k hk => Eq.trans (by rw [hf_108]; exact hk.mw1 (by omega)) (hfrg k hk)
    have hI7 : I_108 7 = nn := by rw [hI_108, up_ne _ _ (by decide), hIg, hI_96, up_self]
    have hI8 : I_108 8 = nd := by rw [hI_108, up_self]
    have hIo : ∀ i, i ≠ 7 → i ≠ 8 → I_108 i = If i := fun i h1 h2 => by rw [hI_108, up_ne _ _ h2, hIg, hI_96, up_ne _ _ h1, hIe, hId]
    have hAo : ∀ q, Ag q = Af q := fun q => by rw [hAg, hAe, hAd9]
    have hqnE : (qn : Int) = (u : Int) / ((Nat.gcd u l0 : Nat) : Int) := by rw [hqn]; rfl
    have hqdE : (qd : Int) = (l0 : Int) / ((Nat.gcd u l0 : Nat) : Int) := by rw [hqd]; rfl
    refine lv_aload_n hx hb d_Ratio_reduce_111 rfl (lv_at hl 1 rfl) ?_
    refine x_get (C := RX4) (T := TX4) (N := 7) hx hb hts inX4 hown (B.foc1 (hC_108.ra)) (hAd.f1 (by omega)) 0 rfl rfl 2 (by decide) (hts _ w_126) (fun _ h9 => h9) rfl d_Ratio_reduce_112 ?_
    rw [hI7]
    refine lv_lload_n hx hb d_Ratio_reduce_115 rfl (lv_at hl 2 rfl) ?_
    refine x_lneg hx hb d_Ratio_reduce_116 ?_
    refine x_lc_lt (tgt := 161) hx hb d_Ratio_reduce_117 rfl d_Ratio_reduce_118 (by decide) (by omega) (by omega) (fun h118 => ?_) (fun h118 => ?_)
    · refine x_iconst hx hb d_Ratio_reduce_161 ?_
      subst hQ hav
      exact x_zret hx hb hr (by decide) hlocks B d_Ratio_reduce_162 (⟨I_108, Ag, Rg, Zg, hC_108, hfr_108, hIo, hAo, Or.inr ⟨hU, (qn : Int), (qd : Int), by rw [hqnE, show u = (Zf (ad 239)).natAbs from hHid.1, show l0 = (Zf (ad 240)).natAbs from hHid.2.1], by rw [hqdE, show u = (Zf (ad 239)).natAbs from hHid.1, show l0 = (Zf (ad 240)).natAbs from hHid.2.1], Or.inr ⟨by omega, rfl⟩⟩⟩)
    · refine lv_aload_n hx hb d_Ratio_reduce_121 rfl (lv_at hl 1 rfl) ?_
      refine x_get (C := RX4) (T := TX4) (N := 7) hx hb hts inX4 hown (B.foc1 (hC_108.ra)) (hAd.f1 (by omega)) 0 rfl rfl 2 (by decide) (hts _ w_126) (fun _ h9 => h9) rfl d_Ratio_reduce_122 ?_
      rw [hI7]
      refine lv_lload_n hx hb d_Ratio_reduce_125 rfl (lv_at hl 2 rfl) ?_
      refine x_lc_gt (tgt := 161) hx hb d_Ratio_reduce_126 rfl d_Ratio_reduce_127 (by decide) (by omega) (by omega) (fun h127 => ?_) (fun h127 => ?_)
      · refine x_iconst hx hb d_Ratio_reduce_161 ?_
        subst hQ hav
        exact x_zret hx hb hr (by decide) hlocks B d_Ratio_reduce_162 (⟨I_108, Ag, Rg, Zg, hC_108, hfr_108, hIo, hAo, Or.inr ⟨hU, (qn : Int), (qd : Int), by rw [hqnE, show u = (Zf (ad 239)).natAbs from hHid.1, show l0 = (Zf (ad 240)).natAbs from hHid.2.1], by rw [hqdE, show u = (Zf (ad 239)).natAbs from hHid.1, show l0 = (Zf (ad 240)).natAbs from hHid.2.1], Or.inr ⟨by omega, rfl⟩⟩⟩)
      · refine lv_aload_n hx hb d_Ratio_reduce_130 rfl (lv_at hl 1 rfl) ?_
        refine x_get (C := RX4) (T := TX4) (N := 7) hx hb hts inX4 hown (B.foc1 (hC_108.ra)) (hAd.f1 (by omega)) 0 rfl rfl 3 (by decide) (hts _ w_128) (fun _ h9 => h9) rfl d_Ratio_reduce_131 ?_
        rw [hI8]
        refine x_lconst (z := 0) hx hb d_Ratio_reduce_134 (by decide) ?_
        refine x_lc_eq (tgt := 161) hx hb d_Ratio_reduce_135 rfl d_Ratio_reduce_136 (by decide) (by omega) (by omega) (fun h136 => ?_) (fun h136 => ?_)
        · refine x_iconst hx hb d_Ratio_reduce_161 ?_
          subst hQ hav
          exact x_zret hx hb hr (by decide) hlocks B d_Ratio_reduce_162 (⟨I_108, Ag, Rg, Zg, hC_108, hfr_108, hIo, hAo, Or.inr ⟨hU, (qn : Int), (qd : Int), by rw [hqnE, show u = (Zf (ad 239)).natAbs from hHid.1, show l0 = (Zf (ad 240)).natAbs from hHid.2.1], by rw [hqdE, show u = (Zf (ad 239)).natAbs from hHid.1, show l0 = (Zf (ad 240)).natAbs from hHid.2.1], Or.inr ⟨by omega, rfl⟩⟩⟩)
        · refine lv_aload_n hx hb d_Ratio_reduce_139 rfl (lv_at hl 1 rfl) ?_
          refine x_get (C := RX4) (T := TX4) (N := 7) hx hb hts inX4 hown (B.foc1 (hC_108.ra)) (hAd.f1 (by omega)) 0 rfl rfl 3 (by decide) (hts _ w_128) (fun _ h9 => h9) rfl d_Ratio_reduce_140 ?_
          rw [hI8]
          refine lv_lload_n hx hb d_Ratio_reduce_143 rfl (lv_at hl 2 rfl) ?_
          refine x_lc_gt (tgt := 161) hx hb d_Ratio_reduce_144 rfl d_Ratio_reduce_145 (by decide) (by omega) (by omega) (fun h145 => ?_) (fun h145 => ?_)
          · refine x_iconst hx hb d_Ratio_reduce_161 ?_
            subst hQ hav
            exact x_zret hx hb hr (by decide) hlocks B d_Ratio_reduce_162 (⟨I_108, Ag, Rg, Zg, hC_108, hfr_108, hIo, hAo, Or.inr ⟨hU, (qn : Int), (qd : Int), by rw [hqnE, show u = (Zf (ad 239)).natAbs from hHid.1, show l0 = (Zf (ad 240)).natAbs from hHid.2.1], by rw [hqdE, show u = (Zf (ad 239)).natAbs from hHid.1, show l0 = (Zf (ad 240)).natAbs from hHid.2.1], Or.inr ⟨by omega, rfl⟩⟩⟩)
          · refine lv_aload_n hx hb d_Ratio_reduce_148 rfl (lv_at hl 1 rfl) ?_
            refine x_get (C := RX4) (T := TX4) (N := 7) hx hb hts inX4 hown (B.foc1 (hC_108.ra)) (hAd.f1 (by omega)) 0 rfl rfl 2 (by decide) (hts _ w_126) (fun _ h9 => h9) rfl d_Ratio_reduce_149 ?_
            rw [hI7]
            refine x_lconst (z := 0) hx hb d_Ratio_reduce_152 (by decide) ?_
            refine x_lc_eq (tgt := 161) hx hb d_Ratio_reduce_153 rfl d_Ratio_reduce_154 (by decide) (by omega) (by omega) (fun h154 => ?_) (fun h154 => ?_)
            · refine x_iconst hx hb d_Ratio_reduce_161 ?_
              subst hQ hav
              exact x_zret hx hb hr (by decide) hlocks B d_Ratio_reduce_162 (⟨I_108, Ag, Rg, Zg, hC_108, hfr_108, hIo, hAo, Or.inr ⟨hU, (qn : Int), (qd : Int), by rw [hqnE, show u = (Zf (ad 239)).natAbs from hHid.1, show l0 = (Zf (ad 240)).natAbs from hHid.2.1], by rw [hqdE, show u = (Zf (ad 239)).natAbs from hHid.1, show l0 = (Zf (ad 240)).natAbs from hHid.2.1], Or.inr ⟨by omega, rfl⟩⟩⟩)
            · refine x_iconst hx hb d_Ratio_reduce_157 ?_
              refine lv_goto (tgt := 162) hx hb d_Ratio_reduce_158 (by decide) ?_
              subst hQ hav
              exact x_zret hx hb hr (by decide) hlocks B d_Ratio_reduce_162 (⟨I_108, Ag, Rg, Zg, hC_108, hfr_108, hIo, hAo, Or.inr ⟨hU, (qn : Int), (qd : Int), by rw [hqnE, show u = (Zf (ad 239)).natAbs from hHid.1, show l0 = (Zf (ad 240)).natAbs from hHid.2.1], by rw [hqdE, show u = (Zf (ad 239)).natAbs from hHid.1, show l0 = (Zf (ad 240)).natAbs from hHid.2.1], Or.inl ⟨by omega, by omega, rfl, by rw [hI7, ← show sg0 = (Zf (ad 240)).sign * (Zf (ad 239)).sign from hHid.2.2]; rcases hnc with ⟨_, ⟨h, c⟩ | ⟨h, c⟩⟩ | ⟨_, h⟩; rw [h, c, Int.one_mul]; rw [h, c]; omega; omega, by rw [hI8]; omega⟩⟩⟩)
  · refine lv_aload_n hx hb d_Ratio_reduce_37 rfl (lv_at hl 0 rfl) ?_
    refine x_lconst (z := 0) hx hb d_Ratio_reduce_38 (by decide) ?_
    refine x_put (C := RX4) (T := TX4) (N := 7) hx hb hts inX4 tyX4 tyX4_ok nmX4 hown (B.foc1 (hC_24.ra)) (hAd.f1 (by omega)) 0 rfl rfl 2 (by decide) (hts _ w_126) (fun _ h9 => h9) rfl (tyX4_ok 2 (by decide)) rfl rfl (Nat.le_of_ble_eq_true rfl) d_Ratio_reduce_39 (fun H locs B => ?_)
    have B : Wb D vwCl (TY cs) L (mw f_24 [((ad 7), .inr (4, [.ref (ad 239), .ref (ad 240), .long (lI (0)), .long (lI (If 8)), .ref (ad 241), .ref (ad 242), .ref (ad 243)]))]) (AL L s.heap.size) s H _ := B
    obtain ⟨f_39, hf_39⟩ : ∃ f_39, f_39 = mw f_24 [((ad 7), .inr (4, [.ref (ad 239), .ref (ad 240), .long (lI (0)), .long (lI (If 8)), .ref (ad 241), .ref (ad 242), .ref (ad 243)]))] := ⟨_, rfl⟩
    rw [← hf_39] at B
    obtain ⟨I_39, hI_39⟩ : ∃ I_39, I_39 = up If 7 (0) := ⟨_, rfl⟩
    have hC_39 : CSt cs ad Qm f_39 I_39 Af Rf Z_24 := by rw [hf_39, hI_39]; exact CSt.w_n hAd hC_24 (0)
    have hfr_39 : ∀ k, Awy ad k → f_39 k = f k := fun k hk => Eq.trans (by rw [hf_39]; exact hk.mw1 (by omega)) (hfr_24 k hk)
    refine lv_aload_n hx hb d_Ratio_reduce_42 rfl (lv_at hl 0 rfl) ?_
    refine x_lconst (z := 1) hx hb d_Ratio_reduce_43 (by decide) ?_
    refine x_put (C := RX4) (T := TX4) (N := 7) hx hb hts inX4 tyX4 tyX4_ok nmX4 hown (B.foc1 (hC_39.ra)) (hAd.f1 (by omega)) 0 rfl rfl 3 (by decide) (hts _ w_128) (fun _ h9 => h9) rfl (tyX4_ok 3 (by decide)) rfl rfl (Nat.le_of_ble_eq_true rfl) d_Ratio_reduce_44 (fun H locs B => ?_)
    have B : Wb D vwCl (TY cs) L (mw f_39 [((ad 7), .inr (4, [.ref (ad 239), .ref (ad 240), .long (lI (I_39 7)), .long (lI (1)), .ref (ad 241), .ref (ad 242), .ref (ad 243)]))]) (AL L s.heap.size) s H _ := B
    obtain ⟨f_44, hf_44⟩ : ∃ f_44, f_44 = mw f_39 [((ad 7), .inr (4, [.ref (ad 239), .ref (ad 240), .long (lI (I_39 7)), .long (lI (1)), .ref (ad 241), .ref (ad 242), .ref (ad 243)]))] := ⟨_, rfl⟩
    rw [← hf_44] at B
    obtain ⟨I_44, hI_44⟩ : ∃ I_44, I_44 = up I_39 8 (1) := ⟨_, rfl⟩
    have hC_44 : CSt cs ad Qm f_44 I_44 Af Rf Z_24 := by rw [hf_44, hI_44]; exact CSt.w_d hAd hC_39 (1)
    have hfr_44 : ∀ k, Awy ad k → f_44 k = f k := fun k hk => Eq.trans (by rw [hf_44]; exact hk.mw1 (by omega)) (hfr_39 k hk)
    refine x_iconst hx hb d_Ratio_reduce_47 ?_
    subst hQ hav
    exact x_zret hx hb hr (by decide) hlocks B d_Ratio_reduce_48 (⟨I_44, Af, Rf, Z_24, hC_44, hfr_44, fun i h1 h2 => by rw [hI_44, up_ne _ _ h2, hI_39, up_ne _ _ h1], fun _ => rfl, Or.inl ⟨by omega, rfl, by rw [hI_44, up_ne _ _ (by decide), hI_39, up_self], by rw [hI_44, up_self]⟩⟩)
