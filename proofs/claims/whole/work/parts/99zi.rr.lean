theorem d_RR_order_0 : decode prog_1_method_49_code 0 = .ok (.aload_n 0, 1) := by decide +kernel
theorem d_RR_order_1 : decode prog_1_method_49_code 1 = .ok (.getfield 11, 3) := by decide +kernel
theorem d_RR_order_4 : decode prog_1_method_49_code 4 = .ok (.iload_n 1, 1) := by decide +kernel
theorem d_RR_order_5 : decode prog_1_method_49_code 5 = .ok (.iconst 5, 1) := by decide +kernel
theorem d_RR_order_6 : decode prog_1_method_49_code 6 = .ok (.idiv, 1) := by decide +kernel
theorem d_RR_order_7 : decode prog_1_method_49_code 7 = .ok (.aaload, 1) := by decide +kernel
theorem d_RR_order_8 : decode prog_1_method_49_code 8 = .ok (.astore_n 3, 1) := by decide +kernel
theorem d_RR_order_9 : decode prog_1_method_49_code 9 = .ok (.aload_n 0, 1) := by decide +kernel
theorem d_RR_order_10 : decode prog_1_method_49_code 10 = .ok (.getfield 11, 3) := by decide +kernel
theorem d_RR_order_13 : decode prog_1_method_49_code 13 = .ok (.iload_n 2, 1) := by decide +kernel
theorem d_RR_order_14 : decode prog_1_method_49_code 14 = .ok (.iconst 5, 1) := by decide +kernel
theorem d_RR_order_15 : decode prog_1_method_49_code 15 = .ok (.idiv, 1) := by decide +kernel
theorem d_RR_order_16 : decode prog_1_method_49_code 16 = .ok (.aaload, 1) := by decide +kernel
theorem d_RR_order_17 : decode prog_1_method_49_code 17 = .ok (.astore 4, 2) := by decide +kernel
theorem d_RR_order_19 : decode prog_1_method_49_code 19 = .ok (.iload_n 1, 1) := by decide +kernel
theorem d_RR_order_20 : decode prog_1_method_49_code 20 = .ok (.iconst 5, 1) := by decide +kernel
theorem d_RR_order_21 : decode prog_1_method_49_code 21 = .ok (.irem, 1) := by decide +kernel
theorem d_RR_order_22 : decode prog_1_method_49_code 22 = .ok (.istore 5, 2) := by decide +kernel
theorem d_RR_order_24 : decode prog_1_method_49_code 24 = .ok (.iload_n 2, 1) := by decide +kernel
theorem d_RR_order_25 : decode prog_1_method_49_code 25 = .ok (.iconst 5, 1) := by decide +kernel
theorem d_RR_order_26 : decode prog_1_method_49_code 26 = .ok (.irem, 1) := by decide +kernel
theorem d_RR_order_27 : decode prog_1_method_49_code 27 = .ok (.istore 6, 2) := by decide +kernel
theorem d_RR_order_29 : decode prog_1_method_49_code 29 = .ok (.iload_n 1, 1) := by decide +kernel
theorem d_RR_order_30 : decode prog_1_method_49_code 30 = .ok (.iconst 5, 1) := by decide +kernel
theorem d_RR_order_31 : decode prog_1_method_49_code 31 = .ok (.idiv, 1) := by decide +kernel
theorem d_RR_order_32 : decode prog_1_method_49_code 32 = .ok (.iload_n 2, 1) := by decide +kernel
theorem d_RR_order_33 : decode prog_1_method_49_code 33 = .ok (.iconst 5, 1) := by decide +kernel
theorem d_RR_order_34 : decode prog_1_method_49_code 34 = .ok (.idiv, 1) := by decide +kernel
theorem d_RR_order_35 : decode prog_1_method_49_code 35 = .ok (.if_icmp .ne 11, 3) := by decide +kernel
theorem d_RR_order_38 : decode prog_1_method_49_code 38 = .ok (.iload 5, 2) := by decide +kernel
theorem d_RR_order_40 : decode prog_1_method_49_code 40 = .ok (.iload 6, 2) := by decide +kernel
theorem d_RR_order_42 : decode prog_1_method_49_code 42 = .ok (.invokestatic 334, 3) := by decide +kernel
theorem d_RR_order_45 : decode prog_1_method_49_code 45 = .ok (.ireturn, 1) := by decide +kernel
theorem d_RR_order_46 : decode prog_1_method_49_code 46 = .ok (.aload_n 3, 1) := by decide +kernel
theorem d_RR_order_47 : decode prog_1_method_49_code 47 = .ok (.getfield 129, 3) := by decide +kernel
theorem d_RR_order_50 : decode prog_1_method_49_code 50 = .ok (.iload 5, 2) := by decide +kernel
theorem d_RR_order_52 : decode prog_1_method_49_code 52 = .ok (.aaload, 1) := by decide +kernel
theorem d_RR_order_53 : decode prog_1_method_49_code 53 = .ok (.astore 7, 2) := by decide +kernel
theorem d_RR_order_55 : decode prog_1_method_49_code 55 = .ok (.aload 4, 2) := by decide +kernel
theorem d_RR_order_57 : decode prog_1_method_49_code 57 = .ok (.getfield 129, 3) := by decide +kernel
theorem d_RR_order_60 : decode prog_1_method_49_code 60 = .ok (.iload 6, 2) := by decide +kernel
theorem d_RR_order_62 : decode prog_1_method_49_code 62 = .ok (.aaload, 1) := by decide +kernel
theorem d_RR_order_63 : decode prog_1_method_49_code 63 = .ok (.astore 8, 2) := by decide +kernel
theorem d_RR_order_65 : decode prog_1_method_49_code 65 = .ok (.iconst 0, 1) := by decide +kernel
theorem d_RR_order_66 : decode prog_1_method_49_code 66 = .ok (.istore 9, 2) := by decide +kernel
theorem d_RR_order_68 : decode prog_1_method_49_code 68 = .ok (.iconst 0, 1) := by decide +kernel
theorem d_RR_order_69 : decode prog_1_method_49_code 69 = .ok (.istore 10, 2) := by decide +kernel
theorem d_RR_order_71 : decode prog_1_method_49_code 71 = .ok (.iload 10, 2) := by decide +kernel
theorem d_RR_order_73 : decode prog_1_method_49_code 73 = .ok (.sipush 744, 3) := by decide +kernel
theorem d_RR_order_76 : decode prog_1_method_49_code 76 = .ok (.if_icmp .gt 107, 3) := by decide +kernel
theorem d_RR_order_79 : decode prog_1_method_49_code 79 = .ok (.aload 7, 2) := by decide +kernel
theorem d_RR_order_81 : decode prog_1_method_49_code 81 = .ok (.aload 8, 2) := by decide +kernel
theorem d_RR_order_83 : decode prog_1_method_49_code 83 = .ok (.invokevirtual 314, 3) := by decide +kernel
theorem d_RR_order_86 : decode prog_1_method_49_code 86 = .ok (.istore 11, 2) := by decide +kernel
theorem d_RR_order_88 : decode prog_1_method_49_code 88 = .ok (.iload 11, 2) := by decide +kernel
theorem d_RR_order_90 : decode prog_1_method_49_code 90 = .ok (.ifCond .eq 6, 3) := by decide +kernel
theorem d_RR_order_93 : decode prog_1_method_49_code 93 = .ok (.iload 11, 2) := by decide +kernel
theorem d_RR_order_95 : decode prog_1_method_49_code 95 = .ok (.ireturn, 1) := by decide +kernel
theorem d_RR_order_96 : decode prog_1_method_49_code 96 = .ok (.iload 9, 2) := by decide +kernel
theorem d_RR_order_98 : decode prog_1_method_49_code 98 = .ok (.ifCond .ne 48, 3) := by decide +kernel
theorem d_RR_order_101 : decode prog_1_method_49_code 101 = .ok (.aload 7, 2) := by decide +kernel
theorem d_RR_order_103 : decode prog_1_method_49_code 103 = .ok (.getfield 325, 3) := by decide +kernel
theorem d_RR_order_106 : decode prog_1_method_49_code 106 = .ok (.aload 8, 2) := by decide +kernel
theorem d_RR_order_108 : decode prog_1_method_49_code 108 = .ok (.getfield 325, 3) := by decide +kernel
theorem d_RR_order_111 : decode prog_1_method_49_code 111 = .ok (.if_icmp .ne 35, 3) := by decide +kernel
theorem d_RR_order_114 : decode prog_1_method_49_code 114 = .ok (.iconst 1, 1) := by decide +kernel
theorem d_RR_order_115 : decode prog_1_method_49_code 115 = .ok (.istore 9, 2) := by decide +kernel
theorem d_RR_order_117 : decode prog_1_method_49_code 117 = .ok (.aload_n 0, 1) := by decide +kernel
theorem d_RR_order_118 : decode prog_1_method_49_code 118 = .ok (.aload_n 3, 1) := by decide +kernel
theorem d_RR_order_119 : decode prog_1_method_49_code 119 = .ok (.getfield 111, 3) := by decide +kernel
theorem d_RR_order_122 : decode prog_1_method_49_code 122 = .ok (.aload 4, 2) := by decide +kernel
theorem d_RR_order_124 : decode prog_1_method_49_code 124 = .ok (.getfield 111, 3) := by decide +kernel
theorem d_RR_order_127 : decode prog_1_method_49_code 127 = .ok (.invokevirtual 114, 3) := by decide +kernel
theorem d_RR_order_130 : decode prog_1_method_49_code 130 = .ok (.aload_n 0, 1) := by decide +kernel
theorem d_RR_order_131 : decode prog_1_method_49_code 131 = .ok (.aload_n 3, 1) := by decide +kernel
theorem d_RR_order_132 : decode prog_1_method_49_code 132 = .ok (.iload 5, 2) := by decide +kernel
theorem d_RR_order_134 : decode prog_1_method_49_code 134 = .ok (.aload_n 0, 1) := by decide +kernel
theorem d_RR_order_135 : decode prog_1_method_49_code 135 = .ok (.getfield 48, 3) := by decide +kernel
theorem d_RR_order_138 : decode prog_1_method_49_code 138 = .ok (.invokevirtual 117, 3) := by decide +kernel
theorem d_RR_order_141 : decode prog_1_method_49_code 141 = .ok (.ifCond .eq 5, 3) := by decide +kernel
theorem d_RR_order_144 : decode prog_1_method_49_code 144 = .ok (.iconst 0, 1) := by decide +kernel
theorem d_RR_order_145 : decode prog_1_method_49_code 145 = .ok (.ireturn, 1) := by decide +kernel
theorem d_RR_order_146 : decode prog_1_method_49_code 146 = .ok (.aload 7, 2) := by decide +kernel
theorem d_RR_order_148 : decode prog_1_method_49_code 148 = .ok (.getfield 325, 3) := by decide +kernel
theorem d_RR_order_151 : decode prog_1_method_49_code 151 = .ok (.aload 8, 2) := by decide +kernel
theorem d_RR_order_153 : decode prog_1_method_49_code 153 = .ok (.getfield 325, 3) := by decide +kernel
theorem d_RR_order_156 : decode prog_1_method_49_code 156 = .ok (.if_icmp .gt 13, 3) := by decide +kernel
theorem d_RR_order_159 : decode prog_1_method_49_code 159 = .ok (.aload_n 0, 1) := by decide +kernel
theorem d_RR_order_160 : decode prog_1_method_49_code 160 = .ok (.aload_n 3, 1) := by decide +kernel
theorem d_RR_order_161 : decode prog_1_method_49_code 161 = .ok (.iload 5, 2) := by decide +kernel
theorem d_RR_order_163 : decode prog_1_method_49_code 163 = .ok (.invokevirtual 328, 3) := by decide +kernel
theorem d_RR_order_166 : decode prog_1_method_49_code 166 = .ok (.goto 11, 3) := by decide +kernel
theorem d_RR_order_169 : decode prog_1_method_49_code 169 = .ok (.aload_n 0, 1) := by decide +kernel
theorem d_RR_order_170 : decode prog_1_method_49_code 170 = .ok (.aload 4, 2) := by decide +kernel
theorem d_RR_order_172 : decode prog_1_method_49_code 172 = .ok (.iload 6, 2) := by decide +kernel
theorem d_RR_order_174 : decode prog_1_method_49_code 174 = .ok (.invokevirtual 328, 3) := by decide +kernel
theorem d_RR_order_177 : decode prog_1_method_49_code 177 = .ok (.iinc 10 1, 3) := by decide +kernel
theorem d_RR_order_180 : decode prog_1_method_49_code 180 = .ok (.goto (-109), 3) := by decide +kernel
theorem d_RR_order_183 : decode prog_1_method_49_code 183 = .ok (.iconst 0, 1) := by decide +kernel
theorem d_RR_order_184 : decode prog_1_method_49_code 184 = .ok (.ireturn, 1) := by decide +kernel
set_option maxHeartbeats 8000000 in
set_option maxRecDepth 100000 in
theorem c_RR_order (l : Launch) (D : va_G) (cs : Nat → ClassId) (L : List Nat) (f : Nat → va_E) (sz : Nat) (ad Qm : Nat → Nat) (If : Nat → Int) (Af : Nat → Nat → Int) (Rf : Nat → Nat) (Zf : Nat → Int) (pa ia na pb ib nb : Nat) (Na Nb : Rat → Int) (da : Nat → Nat) (va : Nat → Int) (db : Nat → Nat) (vb : Nat → Int) (hAd : AdOk L ad Qm) (hC : CSt cs ad Qm f If Af Rf Zf) (hpa : pa < 12) (hpb : pb < 12) (hpab : pa ≠ pb) (hia : ia < na) (hib : ib < nb) (hVa : ∀ j, j < 6 → -1000 ≤ Af (20 + pa) j ∧ Af (20 + pa) j ≤ 1000) (hVb : ∀ j, j < 6 → -1000 ≤ Af (20 + pb) j ∧ Af (20 + pb) j ≤ 1000) (hca : Crv If Af pa na Na da va) (hcb : Crv If Af pb nb Nb db vb) (hhd : 0 ≤ If 0 ∧ If 0 ≤ 12) : Met l (⟨"RealRoots", "order", "(II)I"⟩ : MethodName) (.code (⟨"RealRoots", "order", "(II)I"⟩ : MethodName) prog_1_method_49_code 12 (Option.some Jvm.ClassFile.FieldType.int) :: gw) ({ frames := 6, cells := 0, slots := 0, locals := 320 }) (va_Pc [.ref ((ad 0)), .int (iI (((5 * pa + ia : Nat) : Int))), .int (iI (((5 * pb + ib : Nat) : Int)))] (K0 D vwCl (TY cs) L f sz)) (va_Qi (fun (r : Int32) (g : Nat → va_E) => ∃ (I' : Nat → Int) (A' : Nat → Nat → Int) (R' : Nat → Nat) (Z' : Nat → Int), CSt cs ad Qm g I' A' R' Z' ∧ (∀ k, Awy ad k → g k = f k) ∧ (∃ rr : Int, r = iI rr ∧ (∀ z1 z2, Cell Na (ia : Int) z1 256 → Cell Nb (ib : Int) z2 256 → rr = cmq z1 z2) ∧ ∃ (d1 : Nat) (v1 : Int) (d2 : Nat) (v2 : Int), Crv I' A' pa na Na (va_up da ia d1) (up va ia v1) ∧ Crv I' A' pb nb Nb (va_up db ib d2) (up vb ib v2) ∧ (da ia ≤ d1 ∧ v1 / 2 ^ (d1 - da ia) = va ia) ∧ (db ib ≤ d2 ∧ v2 / 2 ^ (d2 - db ib) = vb ib) ∧ (rr ≠ 0 → v1 / 2 ^ (d1 - min d1 d2) ≠ v2 / 2 ^ (d2 - min d1 d2))) ∧ (∀ i, i ≠ 3 → i ≠ 6 → i ≠ 200 + (5 * pa + ia) → i ≠ 200 + (5 * pb + ib) → I' i = If i) ∧ ∀ q, q ≠ 0 → q ≠ 2 → q ≠ 7 → q ≠ 100 + (5 * pa + ia) → q ≠ 100 + (5 * pb + ib) → A' q = Af q) (K1 D vwCl (TY cs) (AL L sz) L) (AL L sz)) 0 0 (AL L sz) := by
  refine Met.ofW (cc := prog_1_method_49_code) (maxL := 12) (ret := (Option.some Jvm.ClassFile.FieldType.int)) (by decide) rfl ?_
  intro p e s m args below meth c s₁ Bd hml hv
  obtain ⟨rfl, hk0⟩ := hv
  obtain ⟨hsz, B⟩ := hk0.start
  subst hsz
  have hx := Bd.exec
  have hb := Bd.bytes
  have hr := Bd.returns
  have hlocks := Bd.notSynchronized
  have hts0 := atoms_spec Bd.pre
  have hown : s.vm.findClass RX6 = some m.cls := findClass_of_methodNamed Bd.named
  have hA : ∀ q, s.heap.size ≤ q → AL L s.heap.size q := fun _ h => Or.inr h
  have hl := lv_entry ([.ref ((ad 0)), .int (iI (((5 * pa + ia : Nat) : Int))), .int (iI (((5 * pb + ib : Nat) : Int)))]) (n := 12) (Nat.le_of_ble_eq_true rfl)
  rw [lg_entry_eq]
  generalize (lg_sl ([.ref ((ad 0)), .int (iI (((5 * pa + ia : Nat) : Int))), .int (iI (((5 * pb + ib : Nat) : Int)))]) ++ List.replicate (12 - (lg_sl ([.ref ((ad 0)), .int (iI (((5 * pa + ia : Nat) : Int))), .int (iI (((5 * pb + ib : Nat) : Int)))])).length) Slot.unset).toArray = ls at hl ⊢
  refine absQ (fun Q R av hQ hR hav => ?_)
  have hts : ∀ w ∈ gw, w.before av s = true := by rw [hav]; exact fun w h => hts0 w (List.mem_cons_of_mem _ h)
  have hRf : R.frames = 6 := by rw [hR]; rfl
  have hRl : R.locals = 320 := by rw [hR]; rfl
  have hRc : R.cells = 0 := by rw [hR]; rfl
  have hRs : R.slots = 0 := by rw [hR]; rfl
  clear hR hts0 Bd
  have hl : lv_has ls 12 [(0, .ref ((ad 0))), (1, .int (iI (((5 * pa + ia : Nat) : Int)))), (2, .int (iI (((5 * pb + ib : Nat) : Int))))] := hl
  have hfr : ∀ k, Awy ad k → f k = f k := fun _ _ => rfl
  obtain ⟨⟨p1, hPa⟩, hcga, hFPa, hFba⟩ := hca.part hVa
  obtain ⟨⟨p2, hPb⟩, hcgb, hFPb, hFbb⟩ := hcb.part hVb
  have hSa := hPa.2.2.1
  have hSb := hPb.2.2.1
  have hna5 := hca.2.2.2.1
  have hnb5 := hcb.2.2.2.1
  have hNa := hca.2.2.2.2.1
  have hNb := hcb.2.2.2.2.1
  refine lv_aload_n hx hb d_RR_order_0 rfl (lv_at hl 0 rfl) ?_
  refine x_get (C := RX6) (T := TX6) (N := 14) hx hb hts inX6 hown (B.foc1 (hC.x)) (hAd.f1 (by omega)) 0 rfl rfl 0 (by decide) (hts _ w_197) (fun _ h9 => h9) rfl d_RR_order_1 ?_
  refine lv_iload_n hx hb d_RR_order_4 rfl (lv_at hl 1 rfl) ?_
  refine x_iconst hx hb d_RR_order_5 ?_
  refine x_idiv hx hb d_RR_order_6 (by omega) (by omega) (by omega) ?_
  rw [show (((5 * pa + ia : Nat) : Int)).tdiv 5 = (pa : Int) by rw [Int.tdiv_eq_ediv_of_nonneg (by omega)]; omega]
  refine x_aald hx hb (B.foc1 (hC.c0)) (hAd.f1 (by omega)) 0 4 rfl rfl pa (by omega) (by omega) (by decide) (rfs_at (by omega)) d_RR_order_7 ?_
  refine lv_astore_n (lv' := [(3, .ref ((ad (15 + pa)))), (0, .ref ((ad 0))), (1, .int (iI (((5 * pa + ia : Nat) : Int)))), (2, .int (iI (((5 * pb + ib : Nat) : Int))))]) hx hb d_RR_order_8 rfl hl (by decide) rfl (fun ls hl => ?_)
  refine lv_aload_n hx hb d_RR_order_9 rfl (lv_at hl 1 rfl) ?_
  refine x_get (C := RX6) (T := TX6) (N := 14) hx hb hts inX6 hown (B.foc1 (hC.x)) (hAd.f1 (by omega)) 0 rfl rfl 0 (by decide) (hts _ w_197) (fun _ h9 => h9) rfl d_RR_order_10 ?_
  refine lv_iload_n hx hb d_RR_order_13 rfl (lv_at hl 3 rfl) ?_
  refine x_iconst hx hb d_RR_order_14 ?_
  refine x_idiv hx hb d_RR_order_15 (by omega) (by omega) (by omega) ?_
  rw [show (((5 * pb + ib : Nat) : Int)).tdiv 5 = (pb : Int) by rw [Int.tdiv_eq_ediv_of_nonneg (by omega)]; omega]
  refine x_aald hx hb (B.foc1 (hC.c0)) (hAd.f1 (by omega)) 0 4 rfl rfl pb (by omega) (by omega) (by decide) (rfs_at (by omega)) d_RR_order_16 ?_
  refine lv_astore (lv' := [(4, .ref ((ad (15 + pb)))), (3, .ref ((ad (15 + pa)))), (0, .ref ((ad 0))), (1, .int (iI (((5 * pa + ia : Nat) : Int)))), (2, .int (iI (((5 * pb + ib : Nat) : Int))))]) hx hb d_RR_order_17 hl (by decide) rfl (fun ls hl => ?_)
  refine lv_iload_n hx hb d_RR_order_19 rfl (lv_at hl 3 rfl) ?_
  refine x_iconst hx hb d_RR_order_20 ?_
  refine x_irem hx hb d_RR_order_21 (by omega) (by omega) (by omega) ?_
  rw [show (((5 * pa + ia : Nat) : Int)).tmod 5 = (ia : Int) by rw [Int.tmod_eq_emod_of_nonneg (by omega)]; omega]
  refine lv_istore (lv' := [(5, .int (iI ((ia : Int)))), (4, .ref ((ad (15 + pb)))), (3, .ref ((ad (15 + pa)))), (0, .ref ((ad 0))), (1, .int (iI (((5 * pa + ia : Nat) : Int)))), (2, .int (iI (((5 * pb + ib : Nat) : Int))))]) hx hb d_RR_order_22 hl (by decide) rfl (fun ls hl => ?_)
  refine lv_iload_n hx hb d_RR_order_24 rfl (lv_at hl 5 rfl) ?_
  refine x_iconst hx hb d_RR_order_25 ?_
  refine x_irem hx hb d_RR_order_26 (by omega) (by omega) (by omega) ?_
  rw [show (((5 * pb + ib : Nat) : Int)).tmod 5 = (ib : Int) by rw [Int.tmod_eq_emod_of_nonneg (by omega)]; omega]
  refine lv_istore (lv' := [(6, .int (iI ((ib : Int)))), (5, .int (iI ((ia : Int)))), (4, .ref ((ad (15 + pb)))), (3, .ref ((ad (15 + pa)))), (0, .ref ((ad 0))), (1, .int (iI (((5 * pa + ia : Nat) : Int)))), (2, .int (iI (((5 * pb + ib : Nat) : Int))))]) hx hb d_RR_order_27 hl (by decide) rfl (fun ls hl => ?_)
  refine lv_iload_n hx hb d_RR_order_29 rfl (lv_at hl 5 rfl) ?_
  refine x_iconst hx hb d_RR_order_30 ?_
  refine x_idiv hx hb d_RR_order_31 (by omega) (by omega) (by omega) ?_
  rw [show (((5 * pa + ia : Nat) : Int)).tdiv 5 = (pa : Int) by rw [Int.tdiv_eq_ediv_of_nonneg (by omega)]; omega]
  refine lv_iload_n hx hb d_RR_order_32 rfl (lv_at hl 6 rfl) ?_
  refine x_iconst hx hb d_RR_order_33 ?_
  refine x_idiv hx hb d_RR_order_34 (by omega) (by omega) (by omega) ?_
  rw [show (((5 * pb + ib : Nat) : Int)).tdiv 5 = (pb : Int) by rw [Int.tdiv_eq_ediv_of_nonneg (by omega)]; omega]
  refine x_icmp_ne (tgt := 46) hx hb d_RR_order_35 (by decide) (by omega) (by omega) (fun h35 => ?_) (fun h35 => ?_)
  · refine lv_aload_n hx hb d_RR_order_46 rfl (lv_at hl 3 rfl) ?_
    refine x_get (C := RX2) (T := TX2) (N := 5) hx hb hts inX2 hown (B.foc1 (hC.cu (p := pa) (by omega))) (hAd.f1 (by omega)) 0 rfl rfl 2 (by decide) (hts _ w_181) (fun _ h9 => h9) rfl d_RR_order_47 ?_
    refine lv_iload hx hb d_RR_order_50 (lv_at hl 1 rfl) ?_
    refine x_aald hx hb (B.foc1 (hC.pa (p := pa) (by omega))) (hAd.f1 (by omega)) 0 5 rfl rfl ia (by omega) (by omega) (by decide) (rfs_at (by omega)) d_RR_order_52 ?_
    refine lv_astore (lv' := [(7, .ref ((ad (63 + (5 * pa + ia))))), (6, .int (iI ((ib : Int)))), (5, .int (iI ((ia : Int)))), (4, .ref ((ad (15 + pb)))), (3, .ref ((ad (15 + pa)))), (0, .ref ((ad 0))), (1, .int (iI (((5 * pa + ia : Nat) : Int)))), (2, .int (iI (((5 * pb + ib : Nat) : Int))))]) hx hb d_RR_order_53 hl (by decide) rfl (fun ls hl => ?_)
    refine lv_aload hx hb d_RR_order_55 (lv_at hl 3 rfl) ?_
    refine x_get (C := RX2) (T := TX2) (N := 5) hx hb hts inX2 hown (B.foc1 (hC.cu (p := pb) (by omega))) (hAd.f1 (by omega)) 0 rfl rfl 2 (by decide) (hts _ w_181) (fun _ h9 => h9) rfl d_RR_order_57 ?_
    refine lv_iload hx hb d_RR_order_60 (lv_at hl 1 rfl) ?_
    refine x_aald hx hb (B.foc1 (hC.pa (p := pb) (by omega))) (hAd.f1 (by omega)) 0 5 rfl rfl ib (by omega) (by omega) (by decide) (rfs_at (by omega)) d_RR_order_62 ?_
    refine lv_astore (lv' := [(8, .ref ((ad (63 + (5 * pb + ib))))), (7, .ref ((ad (63 + (5 * pa + ia))))), (6, .int (iI ((ib : Int)))), (5, .int (iI ((ia : Int)))), (4, .ref ((ad (15 + pb)))), (3, .ref ((ad (15 + pa)))), (0, .ref ((ad 0))), (1, .int (iI (((5 * pa + ia : Nat) : Int)))), (2, .int (iI (((5 * pb + ib : Nat) : Int))))]) hx hb d_RR_order_63 hl (by decide) rfl (fun ls hl => ?_)
    refine x_iconst hx hb d_RR_order_65 ?_
    refine lv_istore (lv' := [(9, .int (iI 0)), (8, .ref ((ad (63 + (5 * pb + ib))))), (7, .ref ((ad (63 + (5 * pa + ia))))), (6, .int (iI ((ib : Int)))), (5, .int (iI ((ia : Int)))), (4, .ref ((ad (15 + pb)))), (3, .ref ((ad (15 + pa)))), (0, .ref ((ad 0))), (1, .int (iI (((5 * pa + ia : Nat) : Int)))), (2, .int (iI (((5 * pb + ib : Nat) : Int))))]) hx hb d_RR_order_66 hl (by decide) rfl (fun ls hl => ?_)
    refine x_iconst hx hb d_RR_order_68 ?_
    refine lv_istore (lv' := [(10, .int (iI 0)), (9, .int (iI 0)), (8, .ref ((ad (63 + (5 * pb + ib))))), (7, .ref ((ad (63 + (5 * pa + ia))))), (6, .int (iI ((ib : Int)))), (5, .int (iI ((ia : Int)))), (4, .ref ((ad (15 + pb)))), (3, .ref ((ad (15 + pa)))), (0, .ref ((ad 0))), (1, .int (iI (((5 * pa + ia : Nat) : Int)))), (2, .int (iI (((5 * pb + ib : Nat) : Int))))]) hx hb d_RR_order_69 hl (by decide) rfl (fun ls hl => ?_)
    have LA : ∀ (fuel : Nat) (fw : Nat → va_E) (Iw : Nat → Int) (Aw : Nat → Nat → Int) (Rw : Nat → Nat) (Zw : Nat → Int) (ss : Nat) (d1 : Nat) (v1 : Int) (d2 : Nat) (v2 : Int) (ak : Int), 745 - ss < fuel → (CSt cs ad Qm fw Iw Aw Rw Zw) → (∀ k, Awy ad k → fw k = f k) → (∀ i, i ≠ 3 → i ≠ 6 → i ≠ 200 + (5 * pa + ia) → i ≠ 200 + (5 * pb + ib) → Iw i = If i) → (∀ q, q ≠ 0 → q ≠ 2 → q ≠ 7 → q ≠ 100 + (5 * pa + ia) → q ≠ 100 + (5 * pb + ib) → Aw q = Af q) → (Crv Iw Aw pa na Na (va_up da ia d1) (up va ia v1)) → (Crv Iw Aw pb nb Nb (va_up db ib d2) (up vb ib v2)) → (da ia ≤ d1 ∧ v1 / 2 ^ (d1 - da ia) = va ia) → (db ib ≤ d2 ∧ v2 / 2 ^ (d2 - db ib) = vb ib) → (ss ≤ d1 + d2) → (ak = 0 ∨ ak = 1) → (ak = 1 → Ask (Af (40 + pa)) (Af (40 + pb)) (va ia) (da ia)) → ∀ (H : Heap) (locs : List Loc) (ls : Array Slot), Wb D vwCl (TY cs) L fw (AL L s.heap.size) s H locs → lv_has ls 12 [(10, .int (iI ((ss : Int)))), (9, .int (iI ak)), (0, .ref ((ad 0))), (3, .ref ((ad (15 + pa)))), (4, .ref ((ad (15 + pb)))), (5, .int (iI ((ia : Int)))), (6, .int (iI ((ib : Int)))), (7, .ref ((ad (63 + (5 * pa + ia))))), (8, .ref ((ad (63 + (5 * pb + ib)))))] → W p l e R s m av below meth c H locs (0) (0) Q (F0 m 71 ls []) := by
      intro fuel
      induction fuel with
      | zero => intro fw Iw Aw Rw Zw ss d1 v1 d2 v2 ak hfu; exact absurd hfu (Nat.not_lt_zero _)
      | succ fuel ih_LA =>
        intro fw Iw Aw Rw Zw ss d1 v1 d2 v2 ak hfu_LA hCw hfrw hIwo hAwo hcaw hcbw hda hdb hst hak hak1 H locs ls B hl
        have hAaw : Aw (40 + pa) = Af (40 + pa) := hAwo _ (by omega) (by omega) (by omega) (by omega) (by omega)
        have hAbw : Aw (40 + pb) = Af (40 + pb) := hAwo _ (by omega) (by omega) (by omega) (by omega) (by omega)
        have hPl1w := hcaw.2.2.2.2.2.2.1 ia hia
        rw [va_up_self, up_self] at hPl1w
        have hPl2w := hcbw.2.2.2.2.2.2.1 ib hib
        rw [va_up_self, up_self] at hPl2w
        have hd18 := hPl1w.2.1.1
        have hd28 := hPl2w.2.1.1
        refine lv_iload hx hb d_RR_order_71 (lv_at hl 0 rfl) ?_
        refine x_sipush hx hb d_RR_order_73 (by decide) ?_
        refine x_icmp_gt (tgt := 183) hx hb d_RR_order_76 (by decide) (by omega) (by omega) (fun h76 => ?_) (fun h76 => ?_)
        · exfalso; omega
        · refine lv_aload hx hb d_RR_order_79 (lv_at hl 7 rfl) ?_
          refine lv_aload hx hb d_RR_order_81 (lv_at hl 8 rfl) ?_
          have hp1a83 := hcaw.2.2.2.2.2.2.1 ia (by omega)
          have hp2a83 := hcbw.2.2.2.2.2.2.1 ib (by omega)
          have hw1a83 := hp1a83.2.1.whr hp1a83.2.2.1
          have hw2a83 := hp2a83.2.1.whr hp2a83.2.2.1
          refine x_calli B hA (va_runV (As := [.ref ((ad (63 + (5 * pb + ib))))]) (rest := []) ⟨hx, hb, hml, hown, hts⟩ (c_Place_against l D cs _ _ _ (ad (63 + (5 * pa + ia))) (ad (123 + (5 * pa + ia))) (ad (63 + (5 * pb + ib))) (ad (123 + (5 * pb + ib))) ((va_up da ia d1) ia) ((va_up db ib d2) ib) (Iw (100 + (5 * pa + ia))) (Iw (100 + (5 * pb + ib))) (Aw (100 + (5 * pa + ia))) (Aw (100 + (5 * pb + ib))) (hAd.fc [63 + (5 * pa + ia), 123 + (5 * pa + ia), 63 + (5 * pb + ib), 123 + (5 * pb + ib)] (by simp only [List.nodup_cons, List.mem_cons, List.not_mem_nil, or_false, not_or, List.nodup_nil, and_true, not_false_eq_true]; omega) (by intro q hq; simp only [List.mem_cons, List.not_mem_nil, or_false] at hq; omega)) (by rw [← hp1a83.1]; exact hCw.pl (m := (5 * pa + ia)) (by omega)) (hCw.wq (m := (5 * pa + ia)) (by omega)) (by rw [← hp2a83.1]; exact hCw.pl (m := (5 * pb + ib)) (by omega)) (hCw.wq (m := (5 * pb + ib)) (by omega)) (by omega) (by omega) hp1a83.2.1.1 hp2a83.2.1.1 (fun j hj => ⟨hp1a83.2.1.2.1 j hj, hp2a83.2.1.2.1 j hj⟩)) (cwV 1 hts (gw_V w_432 w_433 w_434 w_7 w_435) rfl rfl rfl (by decide +kernel) ⟨by rw [hRf]; exact Nat.le_of_ble_eq_true rfl, by rw [hRl]; exact Nat.le_of_ble_eq_true rfl⟩) ⟨K0.blind, B.recv (hAd.1 _ (by omega)) (hCw.pl (m := (5 * pa + ia)) (by omega)) rfl, B.pre _⟩ rfl rfl hl.1 rfl (lv_room (Nat.le_of_ble_eq_true rfl)) d_RR_order_83 ⟨by rw [hRc]; omega, by rw [hRs]; omega⟩) (fun r83 g83 H locs hw B => ?_)
          obtain ⟨rfl, hgf⟩ := hw
          rw [hgf] at B
          rw [hp1a83.2.1.cmp hp2a83.2.1]
          obtain ⟨wy, hwy⟩ : ∃ wy : Int, wy = cmq (((up va ia v1) ia) / 2 ^ (((va_up da ia d1) ia) - min ((va_up da ia d1) ia) ((va_up db ib d2) ib))) (((up vb ib v2) ib) / 2 ^ (((va_up db ib d2) ib) - min ((va_up da ia d1) ia) ((va_up db ib d2) ib))) := ⟨_, rfl⟩
          rw [← hwy]
          have hwyr : -1 ≤ wy ∧ wy ≤ 1 := by rw [hwy]; exact cmq_rng _ _
          have hwy0 : wy = 0 ↔ ((up va ia v1) ia) / 2 ^ (((va_up da ia d1) ia) - min ((va_up da ia d1) ia) ((va_up db ib d2) ib)) = ((up vb ib v2) ib) / 2 ^ (((va_up db ib d2) ib) - min ((va_up da ia d1) ia) ((va_up db ib d2) ib)) := by rw [hwy]; exact cmq_iff0
          refine lv_istore (lv' := [(11, .int (iI wy)), (10, .int (iI ((ss : Int)))), (9, .int (iI ak)), (0, .ref ((ad 0))), (3, .ref ((ad (15 + pa)))), (4, .ref ((ad (15 + pb)))), (5, .int (iI ((ia : Int)))), (6, .int (iI ((ib : Int)))), (7, .ref ((ad (63 + (5 * pa + ia))))), (8, .ref ((ad (63 + (5 * pb + ib)))))]) hx hb d_RR_order_86 hl (by decide) rfl (fun ls hl => ?_)
          have hcaE : wy = cmq (v1 / 2 ^ (d1 - min d1 d2)) (v2 / 2 ^ (d2 - min d1 d2)) := by rw [hwy]; simp only [va_up_self, up_self]
          refine lv_iload hx hb d_RR_order_88 (lv_at hl 0 rfl) ?_
          refine x_if_eq (tgt := 96) hx hb d_RR_order_90 (by decide) (by omega) (fun h90 => ?_) (fun h90 => ?_)
          · have J146 : ∀ (fx : Nat → va_E) (Ix : Nat → Int) (Ax : Nat → Nat → Int) (Rx : Nat → Nat) (Zx : Nat → Int) (d3 : Nat) (v3 : Int) (a3 : Int), (CSt cs ad Qm fx Ix Ax Rx Zx) → (∀ k, Awy ad k → fx k = f k) → (∀ i, i ≠ 3 → i ≠ 6 → i ≠ 200 + (5 * pa + ia) → i ≠ 200 + (5 * pb + ib) → Ix i = If i) → (∀ q, q ≠ 0 → q ≠ 2 → q ≠ 7 → q ≠ 100 + (5 * pa + ia) → q ≠ 100 + (5 * pb + ib) → Ax q = Af q) → (Crv Ix Ax pa na Na (va_up da ia d3) (up va ia v3)) → (Crv Ix Ax pb nb Nb (va_up db ib d2) (up vb ib v2)) → (da ia ≤ d3 ∧ v3 / 2 ^ (d3 - da ia) = va ia) → (ss ≤ d3 + d2) → (a3 = 0 ∨ a3 = 1) → (a3 = 1 → Ask (Af (40 + pa)) (Af (40 + pb)) (va ia) (da ia)) → (¬ (d3 = 248 ∧ d2 = 248)) → ∀ (H : Heap) (locs : List Loc) (ls : Array Slot), Wb D vwCl (TY cs) L fx (AL L s.heap.size) s H locs → lv_has ls 12 [(10, .int (iI ((ss : Int)))), (9, .int (iI a3)), (0, .ref ((ad 0))), (3, .ref ((ad (15 + pa)))), (4, .ref ((ad (15 + pb)))), (5, .int (iI ((ia : Int)))), (6, .int (iI ((ib : Int)))), (7, .ref ((ad (63 + (5 * pa + ia))))), (8, .ref ((ad (63 + (5 * pb + ib)))))] → W p l e R s m av below meth c H locs (0) (0) Q (F0 m 146 ls []) := by
              intro fx Ix Ax Rx Zx d3 v3 a3 hCx hfrx hIxo hAxo hcax hcbx hda3 hst3 hak3 hak31 hnb8 H locs ls B hl
              have hAax : Ax (40 + pa) = Af (40 + pa) := hAxo _ (by omega) (by omega) (by omega) (by omega) (by omega)
              have hAbx : Ax (40 + pb) = Af (40 + pb) := hAxo _ (by omega) (by omega) (by omega) (by omega) (by omega)
              have hPl1x := hcax.2.2.2.2.2.2.1 ia hia
              rw [va_up_self, up_self] at hPl1x
              have hPl2x := hcbx.2.2.2.2.2.2.1 ib hib
              rw [va_up_self, up_self] at hPl2x
              have hd38 := hPl1x.2.1.1
              refine lv_aload hx hb d_RR_order_146 (lv_at hl 7 rfl) ?_
              refine x_get (C := RX3) (T := TX3) (N := 3) hx hb hts inX3 hown (B.foc1 (hCx.pl (m := (5 * pa + ia)) (by omega))) (hAd.f1 (by omega)) 0 rfl rfl 1 (by decide) (hts _ w_165) (fun _ h9 => h9) rfl d_RR_order_148 ?_
              rw [hPl1x.1]
              refine lv_aload hx hb d_RR_order_151 (lv_at hl 8 rfl) ?_
              refine x_get (C := RX3) (T := TX3) (N := 3) hx hb hts inX3 hown (B.foc1 (hCx.pl (m := (5 * pb + ib)) (by omega))) (hAd.f1 (by omega)) 0 rfl rfl 1 (by decide) (hts _ w_165) (fun _ h9 => h9) rfl d_RR_order_153 ?_
              rw [hPl2x.1]
              refine x_icmp_gt (tgt := 169) hx hb d_RR_order_156 (by decide) (by omega) (by omega) (fun h156 => ?_) (fun h156 => ?_)
              · refine lv_aload_n hx hb d_RR_order_169 rfl (lv_at hl 2 rfl) ?_
                refine lv_aload hx hb d_RR_order_170 (lv_at hl 4 rfl) ?_
                refine lv_iload hx hb d_RR_order_172 (lv_at hl 6 rfl) ?_
                refine x_callv B hA (va_runV (As := [.ref ((ad (15 + pb))), .int (iI ((ib : Int)))]) (rest := []) ⟨hx, hb, hml, hown, hts⟩ (c_RR_deepen l D cs _ _ _ ad Qm Ix Ax Rx Zx pb ib ((va_up db ib d2) ib) ((up vb ib v2) ib) Nb hAd hCx hpb (by omega) hcbx.2.2.2.2.1 (hcbx.2.2.2.2.2.2.1 _ (by omega)).1 (hcbx.2.2.2.2.2.2.1 _ (by omega)).2.1 (hcbx.iso (by rw [hAbx]; exact hSb) (by omega)) nb hcbx.2.2.1 ⟨by omega, hcbx.2.2.2.1⟩ (by rw [hAbx]; exact hSb) (by rw [hAbx]; exact hFbb) (by rw [hAbx]; exact hFPb) hcbx.2.2.2.2.2.1) (cwV 2 hts (gw_V w_483 w_485 s_20 w_1 w_486) rfl rfl rfl (by decide +kernel) ⟨by rw [hRf]; exact Nat.le_of_ble_eq_true rfl, by rw [hRl]; exact Nat.le_of_ble_eq_true rfl⟩) ⟨K0.blind, B.recv (hAd.1 _ (by omega)) (hCx.x) rfl, B.pre _⟩ rfl rfl hl.1 rfl (lv_room (Nat.le_of_ble_eq_true rfl)) d_RR_order_174 ⟨by rw [hRc]; omega, by rw [hRs]; omega⟩) (fun g174 H locs hw B => ?_)
                obtain ⟨Iq, Aq, Rq, Zq, hCq, hqq, ⟨dnq, vnq, hd1q, hd2q, hd3q, hd4q⟩, hI6q, hApq⟩ := hw
                have hfrq : ∀ k, Awy ad k → g174 k = f k := fun k hk => (hqq k hk).trans (hfrx k hk)
                have B : Wb D vwCl (TY cs) L g174 (AL L s.heap.size) s H _ := B
                have hcrq := hcbx.deep hpb (i0 := ib) (by omega) hI6q hApq hd1q hd2q hd3q hd4q
                rw [va_up_self, up_self] at hd4q
                rw [va_twice, up_twice] at hcrq
                refine x_iinc (lv' := [(10, .int (iI (((ss : Int)) + 1))), (9, .int (iI a3)), (0, .ref ((ad 0))), (3, .ref ((ad (15 + pa)))), (4, .ref ((ad (15 + pb)))), (5, .int (iI ((ia : Int)))), (6, .int (iI ((ib : Int)))), (7, .ref ((ad (63 + (5 * pa + ia))))), (8, .ref ((ad (63 + (5 * pb + ib)))))]) hx hb d_RR_order_177 hl (q := 0) rfl rfl (by decide) rfl (fun ls hl => ?_)
                refine lv_goto (tgt := 71) hx hb d_RR_order_180 (by decide) ?_
                exact ih_LA g174 Iq Aq Rq Zq (ss + 1) d3 v3 dnq vnq a3 (by omega) hCq hfrq (fun i h1 h2 h3 h4 => by rw [hI6q i h2 h4]; exact hIxo i h1 h2 h3 h4) (fun q h1 h2 h3 h4 h5 => by rw [hApq q h5]; exact hAxo q h1 h2 h3 h4 h5) (hcax.keep (hApq _ (by omega)) (hApq _ (by omega)) (hI6q _ (by omega) (by omega)) (fun i hi => ⟨hI6q _ (by omega) (by omega), hI6q _ (by omega) (by omega), hApq _ (by omega)⟩)) hcrq hda3 (deep_chain hdb hd4q) (by rcases hd4q with ⟨q1, q2, _⟩ | ⟨q1, q2, _⟩ <;> omega) hak3 hak31 _ _ _ B (lv_sub hl [0, 1, 2, 3, 4, 5, 6, 7, 8] rfl)
              · refine lv_aload_n hx hb d_RR_order_159 rfl (lv_at hl 2 rfl) ?_
                refine lv_aload_n hx hb d_RR_order_160 rfl (lv_at hl 3 rfl) ?_
                refine lv_iload hx hb d_RR_order_161 (lv_at hl 5 rfl) ?_
                refine x_callv B hA (va_runV (As := [.ref ((ad (15 + pa))), .int (iI ((ia : Int)))]) (rest := []) ⟨hx, hb, hml, hown, hts⟩ (c_RR_deepen l D cs _ _ _ ad Qm Ix Ax Rx Zx pa ia ((va_up da ia d3) ia) ((up va ia v3) ia) Na hAd hCx hpa (by omega) hcax.2.2.2.2.1 (hcax.2.2.2.2.2.2.1 _ (by omega)).1 (hcax.2.2.2.2.2.2.1 _ (by omega)).2.1 (hcax.iso (by rw [hAax]; exact hSa) (by omega)) na hcax.2.2.1 ⟨by omega, hcax.2.2.2.1⟩ (by rw [hAax]; exact hSa) (by rw [hAax]; exact hFba) (by rw [hAax]; exact hFPa) hcax.2.2.2.2.2.1) (cwV 2 hts (gw_V w_483 w_485 s_20 w_1 w_486) rfl rfl rfl (by decide +kernel) ⟨by rw [hRf]; exact Nat.le_of_ble_eq_true rfl, by rw [hRl]; exact Nat.le_of_ble_eq_true rfl⟩) ⟨K0.blind, B.recv (hAd.1 _ (by omega)) (hCx.x) rfl, B.pre _⟩ rfl rfl hl.1 rfl (lv_room (Nat.le_of_ble_eq_true rfl)) d_RR_order_163 ⟨by rw [hRc]; omega, by rw [hRs]; omega⟩) (fun g163 H locs hw B => ?_)
                obtain ⟨Iq, Aq, Rq, Zq, hCq, hqq, ⟨dnq, vnq, hd1q, hd2q, hd3q, hd4q⟩, hI6q, hApq⟩ := hw
                have hfrq : ∀ k, Awy ad k → g163 k = f k := fun k hk => (hqq k hk).trans (hfrx k hk)
                have B : Wb D vwCl (TY cs) L g163 (AL L s.heap.size) s H _ := B
                have hcrq := hcax.deep hpa (i0 := ia) (by omega) hI6q hApq hd1q hd2q hd3q hd4q
                rw [va_up_self, up_self] at hd4q
                rw [va_twice, up_twice] at hcrq
                refine lv_goto (tgt := 177) hx hb d_RR_order_166 (by decide) ?_
                refine x_iinc (lv' := [(10, .int (iI (((ss : Int)) + 1))), (9, .int (iI a3)), (0, .ref ((ad 0))), (3, .ref ((ad (15 + pa)))), (4, .ref ((ad (15 + pb)))), (5, .int (iI ((ia : Int)))), (6, .int (iI ((ib : Int)))), (7, .ref ((ad (63 + (5 * pa + ia))))), (8, .ref ((ad (63 + (5 * pb + ib)))))]) hx hb d_RR_order_177 hl (q := 0) rfl rfl (by decide) rfl (fun ls hl => ?_)
                refine lv_goto (tgt := 71) hx hb d_RR_order_180 (by decide) ?_
                exact ih_LA g163 Iq Aq Rq Zq (ss + 1) dnq vnq d2 v2 a3 (by omega) hCq hfrq (fun i h1 h2 h3 h4 => by rw [hI6q i h2 h3]; exact hIxo i h1 h2 h3 h4) (fun q h1 h2 h3 h4 h5 => by rw [hApq q h4]; exact hAxo q h1 h2 h3 h4 h5) hcrq (hcbx.keep (hApq _ (by omega)) (hApq _ (by omega)) (hI6q _ (by omega) (by omega)) (fun i hi => ⟨hI6q _ (by omega) (by omega), hI6q _ (by omega) (by omega), hApq _ (by omega)⟩)) (deep_chain hda3 hd4q) hdb (by rcases hd4q with ⟨q1, q2, _⟩ | ⟨q1, q2, _⟩ <;> omega) hak3 hak31 _ _ _ B (lv_sub hl [0, 1, 2, 3, 4, 5, 6, 7, 8] rfl)
            refine lv_iload hx hb d_RR_order_96 (lv_at hl 2 rfl) ?_
            refine x_if_ne (tgt := 146) hx hb d_RR_order_98 (by decide) (by omega) (fun h98 => ?_) (fun h98 => ?_)
            · exact J146 fw Iw Aw Rw Zw d1 v1 ak hCw hfrw hIwo hAwo hcaw hcbw hda hst hak hak1 (by first | (intro h; omega) | exact fun h => ord_sep hPa hPb hcga hcgb hNa hNb (hak1 (by omega)) (by have := (hca.2.2.2.2.2.2.1 ia hia).2.1.1; exact this) (v1 := v1) (v2 := v2) (by have e := hda.2; rw [h.1] at e; exact e) (by have e := hPl1w.2.2; rw [h.1] at e; exact e) (by have e := hPl2w.2.2; rw [h.2] at e; exact e) (by have e := cmq_iff0.mp (hcaE.symm.trans (show wy = 0 by omega)); rw [h.1, h.2, Nat.min_self, Nat.sub_self, Int.pow_zero, Int.ediv_one, Int.ediv_one] at e; exact e)) _ _ _ B (lv_sub hl [1, 2, 3, 4, 5, 6, 7, 8, 9] rfl)
            · refine lv_aload hx hb d_RR_order_101 (lv_at hl 8 rfl) ?_
              refine x_get (C := RX3) (T := TX3) (N := 3) hx hb hts inX3 hown (B.foc1 (hCw.pl (m := (5 * pa + ia)) (by omega))) (hAd.f1 (by omega)) 0 rfl rfl 1 (by decide) (hts _ w_165) (fun _ h9 => h9) rfl d_RR_order_103 ?_
              rw [hPl1w.1]
              refine lv_aload hx hb d_RR_order_106 (lv_at hl 9 rfl) ?_
              refine x_get (C := RX3) (T := TX3) (N := 3) hx hb hts inX3 hown (B.foc1 (hCw.pl (m := (5 * pb + ib)) (by omega))) (hAd.f1 (by omega)) 0 rfl rfl 1 (by decide) (hts _ w_165) (fun _ h9 => h9) rfl d_RR_order_108 ?_
              rw [hPl2w.1]
              refine x_icmp_ne (tgt := 146) hx hb d_RR_order_111 (by decide) (by omega) (by omega) (fun h111 => ?_) (fun h111 => ?_)
              · exact J146 fw Iw Aw Rw Zw d1 v1 ak hCw hfrw hIwo hAwo hcaw hcbw hda hst hak hak1 (by first | (intro h; omega) | exact fun h => ord_sep hPa hPb hcga hcgb hNa hNb (hak1 (by omega)) (by have := (hca.2.2.2.2.2.2.1 ia hia).2.1.1; exact this) (v1 := v1) (v2 := v2) (by have e := hda.2; rw [h.1] at e; exact e) (by have e := hPl1w.2.2; rw [h.1] at e; exact e) (by have e := hPl2w.2.2; rw [h.2] at e; exact e) (by have e := cmq_iff0.mp (hcaE.symm.trans (show wy = 0 by omega)); rw [h.1, h.2, Nat.min_self, Nat.sub_self, Int.pow_zero, Int.ediv_one, Int.ediv_one] at e; exact e)) _ _ _ B (lv_sub hl [1, 2, 3, 4, 5, 6, 7, 8, 9] rfl)
              · refine x_iconst hx hb d_RR_order_114 ?_
                refine lv_istore (lv' := [(9, .int (iI 1)), (11, .int (iI wy)), (10, .int (iI ((ss : Int)))), (0, .ref ((ad 0))), (3, .ref ((ad (15 + pa)))), (4, .ref ((ad (15 + pb)))), (5, .int (iI ((ia : Int)))), (6, .int (iI ((ib : Int)))), (7, .ref ((ad (63 + (5 * pa + ia))))), (8, .ref ((ad (63 + (5 * pb + ib)))))]) hx hb d_RR_order_115 hl (by decide) rfl (fun ls hl => ?_)
                refine lv_aload_n hx hb d_RR_order_117 rfl (lv_at hl 3 rfl) ?_
                refine lv_aload_n hx hb d_RR_order_118 rfl (lv_at hl 4 rfl) ?_
                refine x_get (C := RX2) (T := TX2) (N := 5) hx hb hts inX2 hown (B.foc1 (hCw.cu (p := pa) (by omega))) (hAd.f1 (by omega)) 0 rfl rfl 1 (by decide) (hts _ w_179) (fun _ h9 => h9) rfl d_RR_order_119 ?_
                refine lv_aload hx hb d_RR_order_122 (lv_at hl 5 rfl) ?_
                refine x_get (C := RX2) (T := TX2) (N := 5) hx hb hts inX2 hown (B.foc1 (hCw.cu (p := pb) (by omega))) (hAd.f1 (by omega)) 0 rfl rfl 1 (by decide) (hts _ w_179) (fun _ h9 => h9) rfl d_RR_order_124 ?_
                refine x_callv B hA (va_runV (As := [.ref ((ad (39 + pa))), .ref ((ad (39 + pb)))]) (rest := []) ⟨hx, hb, hml, hown, hts⟩ (c_RR_common l D cs _ _ _ ad Qm Iw Aw Rw Zw (39 + pa) (40 + pa) (39 + pb) (40 + pb) hAd hCw (Ar.fr hpa) (Ar.fr hpb) (by omega) (by omega) (by omega) (fun j hj => by rw [hAaw]; have := hFba j hj; omega) (fun j hj => by rw [hAbw]; have := hFbb j hj; omega) (by rw [hIwo 0 (by omega) (by omega) (by omega) (by omega)]; exact hhd)) (cwV 2 hts (gw_V w_280 w_282 s_5 w_1 w_283) rfl rfl rfl (by decide +kernel) ⟨by rw [hRf]; exact Nat.le_of_ble_eq_true rfl, by rw [hRl]; exact Nat.le_of_ble_eq_true rfl⟩) ⟨K0.blind, B.recv (hAd.1 _ (by omega)) (hCw.x) rfl, B.pre _⟩ rfl rfl hl.1 rfl (lv_room (Nat.le_of_ble_eq_true rfl)) d_RR_order_127 ⟨by rw [hRc]; omega, by rw [hRs]; omega⟩) (fun g127 H locs hw B => ?_)
                obtain ⟨I_127, A_127, R_127, Z_127, hC_127, hq_127, hGc, hIc, hAc⟩ := hw
                have hfr_127 : ∀ k, Awy ad k → g127 k = f k := fun k hk => (hq_127 k hk).trans (hfrw k hk)
                have B : Wb D vwCl (TY cs) L g127 (AL L s.heap.size) s H _ := B
                rw [hAaw, hAbw] at hGc
                have hd12 : d1 = d2 := by omega
                have hgg : cg (A_127 2) 0 6 = 1 ∧ Dv (il (A_127 2) 6) (il (Af (40 + pa)) 6) ∧ Dv (il (A_127 2) 6) (il (Af (40 + pb)) 6) := by rcases hGc with ⟨h1, _⟩ | ⟨h1, _, _, h4, h5⟩; obtain ⟨j, hj, hn⟩ := hSa.1; exact absurd (h1 j hj) hn; exact ⟨h1, h4, h5⟩
                obtain ⟨⟨h0a, hea⟩, hPGa⟩ := hPa.dv hgg.1 hgg.2.1
                obtain ⟨⟨h0b, heb⟩, _⟩ := hPb.dv hgg.1 hgg.2.2
                obtain ⟨M, hMB⟩ := NB.ex hPGa.2.2.1.1
                have hGb49 : ∀ j, j < 6 → -49000 ≤ A_127 2 j ∧ A_127 2 j ≤ 49000 := fac_all hPGa.1 hPGa.2.1 hPGa.2.2.2.choose_spec
                have hAa2 : A_127 (40 + pa) = Af (40 + pa) := (hAc _ (by omega) (by omega) (by omega)).trans hAaw
                have hca2 : Crv I_127 A_127 pa na Na (va_up da ia d1) (up va ia v1) := hcaw.keep (hAc _ (by omega) (by omega) (by omega)) (hAc _ (by omega) (by omega) (by omega)) (hIc _ (by omega)) (fun i hi => ⟨hIc _ (by omega), hIc _ (by omega), hAc _ (by omega) (by omega) (by omega)⟩)
                have hcb2 : Crv I_127 A_127 pb nb Nb (va_up db ib d2) (up vb ib v2) := hcbw.keep (hAc _ (by omega) (by omega) (by omega)) (hAc _ (by omega) (by omega) (by omega)) (hIc _ (by omega)) (fun i hi => ⟨hIc _ (by omega), hIc _ (by omega), hAc _ (by omega) (by omega) (by omega)⟩)
                have hVa2 : ∀ j, j < 6 → -1000 ≤ A_127 (20 + pa) j ∧ A_127 (20 + pa) j ≤ 1000 := by rw [hAc _ (by omega) (by omega) (by omega), hAwo _ (by omega) (by omega) (by omega) (by omega) (by omega)]; exact hVa
                refine lv_aload_n hx hb d_RR_order_130 rfl (lv_at hl 3 rfl) ?_
                refine lv_aload_n hx hb d_RR_order_131 rfl (lv_at hl 4 rfl) ?_
                refine lv_iload hx hb d_RR_order_132 (lv_at hl 6 rfl) ?_
                refine lv_aload_n hx hb d_RR_order_134 rfl (lv_at hl 3 rfl) ?_
                refine x_get (C := RX6) (T := TX6) (N := 14) hx hb hts inX6 hown (B.foc1 (hC_127.x)) (hAd.f1 (by omega)) 0 rfl rfl 7 (by decide) (hts _ w_204) (fun _ h9 => h9) rfl d_RR_order_135 ?_
                refine x_calli B hA (va_runV (As := [.ref ((ad (15 + pa))), .int (iI ((ia : Int))), .ref ((ad 10))]) (rest := []) ⟨hx, hb, hml, hown, hts⟩ (c_RR_vanishes l D cs _ _ _ ad Qm I_127 A_127 R_127 Z_127 pa na ia Na (va_up da ia d1) (up va ia v1) 10 2 1 h0a M hAd hC_127 hpa hia hVa2 hca2 Ar.sh (fun j hj => by have := hGb49 j hj; omega) (by decide) (fun x => by rw [hAa2, ← hea x, show ((1 : Int) : Rat) = 1 from rfl]; grind) hMB) (cwV 3 hts (gw_V w_469 w_471 s_19 w_1 w_472) rfl rfl rfl (by decide +kernel) ⟨by rw [hRf]; exact Nat.le_of_ble_eq_true rfl, by rw [hRl]; exact Nat.le_of_ble_eq_true rfl⟩) ⟨K0.blind, B.recv (hAd.1 _ (by omega)) (hC_127.x) rfl, B.pre _⟩ rfl rfl hl.1 rfl (lv_room (Nat.le_of_ble_eq_true rfl)) d_RR_order_138 ⟨by rw [hRc]; omega, by rw [hRs]; omega⟩) (fun r138 g138 H locs hw B => ?_)
                obtain ⟨Iv, Av, Rv, Zv, hCv, hqv, ⟨vr, rfl, hvr⟩, ⟨dv, vv, hcrv, hdvd, hvvd⟩, hIv1, hAv1⟩ := hw
                have hfrv : ∀ k, Awy ad k → g138 k = f k := fun k hk => (hqv k hk).trans (hfr_127 k hk)
                have B : Wb D vwCl (TY cs) L g138 (AL L s.heap.size) s H _ := B
                rw [va_up_self, up_self] at hvr hvvd
                rw [va_up_self] at hdvd
                rw [va_twice, up_twice] at hcrv
                have hvr01 : vr = 0 ∨ vr = 1 := by rcases hvr with ⟨h, _⟩ | ⟨h, _⟩; exact Or.inr h; exact Or.inl h
                have hisoA := hcaw.iso (by rw [hAaw]; exact hSa) hia
                rw [va_up_self, up_self] at hisoA
                have hisoB := hcbw.iso (by rw [hAbw]; exact hSb) hib
                rw [va_up_self, up_self] at hisoB
                have hv12 : v1 = v2 := by have e := cmq_iff0.mp (hcaE.symm.trans (show wy = 0 by omega)); rw [← hd12, Nat.min_self, Nat.sub_self, Int.pow_zero, Int.ediv_one, Int.ediv_one] at e; exact e
                refine x_if_eq (tgt := 146) hx hb d_RR_order_141 (by decide) (by omega) (fun h141 => ?_) (fun h141 => ?_)
                · have hj0 : M (Pt (v1 + 1) d1) - M (Pt v1 d1) = 0 := by rcases hvr with ⟨h, _⟩ | ⟨_, h⟩; omega; exact h
                  have hiso0 := hca.iso hSa hia
                  obtain ⟨_, hle1, hle2⟩ := hiso0.in hNa hSa (w := v1) (k := d1 - da ia) (by rw [show da ia + (d1 - da ia) = d1 by omega]; exact hisoA.cell) hda.2
                  rw [show da ia + (d1 - da ia) = d1 by omega] at hle1 hle2
                  obtain ⟨_, hjmp⟩ := jump_k hSa (show (1 : Int) ≠ 0 by decide) (g := A_127 2) (h := h0a) (fun x => by rw [← hea x, show ((1 : Int) : Rat) = 1 from rfl]; grind) hNa hMB
                  have hj1 := (hjmp _ _ _ _ hle1 (Rat.le_of_lt (Pt_lt (by omega))) hle2 (by rw [hiso0.2.1, hiso0.2.2]; omega) (by rw [hisoA.2.1, hisoA.2.2]; omega)).1
                  have hAsk : Ask (Af (40 + pa)) (Af (40 + pb)) (va ia) (da ia) := ⟨A_127 2, M, hGc, hMB, hj1.trans hj0⟩
                  have hIvo2 : ∀ i, i ≠ 3 → i ≠ 6 → i ≠ 200 + (5 * pa + ia) → i ≠ 200 + (5 * pb + ib) → Iv i = If i := fun i h1 h2 h3 h4 => by rw [hIv1 i h2 h3, hIc i h1]; exact hIwo i h1 h2 h3 h4
                  have hAvo2 : ∀ q, q ≠ 0 → q ≠ 2 → q ≠ 7 → q ≠ 100 + (5 * pa + ia) → q ≠ 100 + (5 * pb + ib) → Av q = Af q := fun q h1 h2 h3 h4 h5 => by rw [hAv1 q h4, hAc q h1 h2 h3]; exact hAwo q h1 h2 h3 h4 h5
                  have hcav2 := hcrv
                  have hcbv2 : Crv Iv Av pb nb Nb (va_up db ib d2) (up vb ib v2) := hcb2.keep (hAv1 _ (by omega)) (hAv1 _ (by omega)) (hIv1 _ (by omega) (by omega)) (fun i hi => ⟨hIv1 _ (by omega) (by omega), hIv1 _ (by omega) (by omega), hAv1 _ (by omega)⟩)
                  have hdv2 : da ia ≤ dv ∧ vv / 2 ^ (dv - da ia) = va ia := ⟨by omega, by rw [show dv - da ia = (dv - d1) + (d1 - da ia) by omega, div_pow_add, hvvd]; exact hda.2⟩
                  have hdv8 : dv ≤ 248 := by have h9 := (hcrv.2.2.2.2.2.2.1 ia hia).2.1.1; rw [va_up_self] at h9; exact h9
                  exact J146 g138 Iv Av Rv Zv dv vv 1 hCv hfrv hIvo2 hAvo2 hcav2 hcbv2 hdv2 (by have := hdvd; omega) (Or.inr rfl) (fun _ => hAsk) (fun h9 => ord_sep hPa hPb hcga hcgb hNa hNb hAsk (by have := (hca.2.2.2.2.2.2.1 ia hia).2.1.1; exact this) (v1 := v1) (v2 := v2) (by have e := hda.2; rw [show d1 = 248 by omega] at e; exact e) (by have e := hPl1w.2.2; rw [show d1 = 248 by omega] at e; exact e) (by have e := hPl2w.2.2; rw [h9.2] at e; exact e) (by have e := cmq_iff0.mp (hcaE.symm.trans (show wy = 0 by omega)); rw [show d1 = 248 by omega, h9.2, Nat.min_self, Nat.sub_self, Int.pow_zero, Int.ediv_one, Int.ediv_one] at e; exact e)) _ _ _ B (lv_sub hl [2, 0, 3, 4, 5, 6, 7, 8, 9] rfl)
                · refine x_iconst hx hb d_RR_order_144 ?_
                  subst hQ hav
                  exact x_iret hx hb hr hlocks B d_RR_order_145 (⟨Iv, Av, Rv, Zv, hCv, hfrv, ⟨0, rfl, fun z1 z2 hz1 hz2 => (cmq_00 (ord_eq hNa hSa hNb hSb hea heb hMB hd18 hisoA (by rw [hv12, hd12]; exact hisoB) (by rcases hvr with ⟨_, h⟩ | ⟨h, _⟩; exact h; omega) hz1 hz2)).symm, dv, vv, d2, v2, hcrv, hcb2.keep (hAv1 _ (by omega)) (hAv1 _ (by omega)) (hIv1 _ (by omega) (by omega)) (fun i hi => ⟨hIv1 _ (by omega) (by omega), hIv1 _ (by omega) (by omega), hAv1 _ (by omega)⟩), ⟨by omega, by rw [show dv - da ia = (dv - d1) + (d1 - da ia) by omega, div_pow_add, hvvd]; exact hda.2⟩, hdb, fun h => absurd rfl h⟩, fun i h1 h2 h3 h4 => by rw [hIv1 i h2 h3, hIc i h1]; exact hIwo i h1 h2 h3 h4, fun q h1 h2 h3 h4 h5 => by rw [hAv1 q h4, hAc q h1 h2 h3]; exact hAwo q h1 h2 h3 h4 h5⟩)
          · refine lv_iload hx hb d_RR_order_93 (lv_at hl 0 rfl) ?_
            subst hQ hav
            exact x_iret hx hb hr hlocks B d_RR_order_95 (⟨Iw, Aw, Rw, Zw, hCw, hfrw, ⟨wy, rfl, fun z1 z2 hz1 hz2 => by rw [hcaE]; exact ord_ne hNa hSa hNb hSb hz1 hz2 hd18 hd28 hPl1w.2.2 hPl2w.2.2 (by rw [← hcaE]; omega), d1, v1, d2, v2, hcaw, hcbw, hda, hdb, fun _ e => by have := cmq_iff0.mpr e; rw [← hcaE] at this; omega⟩, hIwo, hAwo⟩)
    exact LA _ f If Af Rf Zf 0 (da ia) (va ia) (db ib) (vb ib) 0 (Nat.lt_succ_self _) hC hfr (fun i _ _ _ _ => rfl) (fun q _ _ _ _ _ => rfl) (by rw [va_same, up_same]; exact hca) (by rw [va_same, up_same]; exact hcb) (⟨Nat.le_refl _, by rw [Nat.sub_self, Int.pow_zero, Int.ediv_one]⟩) (⟨Nat.le_refl _, by rw [Nat.sub_self, Int.pow_zero, Int.ediv_one]⟩) (Nat.zero_le _) (Or.inl rfl) (fun h => by omega) _ _ _ B (lv_sub hl [0, 1, 8, 7, 6, 5, 4, 3, 2] rfl)
  · exfalso; omega
