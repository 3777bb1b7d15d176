theorem d_Ratio_findDivisor_0 : decode prog_6_method_3_code 0 = .ok (.aload_n 0, 1) := by decide +kernel
theorem d_Ratio_findDivisor_1 : decode prog_6_method_3_code 1 = .ok (.getfield 26, 3) := by decide +kernel
theorem d_Ratio_findDivisor_4 : decode prog_6_method_3_code 4 = .ok (.aload_n 0, 1) := by decide +kernel
theorem d_Ratio_findDivisor_5 : decode prog_6_method_3_code 5 = .ok (.getfield 10, 3) := by decide +kernel
theorem d_Ratio_findDivisor_8 : decode prog_6_method_3_code 8 = .ok (.invokevirtual 60, 3) := by decide +kernel
theorem d_Ratio_findDivisor_11 : decode prog_6_method_3_code 11 = .ok (.aload_n 0, 1) := by decide +kernel
theorem d_Ratio_findDivisor_12 : decode prog_6_method_3_code 12 = .ok (.getfield 26, 3) := by decide +kernel
theorem d_Ratio_findDivisor_15 : decode prog_6_method_3_code 15 = .ok (.iconst 1, 1) := by decide +kernel
theorem d_Ratio_findDivisor_16 : decode prog_6_method_3_code 16 = .ok (.putfield 35, 3) := by decide +kernel
theorem d_Ratio_findDivisor_19 : decode prog_6_method_3_code 19 = .ok (.aload_n 0, 1) := by decide +kernel
theorem d_Ratio_findDivisor_20 : decode prog_6_method_3_code 20 = .ok (.getfield 26, 3) := by decide +kernel
theorem d_Ratio_findDivisor_23 : decode prog_6_method_3_code 23 = .ok (.aload_n 0, 1) := by decide +kernel
theorem d_Ratio_findDivisor_24 : decode prog_6_method_3_code 24 = .ok (.getfield 26, 3) := by decide +kernel
theorem d_Ratio_findDivisor_27 : decode prog_6_method_3_code 27 = .ok (.invokevirtual 39, 3) := by decide +kernel
theorem d_Ratio_findDivisor_30 : decode prog_6_method_3_code 30 = .ok (.invokevirtual 49, 3) := by decide +kernel
theorem d_Ratio_findDivisor_33 : decode prog_6_method_3_code 33 = .ok (.aload_n 0, 1) := by decide +kernel
theorem d_Ratio_findDivisor_34 : decode prog_6_method_3_code 34 = .ok (.getfield 29, 3) := by decide +kernel
theorem d_Ratio_findDivisor_37 : decode prog_6_method_3_code 37 = .ok (.aload_n 0, 1) := by decide +kernel
theorem d_Ratio_findDivisor_38 : decode prog_6_method_3_code 38 = .ok (.getfield 16, 3) := by decide +kernel
theorem d_Ratio_findDivisor_41 : decode prog_6_method_3_code 41 = .ok (.invokevirtual 60, 3) := by decide +kernel
theorem d_Ratio_findDivisor_44 : decode prog_6_method_3_code 44 = .ok (.aload_n 0, 1) := by decide +kernel
theorem d_Ratio_findDivisor_45 : decode prog_6_method_3_code 45 = .ok (.getfield 29, 3) := by decide +kernel
theorem d_Ratio_findDivisor_48 : decode prog_6_method_3_code 48 = .ok (.aload_n 0, 1) := by decide +kernel
theorem d_Ratio_findDivisor_49 : decode prog_6_method_3_code 49 = .ok (.getfield 29, 3) := by decide +kernel
theorem d_Ratio_findDivisor_52 : decode prog_6_method_3_code 52 = .ok (.invokevirtual 39, 3) := by decide +kernel
theorem d_Ratio_findDivisor_55 : decode prog_6_method_3_code 55 = .ok (.invokevirtual 49, 3) := by decide +kernel
theorem d_Ratio_findDivisor_58 : decode prog_6_method_3_code 58 = .ok (.iconst 0, 1) := by decide +kernel
theorem d_Ratio_findDivisor_59 : decode prog_6_method_3_code 59 = .ok (.istore_n 1, 1) := by decide +kernel
theorem d_Ratio_findDivisor_60 : decode prog_6_method_3_code 60 = .ok (.iload_n 1, 1) := by decide +kernel
theorem d_Ratio_findDivisor_61 : decode prog_6_method_3_code 61 = .ok (.sipush 2976, 3) := by decide +kernel
theorem d_Ratio_findDivisor_64 : decode prog_6_method_3_code 64 = .ok (.if_icmp .gt 75, 3) := by decide +kernel
theorem d_Ratio_findDivisor_67 : decode prog_6_method_3_code 67 = .ok (.aload_n 0, 1) := by decide +kernel
theorem d_Ratio_findDivisor_68 : decode prog_6_method_3_code 68 = .ok (.getfield 26, 3) := by decide +kernel
theorem d_Ratio_findDivisor_71 : decode prog_6_method_3_code 71 = .ok (.getfield 35, 3) := by decide +kernel
theorem d_Ratio_findDivisor_74 : decode prog_6_method_3_code 74 = .ok (.ifCond .eq 65, 3) := by decide +kernel
theorem d_Ratio_findDivisor_77 : decode prog_6_method_3_code 77 = .ok (.aload_n 0, 1) := by decide +kernel
theorem d_Ratio_findDivisor_78 : decode prog_6_method_3_code 78 = .ok (.getfield 26, 3) := by decide +kernel
theorem d_Ratio_findDivisor_81 : decode prog_6_method_3_code 81 = .ok (.aload_n 0, 1) := by decide +kernel
theorem d_Ratio_findDivisor_82 : decode prog_6_method_3_code 82 = .ok (.getfield 29, 3) := by decide +kernel
theorem d_Ratio_findDivisor_85 : decode prog_6_method_3_code 85 = .ok (.iconst (-1), 1) := by decide +kernel
theorem d_Ratio_findDivisor_86 : decode prog_6_method_3_code 86 = .ok (.invokevirtual 64, 3) := by decide +kernel
theorem d_Ratio_findDivisor_89 : decode prog_6_method_3_code 89 = .ok (.aload_n 0, 1) := by decide +kernel
theorem d_Ratio_findDivisor_90 : decode prog_6_method_3_code 90 = .ok (.getfield 26, 3) := by decide +kernel
theorem d_Ratio_findDivisor_93 : decode prog_6_method_3_code 93 = .ok (.getfield 35, 3) := by decide +kernel
theorem d_Ratio_findDivisor_96 : decode prog_6_method_3_code 96 = .ok (.ifCond .ge 23, 3) := by decide +kernel
theorem d_Ratio_findDivisor_99 : decode prog_6_method_3_code 99 = .ok (.aload_n 0, 1) := by decide +kernel
theorem d_Ratio_findDivisor_100 : decode prog_6_method_3_code 100 = .ok (.getfield 29, 3) := by decide +kernel
theorem d_Ratio_findDivisor_103 : decode prog_6_method_3_code 103 = .ok (.aload_n 0, 1) := by decide +kernel
theorem d_Ratio_findDivisor_104 : decode prog_6_method_3_code 104 = .ok (.getfield 26, 3) := by decide +kernel
theorem d_Ratio_findDivisor_107 : decode prog_6_method_3_code 107 = .ok (.iconst 1, 1) := by decide +kernel
theorem d_Ratio_findDivisor_108 : decode prog_6_method_3_code 108 = .ok (.invokevirtual 64, 3) := by decide +kernel
theorem d_Ratio_findDivisor_111 : decode prog_6_method_3_code 111 = .ok (.aload_n 0, 1) := by decide +kernel
theorem d_Ratio_findDivisor_112 : decode prog_6_method_3_code 112 = .ok (.getfield 26, 3) := by decide +kernel
theorem d_Ratio_findDivisor_115 : decode prog_6_method_3_code 115 = .ok (.iconst 1, 1) := by decide +kernel
theorem d_Ratio_findDivisor_116 : decode prog_6_method_3_code 116 = .ok (.putfield 35, 3) := by decide +kernel
theorem d_Ratio_findDivisor_119 : decode prog_6_method_3_code 119 = .ok (.aload_n 0, 1) := by decide +kernel
theorem d_Ratio_findDivisor_120 : decode prog_6_method_3_code 120 = .ok (.getfield 26, 3) := by decide +kernel
theorem d_Ratio_findDivisor_123 : decode prog_6_method_3_code 123 = .ok (.aload_n 0, 1) := by decide +kernel
theorem d_Ratio_findDivisor_124 : decode prog_6_method_3_code 124 = .ok (.getfield 26, 3) := by decide +kernel
theorem d_Ratio_findDivisor_127 : decode prog_6_method_3_code 127 = .ok (.invokevirtual 39, 3) := by decide +kernel
theorem d_Ratio_findDivisor_130 : decode prog_6_method_3_code 130 = .ok (.invokevirtual 49, 3) := by decide +kernel
theorem d_Ratio_findDivisor_133 : decode prog_6_method_3_code 133 = .ok (.iinc 1 1, 3) := by decide +kernel
theorem d_Ratio_findDivisor_136 : decode prog_6_method_3_code 136 = .ok (.goto (-76), 3) := by decide +kernel
theorem d_Ratio_findDivisor_139 : decode prog_6_method_3_code 139 = .ok (.return_, 1) := by decide +kernel
set_option maxHeartbeats 8000000 in
set_option maxRecDepth 100000 in
theorem c_Ra_findDivisor (l : Launch) (D : va_G) (cs : Nat → ClassId) (L : List Nat) (f : Nat → va_E) (sz : Nat) (ad Qm : Nat → Nat) (If : Nat → Int) (Af : Nat → Nat → Int) (Rf : Nat → Nat) (Zf : Nat → Int)  (hAd : AdOk L ad Qm) (hC : CSt cs ad Qm f If Af Rf Zf) (hU : Zf (ad 239) ≠ 0) (hL : 0 < Zf (ad 240)) (hU2 : ((Zf (ad 239)).natAbs : Int) < 2 ^ 240) (hL2 : Zf (ad 240) < 2 ^ 240) : Met l (⟨"RealRoots$Ratio", "findDivisor", "()V"⟩ : MethodName) (.code (⟨"RealRoots$Ratio", "findDivisor", "()V"⟩ : MethodName) prog_6_method_3_code 2 (Option.none : Option Jvm.ClassFile.FieldType) :: gw) ({ frames := 2, cells := 0, slots := 0, locals := 60 }) (va_Pc [.ref ((ad 7))] (K0 D vwCl (TY cs) L f sz)) (va_Qv (fun (g : Nat → va_E) => ∃ (I' : Nat → Int) (A' : Nat → Nat → Int) (R' : Nat → Nat) (Z' : Nat → Int), CSt cs ad Qm g I' A' R' Z' ∧ (∀ k, Awy ad k → g k = f k) ∧ (∀ i, I' i = If i) ∧ (∀ q, A' q = Af q) ∧ (∃ t1 o1 t2 o2 : Nat, (Zf (ad 239)).natAbs = 2 ^ t1 * o1 ∧ o1 % 2 = 1 ∧ Zf (ad 240) = ((2 ^ t2 * o2 : Nat) : Int) ∧ o2 % 2 = 1 ∧ Z' (ad 242) = ((Nat.gcd o1 o2 : Nat) : Int)) ∧ ∀ z, z ≠ ad 241 → z ≠ ad 242 → Z' z = Zf z) (K1 D vwCl (TY cs) (AL L sz) L) (AL L sz)) 0 0 (AL L sz) := by
  refine Met.ofW (cc := prog_6_method_3_code) (maxL := 2) (ret := (Option.none : Option Jvm.ClassFile.FieldType)) (by decide) rfl ?_
  intro p e s m args below meth c s₁ Bd hml hv
  obtain ⟨rfl, hk0⟩ := hv
  obtain ⟨hsz, B⟩ := hk0.start
  subst hsz
  have hx := Bd.exec
  have hb := Bd.bytes
  have hr := Bd.returns
  have hlocks := Bd.notSynchronized
  have hts0 := atoms_spec Bd.pre
  have hown : s.vm.findClass RX4 = some m.cls := findClass_of_methodNamed Bd.named
  have hA : ∀ q, s.heap.size ≤ q → AL L s.heap.size q := fun _ h => Or.inr h
  have hl := lv_entry ([.ref ((ad 7))]) (n := 2) (Nat.le_of_ble_eq_true rfl)
  rw [lg_entry_eq]
  generalize (lg_sl ([.ref ((ad 7))]) ++ List.replicate (2 - (lg_sl ([.ref ((ad 7))])).length) Slot.unset).toArray = ls at hl ⊢
  refine absQ (fun Q R av hQ hR hav => ?_)
  have hts : ∀ w ∈ gw, w.before av s = true := by rw [hav]; exact fun w h => hts0 w (List.mem_cons_of_mem _ h)
  have hRf : R.frames = 2 := by rw [hR]; rfl
  have hRl : R.locals = 60 := by rw [hR]; rfl
  have hRc : R.cells = 0 := by rw [hR]; rfl
  have hRs : R.slots = 0 := by rw [hR]; rfl
  clear hR hts0 Bd
  have hl : lv_has ls 2 [(0, .ref ((ad 7)))] := hl
  have hfr : ∀ k, Awy ad k → f k = f k := fun _ _ => rfl
  refine lv_aload_n hx hb d_Ratio_findDivisor_0 rfl (lv_at hl 0 rfl) ?_
  refine x_get (C := RX4) (T := TX4) (N := 7) hx hb hts inX4 hown (B.foc1 (hC.ra)) (hAd.f1 (by omega)) 0 rfl rfl 4 (by decide) (hts _ w_130) (fun _ h9 => h9) rfl d_Ratio_findDivisor_1 ?_
  refine lv_aload_n hx hb d_Ratio_findDivisor_4 rfl (lv_at hl 0 rfl) ?_
  refine x_get (C := RX4) (T := TX4) (N := 7) hx hb hts inX4 hown (B.foc1 (hC.ra)) (hAd.f1 (by omega)) 0 rfl rfl 0 (by decide) (hts _ w_122) (fun _ h9 => h9) rfl d_Ratio_findDivisor_5 ?_
  obtain ⟨sdb80, nnb80, lmb80, c1b80, c2b80, c3b80⟩ := hC.2.2.1 (ad 241) (Bg.pl (by decide))
  obtain ⟨sdb81, nnb81, lmb81, c1b81, c2b81, c3b81⟩ := hC.2.2.1 (ad 239) (Bg.pl (by decide))
  refine x_callv B hA (va_runV (As := [.ref ((ad 239))]) (rest := []) ⟨hx, hb, hml, hown, hts⟩ (c_Big_copy l D cs _ _ _ (ad 241) (Qm (ad 241)) sdb80 nnb80 lmb80 (ad 239) (Qm (ad 239)) sdb81 nnb81 lmb81 (Zf (ad 239)) (hAd.sp.fc2 (Bg.pl (by decide)) (Bg.pl (by decide)) (hAd.ne (by decide) (by decide) (by decide))) c1b80 c2b80 c1b81 c2b81 c3b81) (cwV 1 hts (gw_V w_661 w_303 w_304 w_3 w_305) rfl rfl rfl (by decide +kernel) ⟨by rw [hRf]; exact Nat.le_of_ble_eq_true rfl, by rw [hRl]; exact Nat.le_of_ble_eq_true rfl⟩) ⟨K0.blind, B.recv (hAd.1 _ (by omega)) (c1b80) rfl, B.pre _⟩ rfl rfl hl.1 rfl (lv_room (Nat.le_of_ble_eq_true rfl)) d_Ratio_findDivisor_8 ⟨by rw [hRc]; omega, by rw [hRs]; omega⟩) (fun g8 H locs hw B => ?_)
  obtain ⟨s1_8, n1_8, l1_8, hz_8, hg_8⟩ := hw
  obtain ⟨hC_8, hq_8⟩ := CSt.big1 hAd hC (Bg.pl (by decide)) hz_8 hg_8
  obtain ⟨Z_8, hZ_8⟩ : ∃ Z_8, Z_8 = up Zf (ad 241) (Zf (ad 239)) := ⟨_, rfl⟩
  rw [← hZ_8] at hC_8
  have hfr_8 : ∀ k, Awy ad k → g8 k = f k := fun k hk => (hq_8 k hk).trans (hfr k hk)
  have B : Wb D vwCl (TY cs) L g8 (AL L s.heap.size) s H _ := B
  refine lv_aload_n hx hb d_Ratio_findDivisor_11 rfl (lv_at hl 0 rfl) ?_
  refine x_get (C := RX4) (T := TX4) (N := 7) hx hb hts inX4 hown (B.foc1 (hC_8.ra)) (hAd.f1 (by omega)) 0 rfl rfl 4 (by decide) (hts _ w_130) (fun _ h9 => h9) rfl d_Ratio_findDivisor_12 ?_
  refine x_iconst hx hb d_Ratio_findDivisor_15 ?_
  obtain ⟨sd_16, nn_16, lm_16, c1_16, c2_16, c3_16⟩ := hC_8.2.2.1 (ad 241) (Bg.pl (by decide))
  refine x_put (C := RX0) (T := TX0) (N := 3) hx hb hts inX0 tyX0 tyX0_ok nmX0 hown (B.foc1 c1_16) (hAd.f1 (by omega)) 0 rfl rfl 0 (by decide) (hts _ w_39) (fun _ h9 => h9) rfl (tyX0_ok 0 (by decide)) rfl rfl (Nat.le_of_ble_eq_true rfl) d_Ratio_findDivisor_16 (fun H locs B => ?_)
  have B : Wb D vwCl (TY cs) L (mw g8 [((ad 241), .inr (0, [.int (iI (1)), .int (iI ((nn_16 : Int))), .ref (Qm (ad 241))]))]) (AL L s.heap.size) s H _ := B
  obtain ⟨f_16, hf_16⟩ : ∃ f_16, f_16 = mw g8 [((ad 241), .inr (0, [.int (iI (1)), .int (iI ((nn_16 : Int))), .ref (Qm (ad 241))]))] := ⟨_, rfl⟩
  rw [← hf_16] at B
  obtain ⟨hC_16, hq_16⟩ := CSt.side1 hAd hC_8 (Bg.pl (by decide)) c2_16 (c3_16.abs1 (by rw [hZ_8, up_self]; exact hU)) hf_16
  obtain ⟨Z_16, hZ_16⟩ : ∃ Z_16, Z_16 = up Z_8 (ad 241) (((Z_8 (ad 241)).natAbs : Int)) := ⟨_, rfl⟩
  rw [← hZ_16] at hC_16
  have hfr_16 : ∀ k, Awy ad k → f_16 k = f k := fun k hk => (hq_16 k hk).trans (hfr_8 k hk)
  refine lv_aload_n hx hb d_Ratio_findDivisor_19 rfl (lv_at hl 0 rfl) ?_
  refine x_get (C := RX4) (T := TX4) (N := 7) hx hb hts inX4 hown (B.foc1 (hC_16.ra)) (hAd.f1 (by omega)) 0 rfl rfl 4 (by decide) (hts _ w_130) (fun _ h9 => h9) rfl d_Ratio_findDivisor_20 ?_
  refine lv_aload_n hx hb d_Ratio_findDivisor_23 rfl (lv_at hl 0 rfl) ?_
  refine x_get (C := RX4) (T := TX4) (N := 7) hx hb hts inX4 hown (B.foc1 (hC_16.ra)) (hAd.f1 (by omega)) 0 rfl rfl 4 (by decide) (hts _ w_130) (fun _ h9 => h9) rfl d_Ratio_findDivisor_24 ?_
  obtain ⟨sdb270, nnb270, lmb270, c1b270, c2b270, c3b270⟩ := hC_16.2.2.1 (ad 241) (Bg.pl (by decide))
  refine x_calli B hA (va_runV (As := []) (rest := [.ref ((ad 241))]) ⟨hx, hb, hml, hown, hts⟩ (c_Big_twos l D cs _ _ _ (ad 241) (Qm (ad 241)) sdb270 nnb270 lmb270 (Z_16 (ad 241)) (hAd.sp.fc1 (Bg.pl (by decide))) c1b270 c2b270 c3b270) (cwV 0 hts (gw_V w_654 w_326 w_327 w_3 w_328) rfl rfl rfl (by decide +kernel) ⟨by rw [hRf]; exact Nat.le_of_ble_eq_true rfl, by rw [hRl]; exact Nat.le_of_ble_eq_true rfl⟩) ⟨K0.blind, B.recv (hAd.1 _ (by omega)) (c1b270) rfl, B.pre _⟩ rfl rfl hl.1 rfl (lv_room (Nat.le_of_ble_eq_true rfl)) d_Ratio_findDivisor_27 ⟨by rw [hRc]; omega, by rw [hRs]; omega⟩) (fun r27 g27 H locs hw B => ?_)
  obtain ⟨t1, rfl, ht1m, ht10, ht1o, hgf⟩ := hw
  rw [hgf] at B
  obtain ⟨sdb300, nnb300, lmb300, c1b300, c2b300, c3b300⟩ := hC_16.2.2.1 (ad 241) (Bg.pl (by decide))
  refine x_callv B hA (va_runV (As := [.int (iI ((t1 : Int)))]) (rest := []) ⟨hx, hb, hml, hown, hts⟩ (c_Big_shiftDown l D cs _ _ _ (ad 241) (Qm (ad 241)) sdb300 nnb300 lmb300 (Z_16 (ad 241)) t1 (hAd.sp.fc1 (Bg.pl (by decide))) c1b300 c2b300 c3b300 ht1m) (cwV 1 hts (gw_V w_656 w_330 w_331 w_3 w_332) rfl rfl rfl (by decide +kernel) ⟨by rw [hRf]; exact Nat.le_of_ble_eq_true rfl, by rw [hRl]; exact Nat.le_of_ble_eq_true rfl⟩) ⟨K0.blind, B.recv (hAd.1 _ (by omega)) (c1b300) rfl, B.pre _⟩ rfl rfl hl.1 rfl (lv_room (Nat.le_of_ble_eq_true rfl)) d_Ratio_findDivisor_30 ⟨by rw [hRc]; omega, by rw [hRs]; omega⟩) (fun g30 H locs hw B => ?_)
  obtain ⟨s1_30, n1_30, l1_30, hz_30, hg_30⟩ := hw
  obtain ⟨hC_30, hq_30⟩ := CSt.big1 hAd hC_16 (Bg.pl (by decide)) hz_30 hg_30
  obtain ⟨Z_30, hZ_30⟩ : ∃ Z_30, Z_30 = up Z_16 (ad 241) ((Z_16 (ad 241)).tdiv (2 ^ t1)) := ⟨_, rfl⟩
  rw [← hZ_30] at hC_30
  have hfr_30 : ∀ k, Awy ad k → g30 k = f k := fun k hk => (hq_30 k hk).trans (hfr_16 k hk)
  have B : Wb D vwCl (TY cs) L g30 (AL L s.heap.size) s H _ := B
  have hz1 : Z_16 (ad 241) = ((Zf (ad 239)).natAbs : Int) := by rw [hZ_16, up_self, hZ_8, up_self]
  obtain ⟨oa, hoa, hoa0, hoa1, hoae⟩ := odd_part (z := Z_16 (ad 241)) (t := t1) (by rw [hz1]; omega) ht10 ht1o
  have hz2 : Z_30 (ad 241) = (oa : Int) := by rw [hZ_30, up_self]; exact hoa
  have hoaod := hoa1 (by rw [hz1]; omega)
  clear ht10 ht1o hoa0 hoa1
  refine lv_aload_n hx hb d_Ratio_findDivisor_33 rfl (lv_at hl 0 rfl) ?_
  refine x_get (C := RX4) (T := TX4) (N := 7) hx hb hts inX4 hown (B.foc1 (hC_30.ra)) (hAd.f1 (by omega)) 0 rfl rfl 5 (by decide) (hts _ w_131) (fun _ h9 => h9) rfl d_Ratio_findDivisor_34 ?_
  refine lv_aload_n hx hb d_Ratio_findDivisor_37 rfl (lv_at hl 0 rfl) ?_
  refine x_get (C := RX4) (T := TX4) (N := 7) hx hb hts inX4 hown (B.foc1 (hC_30.ra)) (hAd.f1 (by omega)) 0 rfl rfl 1 (by decide) (hts _ w_124) (fun _ h9 => h9) rfl d_Ratio_findDivisor_38 ?_
  obtain ⟨sdb410, nnb410, lmb410, c1b410, c2b410, c3b410⟩ := hC_30.2.2.1 (ad 242) (Bg.pl (by decide))
  obtain ⟨sdb411, nnb411, lmb411, c1b411, c2b411, c3b411⟩ := hC_30.2.2.1 (ad 240) (Bg.pl (by decide))
  refine x_callv B hA (va_runV (As := [.ref ((ad 240))]) (rest := []) ⟨hx, hb, hml, hown, hts⟩ (c_Big_copy l D cs _ _ _ (ad 242) (Qm (ad 242)) sdb410 nnb410 lmb410 (ad 240) (Qm (ad 240)) sdb411 nnb411 lmb411 (Z_30 (ad 240)) (hAd.sp.fc2 (Bg.pl (by decide)) (Bg.pl (by decide)) (hAd.ne (by decide) (by decide) (by decide))) c1b410 c2b410 c1b411 c2b411 c3b411) (cwV 1 hts (gw_V w_661 w_303 w_304 w_3 w_305) rfl rfl rfl (by decide +kernel) ⟨by rw [hRf]; exact Nat.le_of_ble_eq_true rfl, by rw [hRl]; exact Nat.le_of_ble_eq_true rfl⟩) ⟨K0.blind, B.recv (hAd.1 _ (by omega)) (c1b410) rfl, B.pre _⟩ rfl rfl hl.1 rfl (lv_room (Nat.le_of_ble_eq_true rfl)) d_Ratio_findDivisor_41 ⟨by rw [hRc]; omega, by rw [hRs]; omega⟩) (fun g41 H locs hw B => ?_)
  obtain ⟨s1_41, n1_41, l1_41, hz_41, hg_41⟩ := hw
  obtain ⟨hC_41, hq_41⟩ := CSt.big1 hAd hC_30 (Bg.pl (by decide)) hz_41 hg_41
  obtain ⟨Z_41, hZ_41⟩ : ∃ Z_41, Z_41 = up Z_30 (ad 242) (Z_30 (ad 240)) := ⟨_, rfl⟩
  rw [← hZ_41] at hC_41
  have hfr_41 : ∀ k, Awy ad k → g41 k = f k := fun k hk => (hq_41 k hk).trans (hfr_30 k hk)
  have B : Wb D vwCl (TY cs) L g41 (AL L s.heap.size) s H _ := B
  refine lv_aload_n hx hb d_Ratio_findDivisor_44 rfl (lv_at hl 0 rfl) ?_
  refine x_get (C := RX4) (T := TX4) (N := 7) hx hb hts inX4 hown (B.foc1 (hC_41.ra)) (hAd.f1 (by omega)) 0 rfl rfl 5 (by decide) (hts _ w_131) (fun _ h9 => h9) rfl d_Ratio_findDivisor_45 ?_
  refine lv_aload_n hx hb d_Ratio_findDivisor_48 rfl (lv_at hl 0 rfl) ?_
  refine x_get (C := RX4) (T := TX4) (N := 7) hx hb hts inX4 hown (B.foc1 (hC_41.ra)) (hAd.f1 (by omega)) 0 rfl rfl 5 (by decide) (hts _ w_131) (fun _ h9 => h9) rfl d_Ratio_findDivisor_49 ?_
  obtain ⟨sdb520, nnb520, lmb520, c1b520, c2b520, c3b520⟩ := hC_41.2.2.1 (ad 242) (Bg.pl (by decide))
  refine x_calli B hA (va_runV (As := []) (rest := [.ref ((ad 242))]) ⟨hx, hb, hml, hown, hts⟩ (c_Big_twos l D cs _ _ _ (ad 242) (Qm (ad 242)) sdb520 nnb520 lmb520 (Z_41 (ad 242)) (hAd.sp.fc1 (Bg.pl (by decide))) c1b520 c2b520 c3b520) (cwV 0 hts (gw_V w_654 w_326 w_327 w_3 w_328) rfl rfl rfl (by decide +kernel) ⟨by rw [hRf]; exact Nat.le_of_ble_eq_true rfl, by rw [hRl]; exact Nat.le_of_ble_eq_true rfl⟩) ⟨K0.blind, B.recv (hAd.1 _ (by omega)) (c1b520) rfl, B.pre _⟩ rfl rfl hl.1 rfl (lv_room (Nat.le_of_ble_eq_true rfl)) d_Ratio_findDivisor_52 ⟨by rw [hRc]; omega, by rw [hRs]; omega⟩) (fun r52 g52 H locs hw B => ?_)
  obtain ⟨t2, rfl, ht2m, ht20, ht2o, hgf⟩ := hw
  rw [hgf] at B
  obtain ⟨sdb550, nnb550, lmb550, c1b550, c2b550, c3b550⟩ := hC_41.2.2.1 (ad 242) (Bg.pl (by decide))
  refine x_callv B hA (va_runV (As := [.int (iI ((t2 : Int)))]) (rest := []) ⟨hx, hb, hml, hown, hts⟩ (c_Big_shiftDown l D cs _ _ _ (ad 242) (Qm (ad 242)) sdb550 nnb550 lmb550 (Z_41 (ad 242)) t2 (hAd.sp.fc1 (Bg.pl (by decide))) c1b550 c2b550 c3b550 ht2m) (cwV 1 hts (gw_V w_656 w_330 w_331 w_3 w_332) rfl rfl rfl (by decide +kernel) ⟨by rw [hRf]; exact Nat.le_of_ble_eq_true rfl, by rw [hRl]; exact Nat.le_of_ble_eq_true rfl⟩) ⟨K0.blind, B.recv (hAd.1 _ (by omega)) (c1b550) rfl, B.pre _⟩ rfl rfl hl.1 rfl (lv_room (Nat.le_of_ble_eq_true rfl)) d_Ratio_findDivisor_55 ⟨by rw [hRc]; omega, by rw [hRs]; omega⟩) (fun g55 H locs hw B => ?_)
  obtain ⟨s1_55, n1_55, l1_55, hz_55, hg_55⟩ := hw
  obtain ⟨hC_55, hq_55⟩ := CSt.big1 hAd hC_41 (Bg.pl (by decide)) hz_55 hg_55
  obtain ⟨Z_55, hZ_55⟩ : ∃ Z_55, Z_55 = up Z_41 (ad 242) ((Z_41 (ad 242)).tdiv (2 ^ t2)) := ⟨_, rfl⟩
  rw [← hZ_55] at hC_55
  have hfr_55 : ∀ k, Awy ad k → g55 k = f k := fun k hk => (hq_55 k hk).trans (hfr_41 k hk)
  have B : Wb D vwCl (TY cs) L g55 (AL L s.heap.size) s H _ := B
  have hz3 : Z_41 (ad 242) = Zf (ad 240) := by rw [hZ_41, up_self, hZ_30, up_ne _ _ (hAd.ne (by decide) (by decide) (by decide)), hZ_16, up_ne _ _ (hAd.ne (by decide) (by decide) (by decide)), hZ_8, up_ne _ _ (hAd.ne (by decide) (by decide) (by decide))]
  obtain ⟨ob, hob, hob0, hob1, hobe⟩ := odd_part (z := Z_41 (ad 242)) (t := t2) (by rw [hz3]; omega) ht20 ht2o
  have hz4 : Z_55 (ad 242) = (ob : Int) := by rw [hZ_55, up_self]; exact hob
  have hobod := hob1 (by rw [hz3]; omega)
  clear ht20 ht2o hob0 hob1
  have hz5 : Z_55 (ad 241) = (oa : Int) := by rw [hZ_55, up_ne _ _ (hAd.ne (by decide) (by decide) (by decide)), hZ_41, up_ne _ _ (hAd.ne (by decide) (by decide) (by decide))]; exact hz2
  have hZo5 : ∀ b, b ≠ ad 241 → b ≠ ad 242 → Z_55 b = Zf b := fun b h1 h2 => by rw [hZ_55, up_ne _ _ h2, hZ_41, up_ne _ _ h2, hZ_30, up_ne _ _ h1, hZ_16, up_ne _ _ h1, hZ_8, up_ne _ _ h1]
  have hqa : (Zf (ad 239)).natAbs = 2 ^ t1 * oa := by rw [hz1] at hoae; exact Int.ofNat.inj hoae
  have hqb : Zf (ad 240) = ((2 ^ t2 * ob : Nat) : Int) := by rw [hz3] at hobe; exact hobe
  have hla : oa ≤ (Zf (ad 239)).natAbs := by rw [hqa]; have := Nat.mul_le_mul_right oa (Nat.one_le_two_pow (n := t1)); omega
  have hlb : (ob : Int) ≤ Zf (ad 240) := by rw [hqb]; have := Nat.mul_le_mul_right ob (Nat.one_le_two_pow (n := t2)); omega
  have hla2 : oa < 2 ^ 240 := by have h9 := hU2; rw [show (2 : Int) ^ 240 = ((2 ^ 240 : Nat) : Int) from rfl] at h9; omega
  have hlb2 : ob < 2 ^ 240 := by have h9 := hL2; rw [show (2 : Int) ^ 240 = ((2 ^ 240 : Nat) : Int) from rfl] at h9; omega
  refine x_iconst hx hb d_Ratio_findDivisor_58 ?_
  refine lv_istore_n (lv' := [(1, .int (iI 0)), (0, .ref ((ad 7)))]) hx hb d_Ratio_findDivisor_59 rfl hl (by decide) rfl (fun ls hl => ?_)
  have LA : ∀ (fuel : Nat) (fw : Nat → va_E) (Iw : Nat → Int) (Aw : Nat → Nat → Int) (Rw : Nat → Nat) (Zw : Nat → Int) (ss : Nat) (a : Nat) (b : Nat), 2978 - ss < fuel → (CSt cs ad Qm fw Iw Aw Rw Zw) → (∀ k, Awy ad k → fw k = f k) → (ss ≤ 2977) → (∀ i, Iw i = If i) → (∀ q, Aw q = Af q) → (Zw (ad 241) = (a : Int)) → (Zw (ad 242) = (b : Int)) → (a = 0 ∨ a % 2 = 1) → (b % 2 = 1) → (Nat.gcd a b = Nat.gcd oa ob) → (a * b * 2 ^ ss ≤ 2 ^ 480) → (a ≤ 2 ^ 240 ∧ b ≤ 2 ^ 240) → (∀ z, z ≠ ad 241 → z ≠ ad 242 → Zw z = Zf z) → ∀ (H : Heap) (locs : List Loc) (ls : Array Slot), Wb D vwCl (TY cs) L fw (AL L s.heap.size) s H locs → lv_has ls 2 [(1, .int (iI ((ss : Int)))), (0, .ref ((ad 7)))] → W p l e R s m av below meth c H locs (0) (0) Q (F0 m 60 ls []) := by
    intro fuel
    induction fuel with
    | zero => intro fw Iw Aw Rw Zw ss a b hfu; exact absurd hfu (Nat.not_lt_zero _)
    | succ fuel ih_LA =>
      intro fw Iw Aw Rw Zw ss a b hfu_LA hCw hfrw hss hIw hAw hza hzb hao hbo hgc hpr hab hZo H locs ls B hl
      refine lv_iload_n hx hb d_Ratio_findDivisor_60 rfl (lv_at hl 0 rfl) ?_
      refine x_sipush hx hb d_Ratio_findDivisor_61 (by decide) ?_
      refine x_icmp_gt (tgt := 139) hx hb d_Ratio_findDivisor_64 (by decide) (by omega) (by omega) (fun h64 => ?_) (fun h64 => ?_)
      · subst hQ hav
        exact x_vret hx hb hr hlocks B d_Ratio_findDivisor_139 (⟨Iw, Aw, Rw, Zw, hCw, hfrw, hIw, hAw, ⟨t1, oa, t2, ob, hqa, hoaod, hqb, hobod, by rw [hzb, ← hgc, show a = 0 by first | omega | exact fd_end (by omega) hpr (by omega), Nat.gcd_zero_left]⟩, hZo⟩)
      · refine lv_aload_n hx hb d_Ratio_findDivisor_67 rfl (lv_at hl 1 rfl) ?_
        refine x_get (C := RX4) (T := TX4) (N := 7) hx hb hts inX4 hown (B.foc1 (hCw.ra)) (hAd.f1 (by omega)) 0 rfl rfl 4 (by decide) (hts _ w_130) (fun _ h9 => h9) rfl d_Ratio_findDivisor_68 ?_
        obtain ⟨sdq71, nnq71, lmq71, c1q71, c2q71, c3q71⟩ := hCw.2.2.1 (ad 241) (Bg.pl (by decide))
        refine x_get (C := RX0) (T := TX0) (N := 3) hx hb hts inX0 hown (B.foc1 c1q71) (hAd.f1 (by omega)) 0 rfl rfl 0 (by decide) (hts _ w_39) (fun _ h9 => h9) rfl d_Ratio_findDivisor_71 ?_
        rw [show sdq71 = (Zw (ad 241)).sign from c3q71.2.2.2.2.1]
        rw [hza]
        have hsa : ((a : Int).sign = 0 ∧ a = 0) ∨ ((a : Int).sign = 1 ∧ a ≠ 0) := by rcases Nat.eq_zero_or_pos a with k | k; exact Or.inl ⟨by rw [k]; rfl, k⟩; exact Or.inr ⟨Int.sign_eq_one_of_pos (by omega), by omega⟩
        obtain ⟨sa, hsae⟩ : ∃ sa : Int, sa = (a : Int).sign := ⟨_, rfl⟩
        rw [← hsae] at hsa ⊢
        refine x_if_eq (tgt := 139) hx hb d_Ratio_findDivisor_74 (by decide) (by omega) (fun h74 => ?_) (fun h74 => ?_)
        · subst hQ hav
          exact x_vret hx hb hr hlocks B d_Ratio_findDivisor_139 (⟨Iw, Aw, Rw, Zw, hCw, hfrw, hIw, hAw, ⟨t1, oa, t2, ob, hqa, hoaod, hqb, hobod, by rw [hzb, ← hgc, show a = 0 by first | omega | exact fd_end (by omega) hpr (by omega), Nat.gcd_zero_left]⟩, hZo⟩)
        · have haod : a % 2 = 1 := by omega
          refine lv_aload_n hx hb d_Ratio_findDivisor_77 rfl (lv_at hl 1 rfl) ?_
          refine x_get (C := RX4) (T := TX4) (N := 7) hx hb hts inX4 hown (B.foc1 (hCw.ra)) (hAd.f1 (by omega)) 0 rfl rfl 4 (by decide) (hts _ w_130) (fun _ h9 => h9) rfl d_Ratio_findDivisor_78 ?_
          refine lv_aload_n hx hb d_Ratio_findDivisor_81 rfl (lv_at hl 1 rfl) ?_
          refine x_get (C := RX4) (T := TX4) (N := 7) hx hb hts inX4 hown (B.foc1 (hCw.ra)) (hAd.f1 (by omega)) 0 rfl rfl 5 (by decide) (hts _ w_131) (fun _ h9 => h9) rfl d_Ratio_findDivisor_82 ?_
          refine x_iconst hx hb d_Ratio_findDivisor_85 ?_
          obtain ⟨sdb860, nnb860, lmb860, c1b860, c2b860, c3b860⟩ := hCw.2.2.1 (ad 241) (Bg.pl (by decide))
          obtain ⟨sdb861, nnb861, lmb861, c1b861, c2b861, c3b861⟩ := hCw.2.2.1 (ad 242) (Bg.pl (by decide))
          refine x_callv B hA (va_runV (As := [.ref ((ad 242)), .int (iI (-1))]) (rest := []) ⟨hx, hb, hml, hown, hts⟩ (c_Big_add l D cs _ _ _ (ad 241) (Qm (ad 241)) sdb860 nnb860 lmb860 (Zw (ad 241)) (ad 242) (Qm (ad 242)) sdb861 nnb861 lmb861 (Zw (ad 242)) (-1) (hAd.sp.fc2 (Bg.pl (by decide)) (Bg.pl (by decide)) (hAd.ne (by decide) (by decide) (by decide))) c1b860 c2b860 c3b860 c1b861 c2b861 c3b861 (Or.inr rfl) (by rw [hza, hzb]; exact le_240 hab)) (cwV 2 hts (gw_V w_662 w_311 w_312 w_3 w_313) rfl rfl rfl (by decide +kernel) ⟨by rw [hRf]; exact Nat.le_of_ble_eq_true rfl, by rw [hRl]; exact Nat.le_of_ble_eq_true rfl⟩) ⟨K0.blind, B.recv (hAd.1 _ (by omega)) (c1b860) rfl, B.pre _⟩ rfl rfl hl.1 rfl (lv_room (Nat.le_of_ble_eq_true rfl)) d_Ratio_findDivisor_86 ⟨by rw [hRc]; omega, by rw [hRs]; omega⟩) (fun g86 H locs hw B => ?_)
          obtain ⟨s1_86, n1_86, l1_86, hz_86, hg_86⟩ := hw
          obtain ⟨hC_86, hq_86⟩ := CSt.big1 hAd hCw (Bg.pl (by decide)) hz_86 hg_86
          obtain ⟨Z_86, hZ_86⟩ : ∃ Z_86, Z_86 = up Zw (ad 241) (Zw (ad 241) + -1 * Zw (ad 242)) := ⟨_, rfl⟩
          rw [← hZ_86] at hC_86
          have hfr_86 : ∀ k, Awy ad k → g86 k = f k := fun k hk => (hq_86 k hk).trans (hfrw k hk)
          have B : Wb D vwCl (TY cs) L g86 (AL L s.heap.size) s H _ := B
          refine lv_aload_n hx hb d_Ratio_findDivisor_89 rfl (lv_at hl 1 rfl) ?_
          refine x_get (C := RX4) (T := TX4) (N := 7) hx hb hts inX4 hown (B.foc1 (hC_86.ra)) (hAd.f1 (by omega)) 0 rfl rfl 4 (by decide) (hts _ w_130) (fun _ h9 => h9) rfl d_Ratio_findDivisor_90 ?_
          obtain ⟨sdq93, nnq93, lmq93, c1q93, c2q93, c3q93⟩ := hC_86.2.2.1 (ad 241) (Bg.pl (by decide))
          refine x_get (C := RX0) (T := TX0) (N := 3) hx hb hts inX0 hown (B.foc1 c1q93) (hAd.f1 (by omega)) 0 rfl rfl 0 (by decide) (hts _ w_39) (fun _ h9 => h9) rfl d_Ratio_findDivisor_93 ?_
          rw [show sdq93 = (Z_86 (ad 241)).sign from c3q93.2.2.2.2.1]
          have hz86 : Z_86 (ad 241) = (a : Int) - (b : Int) := by rw [hZ_86, up_self, hza, hzb]; omega
          rw [hz86]
          obtain ⟨sb, hsb⟩ : ∃ sb : Int, sb = ((a : Int) - (b : Int)).sign := ⟨_, rfl⟩
          rw [← hsb]
          have hsbc : (0 ≤ sb ∧ b ≤ a) ∨ (sb < 0 ∧ a < b) := by rcases Int.lt_or_le ((a : Int) - b) 0 with k | k; rw [Int.sign_eq_neg_one_of_neg k] at hsb; omega; have := Int.sign_nonneg_iff.mpr k; omega
          have hsbr : -1 ≤ sb ∧ sb ≤ 1 := by rw [hsb]; rcases Int.lt_trichotomy ((a : Int) - b) 0 with k | k | k; rw [Int.sign_eq_neg_one_of_neg k]; omega; rw [k]; decide; rw [Int.sign_eq_one_of_pos k]; omega
          refine x_if_ge (tgt := 119) hx hb d_Ratio_findDivisor_96 (by decide) (by omega) (fun h96 => ?_) (fun h96 => ?_)
          · obtain ⟨cc, hcc⟩ : ∃ cc : Nat, cc + b = a := ⟨a - b, by omega⟩
            have hz119 : Z_86 (ad 241) = (cc : Int) := by rw [hz86]; omega
            have hzm0 : Z_86 (ad 242) = (b : Int) := by rw [hZ_86, up_ne _ _ (hAd.ne (by decide) (by decide) (by decide))]; exact hzb
            have hmm : (b = b ∧ cc + b = a) ∨ (b = a ∧ cc + a = b) := Or.inl ⟨rfl, hcc⟩
            have hZo8 : ∀ z, z ≠ ad 241 → z ≠ ad 242 → Z_86 z = Zf z := fun z h1 h2 => by rw [hZ_86, up_ne _ _ h1]; exact hZo z h1 h2
            refine lv_aload_n hx hb d_Ratio_findDivisor_119 rfl (lv_at hl 1 rfl) ?_
            refine x_get (C := RX4) (T := TX4) (N := 7) hx hb hts inX4 hown (B.foc1 (hC_86.ra)) (hAd.f1 (by omega)) 0 rfl rfl 4 (by decide) (hts _ w_130) (fun _ h9 => h9) rfl d_Ratio_findDivisor_120 ?_
            refine lv_aload_n hx hb d_Ratio_findDivisor_123 rfl (lv_at hl 1 rfl) ?_
            refine x_get (C := RX4) (T := TX4) (N := 7) hx hb hts inX4 hown (B.foc1 (hC_86.ra)) (hAd.f1 (by omega)) 0 rfl rfl 4 (by decide) (hts _ w_130) (fun _ h9 => h9) rfl d_Ratio_findDivisor_124 ?_
            obtain ⟨sdb1270, nnb1270, lmb1270, c1b1270, c2b1270, c3b1270⟩ := hC_86.2.2.1 (ad 241) (Bg.pl (by decide))
            refine x_calli B hA (va_runV (As := []) (rest := [.ref ((ad 241))]) ⟨hx, hb, hml, hown, hts⟩ (c_Big_twos l D cs _ _ _ (ad 241) (Qm (ad 241)) sdb1270 nnb1270 lmb1270 (Z_86 (ad 241)) (hAd.sp.fc1 (Bg.pl (by decide))) c1b1270 c2b1270 c3b1270) (cwV 0 hts (gw_V w_654 w_326 w_327 w_3 w_328) rfl rfl rfl (by decide +kernel) ⟨by rw [hRf]; exact Nat.le_of_ble_eq_true rfl, by rw [hRl]; exact Nat.le_of_ble_eq_true rfl⟩) ⟨K0.blind, B.recv (hAd.1 _ (by omega)) (c1b1270) rfl, B.pre _⟩ rfl rfl hl.1 rfl (lv_room (Nat.le_of_ble_eq_true rfl)) d_Ratio_findDivisor_127 ⟨by rw [hRc]; omega, by rw [hRs]; omega⟩) (fun r127 g127 H locs hw B => ?_)
            obtain ⟨t3, rfl, ht3m, ht30, ht3o, hgf⟩ := hw
            rw [hgf] at B
            obtain ⟨sdb1300, nnb1300, lmb1300, c1b1300, c2b1300, c3b1300⟩ := hC_86.2.2.1 (ad 241) (Bg.pl (by decide))
            refine x_callv B hA (va_runV (As := [.int (iI ((t3 : Int)))]) (rest := []) ⟨hx, hb, hml, hown, hts⟩ (c_Big_shiftDown l D cs _ _ _ (ad 241) (Qm (ad 241)) sdb1300 nnb1300 lmb1300 (Z_86 (ad 241)) t3 (hAd.sp.fc1 (Bg.pl (by decide))) c1b1300 c2b1300 c3b1300 ht3m) (cwV 1 hts (gw_V w_656 w_330 w_331 w_3 w_332) rfl rfl rfl (by decide +kernel) ⟨by rw [hRf]; exact Nat.le_of_ble_eq_true rfl, by rw [hRl]; exact Nat.le_of_ble_eq_true rfl⟩) ⟨K0.blind, B.recv (hAd.1 _ (by omega)) (c1b1300) rfl, B.pre _⟩ rfl rfl hl.1 rfl (lv_room (Nat.le_of_ble_eq_true rfl)) d_Ratio_findDivisor_130 ⟨by rw [hRc]; omega, by rw [hRs]; omega⟩) (fun g130 H locs hw B => ?_)
            obtain ⟨s1_130, n1_130, l1_130, hz_130, hg_130⟩ := hw
            obtain ⟨hC_130, hq_130⟩ := CSt.big1 hAd hC_86 (Bg.pl (by decide)) hz_130 hg_130
            obtain ⟨Z_130, hZ_130⟩ : ∃ Z_130, Z_130 = up Z_86 (ad 241) ((Z_86 (ad 241)).tdiv (2 ^ t3)) := ⟨_, rfl⟩
            rw [← hZ_130] at hC_130
            have hfr_130 : ∀ k, Awy ad k → g130 k = f k := fun k hk => (hq_130 k hk).trans (hfr_86 k hk)
            have B : Wb D vwCl (TY cs) L g130 (AL L s.heap.size) s H _ := B
            obtain ⟨oc, hoc, hoc0, hoc1, hoce⟩ := odd_part (z := Z_86 (ad 241)) (t := t3) (by rw [hz119]; omega) ht30 ht3o
            rw [hz119] at hoc0 hoc1 hoce
            have hz9 : Z_130 (ad 241) = (oc : Int) := by rw [hZ_130, up_self]; exact hoc
            have hzm : Z_130 (ad 242) = (b : Int) := by rw [hZ_130, up_ne _ _ (hAd.ne (by decide) (by decide) (by decide))]; exact hzm0
            have hfd := fd_step haod hbo hmm (t := t3) (o := oc) (fun h => hoc0 (by omega)) (fun h => hoc1 (by omega)) (Int.ofNat.inj hoce)
            have hZo9 : ∀ z, z ≠ ad 241 → z ≠ ad 242 → Z_130 z = Zf z := fun z h1 h2 => by rw [hZ_130, up_ne _ _ h1]; exact hZo8 z h1 h2
            clear ht30 ht3o
            refine x_iinc (lv' := [(1, .int (iI (((ss : Int)) + 1))), (0, .ref ((ad 7)))]) hx hb d_Ratio_findDivisor_133 hl (q := 0) rfl rfl (by decide) rfl (fun ls hl => ?_)
            refine lv_goto (tgt := 60) hx hb d_Ratio_findDivisor_136 (by decide) ?_
            exact ih_LA g130 Iw Aw Rw Z_130 (ss + 1) oc b (by omega) hC_130 hfr_130 (by omega) hIw hAw hz9 hzm (by by_cases k : cc = 0; exact Or.inl (hoc0 (by omega)); exact Or.inr (hoc1 (by omega))) hfd.2.2.2 (hfd.1.trans hgc) (fd_next hpr hfd.2.1) (by have := hfd.2.2.1; omega) hZo9 _ _ _ B (lv_sub hl [0, 1] rfl)
          · refine lv_aload_n hx hb d_Ratio_findDivisor_99 rfl (lv_at hl 1 rfl) ?_
            refine x_get (C := RX4) (T := TX4) (N := 7) hx hb hts inX4 hown (B.foc1 (hC_86.ra)) (hAd.f1 (by omega)) 0 rfl rfl 5 (by decide) (hts _ w_131) (fun _ h9 => h9) rfl d_Ratio_findDivisor_100 ?_
            refine lv_aload_n hx hb d_Ratio_findDivisor_103 rfl (lv_at hl 1 rfl) ?_
            refine x_get (C := RX4) (T := TX4) (N := 7) hx hb hts inX4 hown (B.foc1 (hC_86.ra)) (hAd.f1 (by omega)) 0 rfl rfl 4 (by decide) (hts _ w_130) (fun _ h9 => h9) rfl d_Ratio_findDivisor_104 ?_
            refine x_iconst hx hb d_Ratio_findDivisor_107 ?_
            obtain ⟨sdb1080, nnb1080, lmb1080, c1b1080, c2b1080, c3b1080⟩ := hC_86.2.2.1 (ad 242) (Bg.pl (by decide))
            obtain ⟨sdb1081, nnb1081, lmb1081, c1b1081, c2b1081, c3b1081⟩ := hC_86.2.2.1 (ad 241) (Bg.pl (by decide))
            refine x_callv B hA (va_runV (As := [.ref ((ad 241)), .int (iI 1)]) (rest := []) ⟨hx, hb, hml, hown, hts⟩ (c_Big_add l D cs _ _ _ (ad 242) (Qm (ad 242)) sdb1080 nnb1080 lmb1080 (Z_86 (ad 242)) (ad 241) (Qm (ad 241)) sdb1081 nnb1081 lmb1081 (Z_86 (ad 241)) 1 (hAd.sp.fc2 (Bg.pl (by decide)) (Bg.pl (by decide)) (hAd.ne (by decide) (by decide) (by decide))) c1b1080 c2b1080 c3b1080 c1b1081 c2b1081 c3b1081 (Or.inl rfl) (by rw [hz86, hZ_86, up_ne _ _ (hAd.ne (by decide) (by decide) (by decide)), hzb]; have h9 := le_240 (a := b) (b := b) ⟨hab.2, hab.2⟩; omega)) (cwV 2 hts (gw_V w_662 w_311 w_312 w_3 w_313) rfl rfl rfl (by decide +kernel) ⟨by rw [hRf]; exact Nat.le_of_ble_eq_true rfl, by rw [hRl]; exact Nat.le_of_ble_eq_true rfl⟩) ⟨K0.blind, B.recv (hAd.1 _ (by omega)) (c1b1080) rfl, B.pre _⟩ rfl rfl hl.1 rfl (lv_room (Nat.le_of_ble_eq_true rfl)) d_Ratio_findDivisor_108 ⟨by rw [hRc]; omega, by rw [hRs]; omega⟩) (fun g108 H locs hw B => ?_)
            obtain ⟨s1_108, n1_108, l1_108, hz_108, hg_108⟩ := hw
            obtain ⟨hC_108, hq_108⟩ := CSt.big1 hAd hC_86 (Bg.pl (by decide)) hz_108 hg_108
            obtain ⟨Z_108, hZ_108⟩ : ∃ Z_108, Z_108 = up Z_86 (ad 242) (Z_86 (ad 242) + 1 * Z_86 (ad 241)) := ⟨_, rfl⟩
            rw [← hZ_108] at hC_108
            have hfr_108 : ∀ k, Awy ad k → g108 k = f k := fun k hk => (hq_108 k hk).trans (hfr_86 k hk)
            have B : Wb D vwCl (TY cs) L g108 (AL L s.heap.size) s H _ := B
            refine lv_aload_n hx hb d_Ratio_findDivisor_111 rfl (lv_at hl 1 rfl) ?_
            refine x_get (C := RX4) (T := TX4) (N := 7) hx hb hts inX4 hown (B.foc1 (hC_108.ra)) (hAd.f1 (by omega)) 0 rfl rfl 4 (by decide) (hts _ w_130) (fun _ h9 => h9) rfl d_Ratio_findDivisor_112 ?_
            refine x_iconst hx hb d_Ratio_findDivisor_115 ?_
            obtain ⟨sd_116, nn_116, lm_116, c1_116, c2_116, c3_116⟩ := hC_108.2.2.1 (ad 241) (Bg.pl (by decide))
            refine x_put (C := RX0) (T := TX0) (N := 3) hx hb hts inX0 tyX0 tyX0_ok nmX0 hown (B.foc1 c1_116) (hAd.f1 (by omega)) 0 rfl rfl 0 (by decide) (hts _ w_39) (fun _ h9 => h9) rfl (tyX0_ok 0 (by decide)) rfl rfl (Nat.le_of_ble_eq_true rfl) d_Ratio_findDivisor_116 (fun H locs B => ?_)
            have B : Wb D vwCl (TY cs) L (mw g108 [((ad 241), .inr (0, [.int (iI (1)), .int (iI ((nn_116 : Int))), .ref (Qm (ad 241))]))]) (AL L s.heap.size) s H _ := B
            obtain ⟨f_116, hf_116⟩ : ∃ f_116, f_116 = mw g108 [((ad 241), .inr (0, [.int (iI (1)), .int (iI ((nn_116 : Int))), .ref (Qm (ad 241))]))] := ⟨_, rfl⟩
            rw [← hf_116] at B
            obtain ⟨hC_116, hq_116⟩ := CSt.side1 hAd hC_108 (Bg.pl (by decide)) c2_116 (c3_116.abs1 (by rw [hZ_108, up_ne _ _ (hAd.ne (by decide) (by decide) (by decide)), hz86]; omega)) hf_116
            obtain ⟨Z_116, hZ_116⟩ : ∃ Z_116, Z_116 = up Z_108 (ad 241) (((Z_108 (ad 241)).natAbs : Int)) := ⟨_, rfl⟩
            rw [← hZ_116] at hC_116
            have hfr_116 : ∀ k, Awy ad k → f_116 k = f k := fun k hk => (hq_116 k hk).trans (hfr_108 k hk)
            obtain ⟨cc, hcc⟩ : ∃ cc : Nat, cc + a = b := ⟨b - a, by omega⟩
            have hz119 : Z_116 (ad 241) = (cc : Int) := by rw [hZ_116, up_self, hZ_108, up_ne _ _ (hAd.ne (by decide) (by decide) (by decide)), hz86]; omega
            have hzm0 : Z_116 (ad 242) = (a : Int) := by rw [hZ_116, up_ne _ _ (hAd.ne (by decide) (by decide) (by decide)), hZ_108, up_self, hz86, hZ_86, up_ne _ _ (hAd.ne (by decide) (by decide) (by decide)), hzb]; omega
            have hmm : (a = b ∧ cc + b = a) ∨ (a = a ∧ cc + a = b) := Or.inr ⟨rfl, hcc⟩
            have hZo8 : ∀ z, z ≠ ad 241 → z ≠ ad 242 → Z_116 z = Zf z := fun z h1 h2 => by rw [hZ_116, up_ne _ _ h1, hZ_108, up_ne _ _ h2, hZ_86, up_ne _ _ h1]; exact hZo z h1 h2
            refine lv_aload_n hx hb d_Ratio_findDivisor_119 rfl (lv_at hl 1 rfl) ?_
            refine x_get (C := RX4) (T := TX4) (N := 7) hx hb hts inX4 hown (B.foc1 (hC_116.ra)) (hAd.f1 (by omega)) 0 rfl rfl 4 (by decide) (hts _ w_130) (fun _ h9 => h9) rfl d_Ratio_findDivisor_120 ?_
            refine lv_aload_n hx hb d_Ratio_findDivisor_123 rfl (lv_at hl 1 rfl) ?_
            refine x_get (C := RX4) (T := TX4) (N := 7) hx hb hts inX4 hown (B.foc1 (hC_116.ra)) (hAd.f1 (by omega)) 0 rfl rfl 4 (by decide) (hts _ w_130) (fun _ h9 => h9) rfl d_Ratio_findDivisor_124 ?_
            obtain ⟨sdb1270, nnb1270, lmb1270, c1b1270, c2b1270, c3b1270⟩ := hC_116.2.2.1 (ad 241) (Bg.pl (by decide))
            refine x_calli B hA (va_runV (As := []) (rest := [.ref ((ad 241))]) ⟨hx, hb, hml, hown, hts⟩ (c_Big_twos l D cs _ _ _ (ad 241) (Qm (ad 241)) sdb1270 nnb1270 lmb1270 (Z_116 (ad 241)) (hAd.sp.fc1 (Bg.pl (by decide))) c1b1270 c2b1270 c3b1270) (cwV 0 hts (gw_V w_654 w_326 w_327 w_3 w_328) rfl rfl rfl (by decide +kernel) ⟨by rw [hRf]; exact Nat.le_of_ble_eq_true rfl, by rw [hRl]; exact Nat.le_of_ble_eq_true rfl⟩) ⟨K0.blind, B.recv (hAd.1 _ (by omega)) (c1b1270) rfl, B.pre _⟩ rfl rfl hl.1 rfl (lv_room (Nat.le_of_ble_eq_true rfl)) d_Ratio_findDivisor_127 ⟨by rw [hRc]; omega, by rw [hRs]; omega⟩) (fun r127 g127 H locs hw B => ?_)
            obtain ⟨t3, rfl, ht3m, ht30, ht3o, hgf⟩ := hw
            rw [hgf] at B
            obtain ⟨sdb1300, nnb1300, lmb1300, c1b1300, c2b1300, c3b1300⟩ := hC_116.2.2.1 (ad 241) (Bg.pl (by decide))
            refine x_callv B hA (va_runV (As := [.int (iI ((t3 : Int)))]) (rest := []) ⟨hx, hb, hml, hown, hts⟩ (c_Big_shiftDown l D cs _ _ _ (ad 241) (Qm (ad 241)) sdb1300 nnb1300 lmb1300 (Z_116 (ad 241)) t3 (hAd.sp.fc1 (Bg.pl (by decide))) c1b1300 c2b1300 c3b1300 ht3m) (cwV 1 hts (gw_V w_656 w_330 w_331 w_3 w_332) rfl rfl rfl (by decide +kernel) ⟨by rw [hRf]; exact Nat.le_of_ble_eq_true rfl, by rw [hRl]; exact Nat.le_of_ble_eq_true rfl⟩) ⟨K0.blind, B.recv (hAd.1 _ (by omega)) (c1b1300) rfl, B.pre _⟩ rfl rfl hl.1 rfl (lv_room (Nat.le_of_ble_eq_true rfl)) d_Ratio_findDivisor_130 ⟨by rw [hRc]; omega, by rw [hRs]; omega⟩) (fun g130 H locs hw B => ?_)
            obtain ⟨s1_130, n1_130, l1_130, hz_130, hg_130⟩ := hw
            obtain ⟨hC_130, hq_130⟩ := CSt.big1 hAd hC_116 (Bg.pl (by decide)) hz_130 hg_130
            obtain ⟨Z_130, hZ_130⟩ : ∃ Z_130, Z_130 = up Z_116 (ad 241) ((Z_116 (ad 241)).tdiv (2 ^ t3)) := ⟨_, rfl⟩
            rw [← hZ_130] at hC_130
            have hfr_130 : ∀ k, Awy ad k → g130 k = f k := fun k hk => (hq_130 k hk).trans (hfr_116 k hk)
            have B : Wb D vwCl (TY cs) L g130 (AL L s.heap.size) s H _ := B
            obtain ⟨oc, hoc, hoc0, hoc1, hoce⟩ := odd_part (z := Z_116 (ad 241)) (t := t3) (by rw [hz119]; omega) ht30 ht3o
            rw [hz119] at hoc0 hoc1 hoce
            have hz9 : Z_130 (ad 241) = (oc : Int) := by rw [hZ_130, up_self]; exact hoc
            have hzm : Z_130 (ad 242) = (a : Int) := by rw [hZ_130, up_ne _ _ (hAd.ne (by decide) (by decide) (by decide))]; exact hzm0
            have hfd := fd_step haod hbo hmm (t := t3) (o := oc) (fun h => hoc0 (by omega)) (fun h => hoc1 (by omega)) (Int.ofNat.inj hoce)
            have hZo9 : ∀ z, z ≠ ad 241 → z ≠ ad 242 → Z_130 z = Zf z := fun z h1 h2 => by rw [hZ_130, up_ne _ _ h1]; exact hZo8 z h1 h2
            clear ht30 ht3o
            refine x_iinc (lv' := [(1, .int (iI (((ss : Int)) + 1))), (0, .ref ((ad 7)))]) hx hb d_Ratio_findDivisor_133 hl (q := 0) rfl rfl (by decide) rfl (fun ls hl => ?_)
            refine lv_goto (tgt := 60) hx hb d_Ratio_findDivisor_136 (by decide) ?_
            exact ih_LA g130 Iw Aw Rw Z_130 (ss + 1) oc a (by omega) hC_130 hfr_130 (by omega) hIw hAw hz9 hzm (by by_cases k : cc = 0; exact Or.inl (hoc0 (by omega)); exact Or.inr (hoc1 (by omega))) hfd.2.2.2 (hfd.1.trans hgc) (fd_next hpr hfd.2.1) (by have := hfd.2.2.1; omega) hZo9 _ _ _ B (lv_sub hl [0, 1] rfl)
  exact LA _ g55 If Af Rf Z_55 0 oa ob (Nat.lt_succ_self _) hC_55 hfr_55 (by omega) (fun _ => rfl) (fun _ => rfl) hz5 hz4 (Or.inr hoaod) hobod rfl (fd_first hla2 hlb2) (⟨Nat.le_of_lt hla2, Nat.le_of_lt hlb2⟩) hZo5 _ _ _ B (lv_sub hl [0, 1] rfl)
