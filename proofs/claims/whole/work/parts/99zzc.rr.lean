theorem d_RR_ofOne_0 : decode prog_1_method_29_code 0 = .ok (.iload_n 1, 1) := by decide +kernel
theorem d_RR_ofOne_40 : decode prog_1_method_29_code 40 = .ok (.aload_n 2, 1) := by decide +kernel
theorem d_RR_ofOne_41 : decode prog_1_method_29_code 41 = .ok (.aload_n 0, 1) := by decide +kernel
theorem d_RR_ofOne_42 : decode prog_1_method_29_code 42 = .ok (.getfield 44, 3) := by decide +kernel
theorem d_RR_ofOne_45 : decode prog_1_method_29_code 45 = .ok (.invokestatic 108, 3) := by decide +kernel
theorem d_RR_ofOne_48 : decode prog_1_method_29_code 48 = .ok (.aload_n 0, 1) := by decide +kernel
theorem d_RR_ofOne_49 : decode prog_1_method_29_code 49 = .ok (.aload_n 0, 1) := by decide +kernel
theorem d_RR_ofOne_50 : decode prog_1_method_29_code 50 = .ok (.getfield 44, 3) := by decide +kernel
theorem d_RR_ofOne_53 : decode prog_1_method_29_code 53 = .ok (.invokevirtual 249, 3) := by decide +kernel
theorem d_RR_ofOne_56 : decode prog_1_method_29_code 56 = .ok (.goto 75, 3) := by decide +kernel
theorem d_RR_ofOne_59 : decode prog_1_method_29_code 59 = .ok (.aload_n 0, 1) := by decide +kernel
theorem d_RR_ofOne_60 : decode prog_1_method_29_code 60 = .ok (.aload_n 2, 1) := by decide +kernel
theorem d_RR_ofOne_61 : decode prog_1_method_29_code 61 = .ok (.invokevirtual 252, 3) := by decide +kernel
theorem d_RR_ofOne_64 : decode prog_1_method_29_code 64 = .ok (.goto 67, 3) := by decide +kernel
theorem d_RR_ofOne_67 : decode prog_1_method_29_code 67 = .ok (.aload_n 0, 1) := by decide +kernel
theorem d_RR_ofOne_68 : decode prog_1_method_29_code 68 = .ok (.aload_n 2, 1) := by decide +kernel
theorem d_RR_ofOne_69 : decode prog_1_method_29_code 69 = .ok (.iload_n 3, 1) := by decide +kernel
theorem d_RR_ofOne_70 : decode prog_1_method_29_code 70 = .ok (.invokevirtual 255, 3) := by decide +kernel
theorem d_RR_ofOne_73 : decode prog_1_method_29_code 73 = .ok (.goto 58, 3) := by decide +kernel
theorem d_RR_ofOne_76 : decode prog_1_method_29_code 76 = .ok (.aload_n 0, 1) := by decide +kernel
theorem d_RR_ofOne_77 : decode prog_1_method_29_code 77 = .ok (.aload_n 2, 1) := by decide +kernel
theorem d_RR_ofOne_78 : decode prog_1_method_29_code 78 = .ok (.iconst (-1), 1) := by decide +kernel
theorem d_RR_ofOne_79 : decode prog_1_method_29_code 79 = .ok (.invokevirtual 259, 3) := by decide +kernel
theorem d_RR_ofOne_82 : decode prog_1_method_29_code 82 = .ok (.goto 49, 3) := by decide +kernel
theorem d_RR_ofOne_85 : decode prog_1_method_29_code 85 = .ok (.aload_n 2, 1) := by decide +kernel
theorem d_RR_ofOne_86 : decode prog_1_method_29_code 86 = .ok (.invokestatic 88, 3) := by decide +kernel
theorem d_RR_ofOne_89 : decode prog_1_method_29_code 89 = .ok (.istore 4, 2) := by decide +kernel
theorem d_RR_ofOne_91 : decode prog_1_method_29_code 91 = .ok (.iconst 0, 1) := by decide +kernel
theorem d_RR_ofOne_92 : decode prog_1_method_29_code 92 = .ok (.istore 5, 2) := by decide +kernel
theorem d_RR_ofOne_94 : decode prog_1_method_29_code 94 = .ok (.iload 5, 2) := by decide +kernel
theorem d_RR_ofOne_96 : decode prog_1_method_29_code 96 = .ok (.iload 4, 2) := by decide +kernel
theorem d_RR_ofOne_98 : decode prog_1_method_29_code 98 = .ok (.if_icmp .gt 24, 3) := by decide +kernel
theorem d_RR_ofOne_101 : decode prog_1_method_29_code 101 = .ok (.aload_n 0, 1) := by decide +kernel
theorem d_RR_ofOne_102 : decode prog_1_method_29_code 102 = .ok (.getfield 40, 3) := by decide +kernel
theorem d_RR_ofOne_105 : decode prog_1_method_29_code 105 = .ok (.iload 5, 2) := by decide +kernel
theorem d_RR_ofOne_107 : decode prog_1_method_29_code 107 = .ok (.aload_n 2, 1) := by decide +kernel
theorem d_RR_ofOne_108 : decode prog_1_method_29_code 108 = .ok (.iload 4, 2) := by decide +kernel
theorem d_RR_ofOne_110 : decode prog_1_method_29_code 110 = .ok (.iload 5, 2) := by decide +kernel
theorem d_RR_ofOne_112 : decode prog_1_method_29_code 112 = .ok (.isub, 1) := by decide +kernel
theorem d_RR_ofOne_113 : decode prog_1_method_29_code 113 = .ok (.iaload, 1) := by decide +kernel
theorem d_RR_ofOne_114 : decode prog_1_method_29_code 114 = .ok (.i2l, 1) := by decide +kernel
theorem d_RR_ofOne_115 : decode prog_1_method_29_code 115 = .ok (.lastore, 1) := by decide +kernel
theorem d_RR_ofOne_116 : decode prog_1_method_29_code 116 = .ok (.iinc 5 1, 3) := by decide +kernel
theorem d_RR_ofOne_119 : decode prog_1_method_29_code 119 = .ok (.goto (-25), 3) := by decide +kernel
theorem d_RR_ofOne_122 : decode prog_1_method_29_code 122 = .ok (.goto 9, 3) := by decide +kernel
theorem d_RR_ofOne_125 : decode prog_1_method_29_code 125 = .ok (.aload_n 0, 1) := by decide +kernel
theorem d_RR_ofOne_126 : decode prog_1_method_29_code 126 = .ok (.aload_n 2, 1) := by decide +kernel
theorem d_RR_ofOne_127 : decode prog_1_method_29_code 127 = .ok (.iload_n 3, 1) := by decide +kernel
theorem d_RR_ofOne_128 : decode prog_1_method_29_code 128 = .ok (.invokevirtual 259, 3) := by decide +kernel
theorem d_RR_ofOne_131 : decode prog_1_method_29_code 131 = .ok (.return_, 1) := by decide +kernel
theorem d_RR_ofOne_1 : decode prog_1_method_29_code 1 = .ok (.tableswitch 124 3 8 #[39, 124, 58, 66, 75, 84], 39) := by decide +kernel
set_option maxHeartbeats 8000000 in
set_option maxRecDepth 100000 in
theorem c_RR_ofOne_3 (l : Launch) (D : va_G) (cs : Nat → ClassId) (L : List Nat) (f : Nat → va_E) (sz : Nat) (ad Qm : Nat → Nat) (If : Nat → Int) (Af : Nat → Nat → Int) (Rf : Nat → Nat) (Zf : Nat → Int) (pa : Nat) (b : Int) (hAd : AdOk L ad Qm) (hC : CSt cs ad Qm f If Af Rf Zf) (hpa : pa < 12) (hhd : 0 ≤ If 0 ∧ If 0 ≤ 12) (hVa : ∀ j, j < 6 → -1000 ≤ Af (20 + pa) j ∧ Af (20 + pa) j ≤ 1000) (hbr : -2147483648 ≤ b ∧ b < 2147483648) : Met l (⟨"RealRoots", "ofOne", "(I[II)V"⟩ : MethodName) (.code (⟨"RealRoots", "ofOne", "(I[II)V"⟩ : MethodName) prog_1_method_29_code 6 (Option.none : Option Jvm.ClassFile.FieldType) :: gw) ({ frames := 6, cells := 0, slots := 0, locals := 290 }) (va_Pc [.ref ((ad 0)), .int (iI 3), .ref ((ad (27 + pa))), .int (iI b)] (K0 D vwCl (TY cs) L f sz)) (va_Qv (fun (g : Nat → va_E) => ∃ (I' : Nat → Int) (A' : Nat → Nat → Int) (R' : Nat → Nat) (Z' : Nat → Int), CSt cs ad Qm g I' A' R' Z' ∧ (∀ k, Awy ad k → g k = f k) ∧ (∀ i, i ≠ 3 → I' i = If i) ∧ (∀ q, q ≠ 0 → q ≠ 1 → q ≠ 2 → q ≠ 7 → A' q = Af q) ∧ ∀ j : Nat, j < 12 → A' 0 j = if j < 6 then dva (Af (20 + pa)) j else 0) (K1 D vwCl (TY cs) (AL L sz) L) (AL L sz)) 0 0 (AL L sz) := by
  refine Met.ofW (cc := prog_1_method_29_code) (maxL := 6) (ret := (Option.none : Option Jvm.ClassFile.FieldType)) (by decide) rfl ?_
  intro p e s m args below meth c s₁ Bd hml hv
  obtain ⟨rfl, hk0⟩ := hv
  obtain ⟨hsz, B⟩ := hk0.start
  subst hsz
  have hx := Bd.exec
  have hb := Bd.bytes
  have hr := Bd.returns
  have hlocks := Bd.notSynchronized
  have hts0 := atoms_spec Bd.pre
  have hown : s.vm.findClass RX6 = some m.cls := findClass_of_methodNamed Bd.named
  have hA : ∀ q, s.heap.size ≤ q → AL L s.heap.size q := fun _ h => Or.inr h
  have hl := lv_entry ([.ref ((ad 0)), .int (iI 3), .ref ((ad (27 + pa))), .int (iI b)]) (n := 6) (Nat.le_of_ble_eq_true rfl)
  rw [lg_entry_eq]
  generalize (lg_sl ([.ref ((ad 0)), .int (iI 3), .ref ((ad (27 + pa))), .int (iI b)]) ++ List.replicate (6 - (lg_sl ([.ref ((ad 0)), .int (iI 3), .ref ((ad (27 + pa))), .int (iI b)])).length) Slot.unset).toArray = ls at hl ⊢
  refine absQ (fun Q R av hQ hR hav => ?_)
  have hts : ∀ w ∈ gw, w.before av s = true := by rw [hav]; exact fun w h => hts0 w (List.mem_cons_of_mem _ h)
  have hRf : R.frames = 6 := by rw [hR]; rfl
  have hRl : R.locals = 290 := by rw [hR]; rfl
  have hRc : R.cells = 0 := by rw [hR]; rfl
  have hRs : R.slots = 0 := by rw [hR]; rfl
  clear hR hts0 Bd
  have hl : lv_has ls 6 [(0, .ref ((ad 0))), (1, .int (iI 3)), (2, .ref ((ad (27 + pa)))), (3, .int (iI b))] := hl
  have hfr : ∀ k, Awy ad k → f k = f k := fun _ _ => rfl
  refine lv_iload_n hx hb d_RR_ofOne_0 rfl (lv_at hl 1 rfl) ?_
  refine lv_tableIn (tgt := 40) hx hb d_RR_ofOne_1 (by decide +kernel) (by decide +kernel) (off := 39) (by decide +kernel) (by decide) ?_
  refine lv_aload_n hx hb d_RR_ofOne_40 rfl (lv_at hl 2 rfl) ?_
  refine lv_aload_n hx hb d_RR_ofOne_41 rfl (lv_at hl 0 rfl) ?_
  refine x_get (C := RX6) (T := TX6) (N := 14) hx hb hts inX6 hown (B.foc1 (hC.x)) (hAd.f1 (by omega)) 0 rfl rfl 6 (by decide) (hts _ w_203) (fun _ h9 => h9) rfl d_RR_ofOne_42 ?_
  refine x_callv B hA (va_runS (As := [.ref ((ad (27 + pa))), .ref ((ad 9))]) (rest := []) ⟨hx, hb, hml, hown, hts⟩ (c_RR_derive l D cs _ _ _ (ad 9) (ad (27 + pa)) (Af 1) (Af (20 + pa)) (hAd.fc [9, 27 + pa] (by simp; omega) (by have := ((Ar.va hpa)).lt; intro q hq; simp only [List.mem_cons, List.not_mem_nil, or_false] at hq; omega)) (hC.ar Ar.sl) (hC.ar (Ar.va hpa))) (va_cwS 2 hts (gw_S w_347 w_348 w_1 w_349) rfl rfl rfl (by decide +kernel) ⟨by rw [hRf]; exact Nat.le_of_ble_eq_true rfl, by rw [hRl]; exact Nat.le_of_ble_eq_true rfl⟩) ⟨K0.blind, B.pre _⟩ rfl rfl hl.1 rfl (lv_room (Nat.le_of_ble_eq_true rfl)) d_RR_ofOne_45 ⟨by rw [hRc]; omega, by rw [hRs]; omega⟩) (fun g45 H locs hw B => ?_)
  obtain ⟨xd, hxd1, hxd2, rfl⟩ := hw
  have B : Wb D vwCl (TY cs) L (mw f [((ad 9), .inl (cs 0, 6, .inl (ai xd)))]) (AL L s.heap.size) s H _ := B
  obtain ⟨f_45, hf_45⟩ : ∃ f_45, f_45 = mw f [((ad 9), .inl (cs 0, 6, .inl (ai xd)))] := ⟨_, rfl⟩
  rw [← hf_45] at B
  obtain ⟨A_45, hA_45⟩ : ∃ A_45, A_45 = upA Af 1 xd := ⟨_, rfl⟩
  have hC_45 : CSt cs ad Qm f_45 If A_45 Rf Zf := by rw [hf_45, hA_45]; exact CSt.wAr hAd hC Ar.sl _
  have hfr_45 : ∀ k, Awy ad k → f_45 k = f k := fun k hk => Eq.trans (by rw [hf_45]; exact hk.mw1 (by omega)) (hfr k hk)
  have hxdd : ∀ j, j < 6 → xd j = dva (Af (20 + pa)) j := fun j hj => by unfold dva; rcases (show j < 5 ∨ j = 5 by omega) with h | h; rw [if_pos h, hxd1 j h, Int.mul_comm]; rw [h, if_neg (by decide), hxd2]
  have hxdb : ∀ j, j < 6 → -2147483648 ≤ A_45 1 j ∧ A_45 1 j < 2147483648 := fun j hj => by rw [hA_45, upA_self, hxdd j hj]; have := dva_bd (M := 1000) (by decide) hVa j hj; omega
  refine lv_aload_n hx hb d_RR_ofOne_48 rfl (lv_at hl 0 rfl) ?_
  refine lv_aload_n hx hb d_RR_ofOne_49 rfl (lv_at hl 0 rfl) ?_
  refine x_get (C := RX6) (T := TX6) (N := 14) hx hb hts inX6 hown (B.foc1 (hC_45.x)) (hAd.f1 (by omega)) 0 rfl rfl 6 (by decide) (hts _ w_203) (fun _ h9 => h9) rfl d_RR_ofOne_50 ?_
  refine x_callv B hA (va_runV (As := [.ref ((ad 9))]) (rest := []) ⟨hx, hb, hml, hown, hts⟩ (c_RR_widen l D cs _ _ _ (ad 0) (ad 1) (ad 2) (ad 5) (ad 7) (ad 8) (ad 9) (ad 10) (ad 11) (ad 12) (ad 13) (ad 14) (If 0) (If 1) (If 2) (ad 9) (A_45 0) (A_45 1) (hAd.fc [0, 8, 9] (by have := (Ar.sl).lt; simp only [List.nodup_cons, List.mem_cons, List.not_mem_nil, or_false, not_or, List.nodup_nil, and_true, not_false_eq_true]; omega) (by have := (Ar.sl).lt; intro q hq; simp only [List.mem_cons, List.not_mem_nil, or_false] at hq; omega)) hC_45.x (hhd) hC_45.wide (hC_45.ar Ar.sl) (hxdb)) (cwV 1 hts (gw_V w_284 w_286 s_6 w_1 w_287) rfl rfl rfl (by decide +kernel) ⟨by rw [hRf]; exact Nat.le_of_ble_eq_true rfl, by rw [hRl]; exact Nat.le_of_ble_eq_true rfl⟩) ⟨K0.blind, B.recv (hAd.1 _ (by omega)) (hC_45.x) rfl, B.pre _⟩ rfl rfl hl.1 rfl (lv_room (Nat.le_of_ble_eq_true rfl)) d_RR_ofOne_53 ⟨by rw [hRc]; omega, by rw [hRs]; omega⟩) (fun g53 H locs hw B => ?_)
  obtain ⟨wz, hwz, rfl⟩ := hw
  have B : Wb D vwCl (TY cs) L (mw f_45 [((ad 8), .inl (cs 1, 12, .inr (.inl (al wz))))]) (AL L s.heap.size) s H _ := B
  obtain ⟨f_53, hf_53⟩ : ∃ f_53, f_53 = mw f_45 [((ad 8), .inl (cs 1, 12, .inr (.inl (al wz))))] := ⟨_, rfl⟩
  rw [← hf_53] at B
  obtain ⟨A_53, hA_53⟩ : ∃ A_53, A_53 = upA A_45 0 wz := ⟨_, rfl⟩
  have hC_53 : CSt cs ad Qm f_53 If A_53 Rf Zf := by rw [hf_53, hA_53]; exact CSt.w_wide hAd hC_45 _
  have hfr_53 : ∀ k, Awy ad k → f_53 k = f k := fun k hk => Eq.trans (by rw [hf_53]; exact hk.mw1 (by omega)) (hfr_45 k hk)
  refine lv_goto (tgt := 131) hx hb d_RR_ofOne_56 (by decide) ?_
  subst hQ hav
  exact x_vret hx hb hr hlocks B d_RR_ofOne_131 (⟨If, A_53, Rf, Zf, hC_53, hfr_53, fun _ _ => rfl, fun q h1 h2 _ _ => by rw [hA_53, upA_ne _ _ h1, hA_45, upA_ne _ _ h2], fun j hj => by rw [hA_53, upA_self, hwz j hj, hA_45, upA_self]; by_cases c : j < 6; rw [if_pos c, if_pos c, hxdd j c]; rw [if_neg c, if_neg c]⟩)
set_option maxHeartbeats 8000000 in
set_option maxRecDepth 100000 in
theorem c_RR_ofOne_5 (l : Launch) (D : va_G) (cs : Nat → ClassId) (L : List Nat) (f : Nat → va_E) (sz : Nat) (ad Qm : Nat → Nat) (If : Nat → Int) (Af : Nat → Nat → Int) (Rf : Nat → Nat) (Zf : Nat → Int) (pa : Nat) (b : Int) (hAd : AdOk L ad Qm) (hC : CSt cs ad Qm f If Af Rf Zf) (hpa : pa < 12) (hhd : 0 ≤ If 0 ∧ If 0 ≤ 12) (hVa : ∀ j, j < 6 → -1000 ≤ Af (20 + pa) j ∧ Af (20 + pa) j ≤ 1000) (hNz : Nz (Af (20 + pa))) (hbr : -2147483648 ≤ b ∧ b < 2147483648) : Met l (⟨"RealRoots", "ofOne", "(I[II)V"⟩ : MethodName) (.code (⟨"RealRoots", "ofOne", "(I[II)V"⟩ : MethodName) prog_1_method_29_code 6 (Option.none : Option Jvm.ClassFile.FieldType) :: gw) ({ frames := 6, cells := 0, slots := 0, locals := 290 }) (va_Pc [.ref ((ad 0)), .int (iI 5), .ref ((ad (27 + pa))), .int (iI b)] (K0 D vwCl (TY cs) L f sz)) (va_Qv (fun (g : Nat → va_E) => ∃ (I' : Nat → Int) (A' : Nat → Nat → Int) (R' : Nat → Nat) (Z' : Nat → Int), CSt cs ad Qm g I' A' R' Z' ∧ (∀ k, Awy ad k → g k = f k) ∧ (∀ i, i ≠ 3 → I' i = If i) ∧ (∀ q, q ≠ 0 → q ≠ 1 → q ≠ 2 → q ≠ 7 → A' q = Af q) ∧ FreeOf (Af (20 + pa)) (A' 0) ∧ ∀ j : Nat, 6 ≤ j → j < 12 → A' 0 j = 0) (K1 D vwCl (TY cs) (AL L sz) L) (AL L sz)) 0 0 (AL L sz) := by
  refine Met.ofW (cc := prog_1_method_29_code) (maxL := 6) (ret := (Option.none : Option Jvm.ClassFile.FieldType)) (by decide) rfl ?_
  intro p e s m args below meth c s₁ Bd hml hv
  obtain ⟨rfl, hk0⟩ := hv
  obtain ⟨hsz, B⟩ := hk0.start
  subst hsz
  have hx := Bd.exec
  have hb := Bd.bytes
  have hr := Bd.returns
  have hlocks := Bd.notSynchronized
  have hts0 := atoms_spec Bd.pre
  have hown : s.vm.findClass RX6 = some m.cls := findClass_of_methodNamed Bd.named
  have hA : ∀ q, s.heap.size ≤ q → AL L s.heap.size q := fun _ h => Or.inr h
  have hl := lv_entry ([.ref ((ad 0)), .int (iI 5), .ref ((ad (27 + pa))), .int (iI b)]) (n := 6) (Nat.le_of_ble_eq_true rfl)
  rw [lg_entry_eq]
  generalize (lg_sl ([.ref ((ad 0)), .int (iI 5), .ref ((ad (27 + pa))), .int (iI b)]) ++ List.replicate (6 - (lg_sl ([.ref ((ad 0)), .int (iI 5), .ref ((ad (27 + pa))), .int (iI b)])).length) Slot.unset).toArray = ls at hl ⊢
  refine absQ (fun Q R av hQ hR hav => ?_)
  have hts : ∀ w ∈ gw, w.before av s = true := by rw [hav]; exact fun w h => hts0 w (List.mem_cons_of_mem _ h)
  have hRf : R.frames = 6 := by rw [hR]; rfl
  have hRl : R.locals = 290 := by rw [hR]; rfl
  have hRc : R.cells = 0 := by rw [hR]; rfl
  have hRs : R.slots = 0 := by rw [hR]; rfl
  clear hR hts0 Bd
  have hl : lv_has ls 6 [(0, .ref ((ad 0))), (1, .int (iI 5)), (2, .ref ((ad (27 + pa)))), (3, .int (iI b))] := hl
  have hfr : ∀ k, Awy ad k → f k = f k := fun _ _ => rfl
  refine lv_iload_n hx hb d_RR_ofOne_0 rfl (lv_at hl 1 rfl) ?_
  refine lv_tableIn (tgt := 59) hx hb d_RR_ofOne_1 (by decide +kernel) (by decide +kernel) (off := 58) (by decide +kernel) (by decide) ?_
  refine lv_aload_n hx hb d_RR_ofOne_59 rfl (lv_at hl 0 rfl) ?_
  refine lv_aload_n hx hb d_RR_ofOne_60 rfl (lv_at hl 2 rfl) ?_
  refine x_callv B hA (va_runV (As := [.ref ((ad (27 + pa)))]) (rest := []) ⟨hx, hb, hml, hown, hts⟩ (c_RR_withoutRepeats l D cs _ _ _ ad Qm If Af Rf Zf (27 + pa) (20 + pa) hAd hC (Ar.va hpa) (by omega) (by omega) hVa hNz hhd) (cwV 1 hts (gw_V w_350 w_352 s_11 w_1 w_353) rfl rfl rfl (by decide +kernel) ⟨by rw [hRf]; exact Nat.le_of_ble_eq_true rfl, by rw [hRl]; exact Nat.le_of_ble_eq_true rfl⟩) ⟨K0.blind, B.recv (hAd.1 _ (by omega)) (hC.x) rfl, B.pre _⟩ rfl rfl hl.1 rfl (lv_room (Nat.le_of_ble_eq_true rfl)) d_RR_ofOne_61 ⟨by rw [hRc]; omega, by rw [hRs]; omega⟩) (fun g61 H locs hw B => ?_)
  obtain ⟨I_61, A_61, R_61, Z_61, hC_61, hq_61, hf5, hz5, hI5, hA5⟩ := hw
  have hfr_61 : ∀ k, Awy ad k → g61 k = f k := fun k hk => (hq_61 k hk).trans (hfr k hk)
  have B : Wb D vwCl (TY cs) L g61 (AL L s.heap.size) s H _ := B
  refine lv_goto (tgt := 131) hx hb d_RR_ofOne_64 (by decide) ?_
  subst hQ hav
  exact x_vret hx hb hr hlocks B d_RR_ofOne_131 (⟨I_61, A_61, R_61, Z_61, hC_61, hfr_61, hI5, hA5, hf5, hz5⟩)
set_option maxHeartbeats 8000000 in
set_option maxRecDepth 100000 in
theorem c_RR_ofOne_6 (l : Launch) (D : va_G) (cs : Nat → ClassId) (L : List Nat) (f : Nat → va_E) (sz : Nat) (ad Qm : Nat → Nat) (If : Nat → Int) (Af : Nat → Nat → Int) (Rf : Nat → Nat) (Zf : Nat → Int) (pa : Nat) (b : Int) (hAd : AdOk L ad Qm) (hC : CSt cs ad Qm f If Af Rf Zf) (hpa : pa < 12) (hhd : 0 ≤ If 0 ∧ If 0 ≤ 12) (hVa : ∀ j, j < 6 → -1000 ≤ Af (20 + pa) j ∧ Af (20 + pa) j ≤ 1000) (hb9 : -1000 ≤ b ∧ b ≤ 1000) (hW0 : ∀ j, j < 12 → Af 0 j = 0) (hbr : -2147483648 ≤ b ∧ b < 2147483648) : Met l (⟨"RealRoots", "ofOne", "(I[II)V"⟩ : MethodName) (.code (⟨"RealRoots", "ofOne", "(I[II)V"⟩ : MethodName) prog_1_method_29_code 6 (Option.none : Option Jvm.ClassFile.FieldType) :: gw) ({ frames := 6, cells := 0, slots := 0, locals := 290 }) (va_Pc [.ref ((ad 0)), .int (iI 6), .ref ((ad (27 + pa))), .int (iI b)] (K0 D vwCl (TY cs) L f sz)) (va_Qv (fun (g : Nat → va_E) => ∃ (I' : Nat → Int) (A' : Nat → Nat → Int) (R' : Nat → Nat) (Z' : Nat → Int), CSt cs ad Qm g I' A' R' Z' ∧ (∀ k, Awy ad k → g k = f k) ∧ (∀ i, i ≠ 3 → I' i = If i) ∧ (∀ q, q ≠ 0 → q ≠ 1 → q ≠ 2 → q ≠ 7 → A' q = Af q) ∧ (∀ j : Nat, j < 6 → A' 0 j = hrn (Af (20 + pa)) b 6 j) ∧ ∀ j : Nat, 6 ≤ j → A' 0 j = Af 0 j) (K1 D vwCl (TY cs) (AL L sz) L) (AL L sz)) 0 0 (AL L sz) := by
  refine Met.ofW (cc := prog_1_method_29_code) (maxL := 6) (ret := (Option.none : Option Jvm.ClassFile.FieldType)) (by decide) rfl ?_
  intro p e s m args below meth c s₁ Bd hml hv
  obtain ⟨rfl, hk0⟩ := hv
  obtain ⟨hsz, B⟩ := hk0.start
  subst hsz
  have hx := Bd.exec
  have hb := Bd.bytes
  have hr := Bd.returns
  have hlocks := Bd.notSynchronized
  have hts0 := atoms_spec Bd.pre
  have hown : s.vm.findClass RX6 = some m.cls := findClass_of_methodNamed Bd.named
  have hA : ∀ q, s.heap.size ≤ q → AL L s.heap.size q := fun _ h => Or.inr h
  have hl := lv_entry ([.ref ((ad 0)), .int (iI 6), .ref ((ad (27 + pa))), .int (iI b)]) (n := 6) (Nat.le_of_ble_eq_true rfl)
  rw [lg_entry_eq]
  generalize (lg_sl ([.ref ((ad 0)), .int (iI 6), .ref ((ad (27 + pa))), .int (iI b)]) ++ List.replicate (6 - (lg_sl ([.ref ((ad 0)), .int (iI 6), .ref ((ad (27 + pa))), .int (iI b)])).length) Slot.unset).toArray = ls at hl ⊢
  refine absQ (fun Q R av hQ hR hav => ?_)
  have hts : ∀ w ∈ gw, w.before av s = true := by rw [hav]; exact fun w h => hts0 w (List.mem_cons_of_mem _ h)
  have hRf : R.frames = 6 := by rw [hR]; rfl
  have hRl : R.locals = 290 := by rw [hR]; rfl
  have hRc : R.cells = 0 := by rw [hR]; rfl
  have hRs : R.slots = 0 := by rw [hR]; rfl
  clear hR hts0 Bd
  have hl : lv_has ls 6 [(0, .ref ((ad 0))), (1, .int (iI 6)), (2, .ref ((ad (27 + pa)))), (3, .int (iI b))] := hl
  have hfr : ∀ k, Awy ad k → f k = f k := fun _ _ => rfl
  refine lv_iload_n hx hb d_RR_ofOne_0 rfl (lv_at hl 1 rfl) ?_
  refine lv_tableIn (tgt := 67) hx hb d_RR_ofOne_1 (by decide +kernel) (by decide +kernel) (off := 66) (by decide +kernel) (by decide) ?_
  refine lv_aload_n hx hb d_RR_ofOne_67 rfl (lv_at hl 0 rfl) ?_
  refine lv_aload_n hx hb d_RR_ofOne_68 rfl (lv_at hl 2 rfl) ?_
  refine lv_iload_n hx hb d_RR_ofOne_69 rfl (lv_at hl 3 rfl) ?_
  refine x_callv B hA (va_runV (As := [.ref ((ad (27 + pa))), .int (iI b)]) (rest := []) ⟨hx, hb, hml, hown, hts⟩ (c_RR_moved l D cs _ _ _ (ad 0) (ad 1) (ad 2) (ad 5) (ad 7) (ad 8) (ad 9) (ad 10) (ad 11) (ad 12) (ad 13) (ad 14) (If 0) (If 1) (If 2) (ad (27 + pa)) (Af 0) (Af (20 + pa)) b (hAd.fc [0, 8, 27 + pa] (by have := ((Ar.va hpa)).lt; simp only [List.nodup_cons, List.mem_cons, List.not_mem_nil, or_false, not_or, List.nodup_nil, and_true, not_false_eq_true]; omega) (by have := ((Ar.va hpa)).lt; intro q hq; simp only [List.mem_cons, List.not_mem_nil, or_false] at hq; omega)) hC.x hC.wide (hC.ar (Ar.va hpa)) hVa (hb9) (fun j hj => hW0 j (by omega))) (cwV 2 hts (gw_V w_354 w_356 s_12 w_1 w_357) rfl rfl rfl (by decide +kernel) ⟨by rw [hRf]; exact Nat.le_of_ble_eq_true rfl, by rw [hRl]; exact Nat.le_of_ble_eq_true rfl⟩) ⟨K0.blind, B.recv (hAd.1 _ (by omega)) (hC.x) rfl, B.pre _⟩ rfl rfl hl.1 rfl (lv_room (Nat.le_of_ble_eq_true rfl)) d_RR_ofOne_70 ⟨by rw [hRc]; omega, by rw [hRs]; omega⟩) (fun g70 H locs hw B => ?_)
  obtain ⟨wz, hwz, hwzh, rfl⟩ := hw
  have B : Wb D vwCl (TY cs) L (mw f [((ad 8), .inl (cs 1, 12, .inr (.inl (al wz))))]) (AL L s.heap.size) s H _ := B
  obtain ⟨f_70, hf_70⟩ : ∃ f_70, f_70 = mw f [((ad 8), .inl (cs 1, 12, .inr (.inl (al wz))))] := ⟨_, rfl⟩
  rw [← hf_70] at B
  obtain ⟨A_70, hA_70⟩ : ∃ A_70, A_70 = upA Af 0 wz := ⟨_, rfl⟩
  have hC_70 : CSt cs ad Qm f_70 If A_70 Rf Zf := by rw [hf_70, hA_70]; exact CSt.w_wide hAd hC _
  have hfr_70 : ∀ k, Awy ad k → f_70 k = f k := fun k hk => Eq.trans (by rw [hf_70]; exact hk.mw1 (by omega)) (hfr k hk)
  refine lv_goto (tgt := 131) hx hb d_RR_ofOne_73 (by decide) ?_
  subst hQ hav
  exact x_vret hx hb hr hlocks B d_RR_ofOne_131 (⟨If, A_70, Rf, Zf, hC_70, hfr_70, fun _ _ => rfl, fun q h1 _ _ _ => by rw [hA_70, upA_ne _ _ h1], fun j hj => by rw [hA_70, upA_self]; exact hwz j hj, fun j hj => by rw [hA_70, upA_self]; exact hwzh j hj⟩)
set_option maxHeartbeats 8000000 in
set_option maxRecDepth 100000 in
theorem c_RR_ofOne_7 (l : Launch) (D : va_G) (cs : Nat → ClassId) (L : List Nat) (f : Nat → va_E) (sz : Nat) (ad Qm : Nat → Nat) (If : Nat → Int) (Af : Nat → Nat → Int) (Rf : Nat → Nat) (Zf : Nat → Int) (pa : Nat) (b : Int) (hAd : AdOk L ad Qm) (hC : CSt cs ad Qm f If Af Rf Zf) (hpa : pa < 12) (hhd : 0 ≤ If 0 ∧ If 0 ≤ 12) (hVa : ∀ j, j < 6 → -1000 ≤ Af (20 + pa) j ∧ Af (20 + pa) j ≤ 1000) (hbr : -2147483648 ≤ b ∧ b < 2147483648) : Met l (⟨"RealRoots", "ofOne", "(I[II)V"⟩ : MethodName) (.code (⟨"RealRoots", "ofOne", "(I[II)V"⟩ : MethodName) prog_1_method_29_code 6 (Option.none : Option Jvm.ClassFile.FieldType) :: gw) ({ frames := 6, cells := 0, slots := 0, locals := 290 }) (va_Pc [.ref ((ad 0)), .int (iI 7), .ref ((ad (27 + pa))), .int (iI b)] (K0 D vwCl (TY cs) L f sz)) (va_Qv (fun (g : Nat → va_E) => ∃ (I' : Nat → Int) (A' : Nat → Nat → Int) (R' : Nat → Nat) (Z' : Nat → Int), CSt cs ad Qm g I' A' R' Z' ∧ (∀ k, Awy ad k → g k = f k) ∧ (∀ i, i ≠ 3 → I' i = If i) ∧ (∀ q, q ≠ 0 → q ≠ 1 → q ≠ 2 → q ≠ 7 → A' q = Af q) ∧ (∀ j : Nat, j < 6 → A' 0 j = Af (20 + pa) j * (-1) ^ j) ∧ ∀ j : Nat, 6 ≤ j → A' 0 j = Af 0 j) (K1 D vwCl (TY cs) (AL L sz) L) (AL L sz)) 0 0 (AL L sz) := by
  refine Met.ofW (cc := prog_1_method_29_code) (maxL := 6) (ret := (Option.none : Option Jvm.ClassFile.FieldType)) (by decide) rfl ?_
  intro p e s m args below meth c s₁ Bd hml hv
  obtain ⟨rfl, hk0⟩ := hv
  obtain ⟨hsz, B⟩ := hk0.start
  subst hsz
  have hx := Bd.exec
  have hb := Bd.bytes
  have hr := Bd.returns
  have hlocks := Bd.notSynchronized
  have hts0 := atoms_spec Bd.pre
  have hown : s.vm.findClass RX6 = some m.cls := findClass_of_methodNamed Bd.named
  have hA : ∀ q, s.heap.size ≤ q → AL L s.heap.size q := fun _ h => Or.inr h
  have hl := lv_entry ([.ref ((ad 0)), .int (iI 7), .ref ((ad (27 + pa))), .int (iI b)]) (n := 6) (Nat.le_of_ble_eq_true rfl)
  rw [lg_entry_eq]
  generalize (lg_sl ([.ref ((ad 0)), .int (iI 7), .ref ((ad (27 + pa))), .int (iI b)]) ++ List.replicate (6 - (lg_sl ([.ref ((ad 0)), .int (iI 7), .ref ((ad (27 + pa))), .int (iI b)])).length) Slot.unset).toArray = ls at hl ⊢
  refine absQ (fun Q R av hQ hR hav => ?_)
  have hts : ∀ w ∈ gw, w.before av s = true := by rw [hav]; exact fun w h => hts0 w (List.mem_cons_of_mem _ h)
  have hRf : R.frames = 6 := by rw [hR]; rfl
  have hRl : R.locals = 290 := by rw [hR]; rfl
  have hRc : R.cells = 0 := by rw [hR]; rfl
  have hRs : R.slots = 0 := by rw [hR]; rfl
  clear hR hts0 Bd
  have hl : lv_has ls 6 [(0, .ref ((ad 0))), (1, .int (iI 7)), (2, .ref ((ad (27 + pa)))), (3, .int (iI b))] := hl
  have hfr : ∀ k, Awy ad k → f k = f k := fun _ _ => rfl
  refine lv_iload_n hx hb d_RR_ofOne_0 rfl (lv_at hl 1 rfl) ?_
  refine lv_tableIn (tgt := 76) hx hb d_RR_ofOne_1 (by decide +kernel) (by decide +kernel) (off := 75) (by decide +kernel) (by decide) ?_
  refine lv_aload_n hx hb d_RR_ofOne_76 rfl (lv_at hl 0 rfl) ?_
  refine lv_aload_n hx hb d_RR_ofOne_77 rfl (lv_at hl 2 rfl) ?_
  refine x_iconst hx hb d_RR_ofOne_78 ?_
  refine x_callv B hA (va_runV (As := [.ref ((ad (27 + pa))), .int (iI (-1))]) (rest := []) ⟨hx, hb, hml, hown, hts⟩ (c_RR_stretched l D cs _ _ _ (ad 0) (ad 1) (ad 2) (ad 5) (ad 7) (ad 8) (ad 9) (ad 10) (ad 11) (ad 12) (ad 13) (ad 14) (If 0) (If 1) (If 2) (ad (27 + pa)) (Af 0) (Af (20 + pa)) ((-1)) (hAd.fc [0, 8, 27 + pa] (by have := ((Ar.va hpa)).lt; simp only [List.nodup_cons, List.mem_cons, List.not_mem_nil, or_false, not_or, List.nodup_nil, and_true, not_false_eq_true]; omega) (by have := ((Ar.va hpa)).lt; intro q hq; simp only [List.mem_cons, List.not_mem_nil, or_false] at hq; omega)) hC.x hC.wide (hC.ar (Ar.va hpa)) hVa (by decide)) (cwV 2 hts (gw_V w_358 w_360 s_13 w_1 w_361) rfl rfl rfl (by decide +kernel) ⟨by rw [hRf]; exact Nat.le_of_ble_eq_true rfl, by rw [hRl]; exact Nat.le_of_ble_eq_true rfl⟩) ⟨K0.blind, B.recv (hAd.1 _ (by omega)) (hC.x) rfl, B.pre _⟩ rfl rfl hl.1 rfl (lv_room (Nat.le_of_ble_eq_true rfl)) d_RR_ofOne_79 ⟨by rw [hRc]; omega, by rw [hRs]; omega⟩) (fun g79 H locs hw B => ?_)
  obtain ⟨wz, hwz, hwzh, rfl⟩ := hw
  have B : Wb D vwCl (TY cs) L (mw f [((ad 8), .inl (cs 1, 12, .inr (.inl (al wz))))]) (AL L s.heap.size) s H _ := B
  obtain ⟨f_79, hf_79⟩ : ∃ f_79, f_79 = mw f [((ad 8), .inl (cs 1, 12, .inr (.inl (al wz))))] := ⟨_, rfl⟩
  rw [← hf_79] at B
  obtain ⟨A_79, hA_79⟩ : ∃ A_79, A_79 = upA Af 0 wz := ⟨_, rfl⟩
  have hC_79 : CSt cs ad Qm f_79 If A_79 Rf Zf := by rw [hf_79, hA_79]; exact CSt.w_wide hAd hC _
  have hfr_79 : ∀ k, Awy ad k → f_79 k = f k := fun k hk => Eq.trans (by rw [hf_79]; exact hk.mw1 (by omega)) (hfr k hk)
  refine lv_goto (tgt := 131) hx hb d_RR_ofOne_82 (by decide) ?_
  subst hQ hav
  exact x_vret hx hb hr hlocks B d_RR_ofOne_131 (⟨If, A_79, Rf, Zf, hC_79, hfr_79, fun _ _ => rfl, fun q h1 _ _ _ => by rw [hA_79, upA_ne _ _ h1], fun j hj => by rw [hA_79, upA_self]; exact hwz j hj, fun j hj => by rw [hA_79, upA_self]; exact hwzh j hj⟩)
set_option maxHeartbeats 8000000 in
set_option maxRecDepth 100000 in
theorem c_RR_ofOne_8 (l : Launch) (D : va_G) (cs : Nat → ClassId) (L : List Nat) (f : Nat → va_E) (sz : Nat) (ad Qm : Nat → Nat) (If : Nat → Int) (Af : Nat → Nat → Int) (Rf : Nat → Nat) (Zf : Nat → Int) (pa : Nat) (b : Int) (hAd : AdOk L ad Qm) (hC : CSt cs ad Qm f If Af Rf Zf) (hpa : pa < 12) (hhd : 0 ≤ If 0 ∧ If 0 ≤ 12) (hVa : ∀ j, j < 6 → -1000 ≤ Af (20 + pa) j ∧ Af (20 + pa) j ≤ 1000) (hbr : -2147483648 ≤ b ∧ b < 2147483648) : Met l (⟨"RealRoots", "ofOne", "(I[II)V"⟩ : MethodName) (.code (⟨"RealRoots", "ofOne", "(I[II)V"⟩ : MethodName) prog_1_method_29_code 6 (Option.none : Option Jvm.ClassFile.FieldType) :: gw) ({ frames := 6, cells := 0, slots := 0, locals := 290 }) (va_Pc [.ref ((ad 0)), .int (iI 8), .ref ((ad (27 + pa))), .int (iI b)] (K0 D vwCl (TY cs) L f sz)) (va_Qv (fun (g : Nat → va_E) => ∃ (I' : Nat → Int) (A' : Nat → Nat → Int) (R' : Nat → Nat) (Z' : Nat → Int), CSt cs ad Qm g I' A' R' Z' ∧ (∀ k, Awy ad k → g k = f k) ∧ (∀ i, i ≠ 3 → I' i = If i) ∧ (∀ q, q ≠ 0 → q ≠ 1 → q ≠ 2 → q ≠ 7 → A' q = Af q) ∧ ∃ kt : Nat, kt ≤ 6 ∧ (∀ j, kt ≤ j → j < 6 → Af (20 + pa) j = 0) ∧ (0 < kt → Af (20 + pa) (kt - 1) ≠ 0) ∧ ∀ j : Nat, A' 0 j = if j < kt then Af (20 + pa) (kt - 1 - j) else Af 0 j) (K1 D vwCl (TY cs) (AL L sz) L) (AL L sz)) 0 0 (AL L sz) := by
  refine Met.ofW (cc := prog_1_method_29_code) (maxL := 6) (ret := (Option.none : Option Jvm.ClassFile.FieldType)) (by decide) rfl ?_
  intro p e s m args below meth c s₁ Bd hml hv
  obtain ⟨rfl, hk0⟩ := hv
  obtain ⟨hsz, B⟩ := hk0.start
  subst hsz
  have hx := Bd.exec
  have hb := Bd.bytes
  have hr := Bd.returns
  have hlocks := Bd.notSynchronized
  have hts0 := atoms_spec Bd.pre
  have hown : s.vm.findClass RX6 = some m.cls := findClass_of_methodNamed Bd.named
  have hA : ∀ q, s.heap.size ≤ q → AL L s.heap.size q := fun _ h => Or.inr h
  have hl := lv_entry ([.ref ((ad 0)), .int (iI 8), .ref ((ad (27 + pa))), .int (iI b)]) (n := 6) (Nat.le_of_ble_eq_true rfl)
  rw [lg_entry_eq]
  generalize (lg_sl ([.ref ((ad 0)), .int (iI 8), .ref ((ad (27 + pa))), .int (iI b)]) ++ List.replicate (6 - (lg_sl ([.ref ((ad 0)), .int (iI 8), .ref ((ad (27 + pa))), .int (iI b)])).length) Slot.unset).toArray = ls at hl ⊢
  refine absQ (fun Q R av hQ hR hav => ?_)
  have hts : ∀ w ∈ gw, w.before av s = true := by rw [hav]; exact fun w h => hts0 w (List.mem_cons_of_mem _ h)
  have hRf : R.frames = 6 := by rw [hR]; rfl
  have hRl : R.locals = 290 := by rw [hR]; rfl
  have hRc : R.cells = 0 := by rw [hR]; rfl
  have hRs : R.slots = 0 := by rw [hR]; rfl
  clear hR hts0 Bd
  have hl : lv_has ls 6 [(0, .ref ((ad 0))), (1, .int (iI 8)), (2, .ref ((ad (27 + pa)))), (3, .int (iI b))] := hl
  have hfr : ∀ k, Awy ad k → f k = f k := fun _ _ => rfl
  refine lv_iload_n hx hb d_RR_ofOne_0 rfl (lv_at hl 1 rfl) ?_
  refine lv_tableIn (tgt := 85) hx hb d_RR_ofOne_1 (by decide +kernel) (by decide +kernel) (off := 84) (by decide +kernel) (by decide) ?_
  refine lv_aload_n hx hb d_RR_ofOne_85 rfl (lv_at hl 2 rfl) ?_
  refine x_calli B hA (va_runS (As := [.ref ((ad (27 + pa)))]) (rest := []) ⟨hx, hb, hml, hown, hts⟩ (c_RR_topOf l D cs _ _ _ (ad (27 + pa)) (Af (20 + pa)) (hAd.f1 (by have := ((Ar.va hpa)).lt; omega)) (hC.ar (Ar.va hpa)) (fun j hj => by have := hVa j hj; omega)) (va_cwS 1 hts (gw_S w_273 w_274 w_1 w_275) rfl rfl rfl (by decide +kernel) ⟨by rw [hRf]; exact Nat.le_of_ble_eq_true rfl, by rw [hRl]; exact Nat.le_of_ble_eq_true rfl⟩) ⟨K0.blind, B.pre _⟩ rfl rfl hl.1 rfl (lv_room (Nat.le_of_ble_eq_true rfl)) d_RR_ofOne_86 ⟨by rw [hRc]; omega, by rw [hRs]; omega⟩) (fun r86 g86 H locs hw B => ?_)
  obtain ⟨kt, rfl, hkt6, hktz, hktl, hgf⟩ := hw
  rw [hgf] at B
  refine lv_istore (lv' := [(4, .int (iI ((kt : Int) - 1))), (0, .ref ((ad 0))), (1, .int (iI 8)), (2, .ref ((ad (27 + pa)))), (3, .int (iI b))]) hx hb d_RR_ofOne_89 hl (by decide) rfl (fun ls hl => ?_)
  refine x_iconst hx hb d_RR_ofOne_91 ?_
  refine lv_istore (lv' := [(5, .int (iI 0)), (4, .int (iI ((kt : Int) - 1))), (0, .ref ((ad 0))), (1, .int (iI 8)), (2, .ref ((ad (27 + pa)))), (3, .int (iI b))]) hx hb d_RR_ofOne_92 hl (by decide) rfl (fun ls hl => ?_)
  have LA : ∀ (fuel : Nat) (fw : Nat → va_E) (Iw : Nat → Int) (Aw : Nat → Nat → Int) (Rw : Nat → Nat) (Zw : Nat → Int) (kk : Nat), 6 - kk < fuel → (CSt cs ad Qm fw Iw Aw Rw Zw) → (∀ k, Awy ad k → fw k = f k) → (kk ≤ kt) → (∀ i, Iw i = If i) → (∀ q, q ≠ 0 → Aw q = Af q) → (∀ j : Nat, Aw 0 j = if j < kk then Af (20 + pa) (kt - 1 - j) else Af 0 j) → ∀ (H : Heap) (locs : List Loc) (ls : Array Slot), Wb D vwCl (TY cs) L fw (AL L s.heap.size) s H locs → lv_has ls 6 [(5, .int (iI ((kk : Int)))), (4, .int (iI ((kt : Int) - 1))), (0, .ref ((ad 0))), (1, .int (iI 8)), (2, .ref ((ad (27 + pa)))), (3, .int (iI b))] → W p l e R s m av below meth c H locs (0) (0) Q (F0 m 94 ls []) := by
    intro fuel
    induction fuel with
    | zero => intro fw Iw Aw Rw Zw kk hfu; exact absurd hfu (Nat.not_lt_zero _)
    | succ fuel ih_LA =>
      intro fw Iw Aw Rw Zw kk hfu_LA hCw hfrw hkk hIw hAw hWw H locs ls B hl
      refine lv_iload hx hb d_RR_ofOne_94 (lv_at hl 0 rfl) ?_
      refine lv_iload hx hb d_RR_ofOne_96 (lv_at hl 1 rfl) ?_
      refine x_icmp_gt (tgt := 122) hx hb d_RR_ofOne_98 (by decide) (by omega) (by omega) (fun h98 => ?_) (fun h98 => ?_)
      · refine lv_goto (tgt := 131) hx hb d_RR_ofOne_122 (by decide) ?_
        subst hQ hav
        exact x_vret hx hb hr hlocks B d_RR_ofOne_131 (⟨Iw, Aw, Rw, Zw, hCw, hfrw, fun i _ => hIw i, fun q h1 _ _ _ => hAw q h1, kt, hkt6, hktz, hktl, fun j => by rw [hWw j, show kk = kt by omega]⟩)
      · refine lv_aload_n hx hb d_RR_ofOne_101 rfl (lv_at hl 2 rfl) ?_
        refine x_get (C := RX6) (T := TX6) (N := 14) hx hb hts inX6 hown (B.foc1 (hCw.x)) (hAd.f1 (by omega)) 0 rfl rfl 5 (by decide) (hts _ w_202) (fun _ h9 => h9) rfl d_RR_ofOne_102 ?_
        refine lv_iload hx hb d_RR_ofOne_105 (lv_at hl 0 rfl) ?_
        refine lv_aload_n hx hb d_RR_ofOne_107 rfl (lv_at hl 4 rfl) ?_
        refine lv_iload hx hb d_RR_ofOne_108 (lv_at hl 1 rfl) ?_
        refine lv_iload hx hb d_RR_ofOne_110 (lv_at hl 0 rfl) ?_
        refine x_isub hx hb d_RR_ofOne_112 ?_
        refine x_iald hx hb (B.foc1 (hCw.va (p := pa) (by omega))) (hAd.f1 (by omega)) 0 0 rfl rfl (kt - 1 - kk) (by omega) (by omega) (by decide) d_RR_ofOne_113 ?_
        have h19 : -1000 ≤ Aw (20 + pa) (kt - 1 - kk) ∧ Aw (20 + pa) (kt - 1 - kk) ≤ 1000 := by rw [hAw _ (by omega)]; exact hVa _ (by omega)
        refine x_i2l hx hb d_RR_ofOne_114 (by omega) ?_
        refine x_last hx hb (B.foc1 (hCw.wide)) (hAd.f1 (by omega)) 0 1 rfl rfl kk (by omega) (by omega) (by decide) d_RR_ofOne_115 (fun H locs B => ?_)
        have B : Wb D vwCl (TY cs) L (mw fw [((ad 8), .inl (cs 1, 12, .inr (.inl (al (up (Aw 0) kk (Aw (20 + pa) (kt - 1 - kk)))))))]) (AL L s.heap.size) s H _ := B
        obtain ⟨f_115, hf_115⟩ : ∃ f_115, f_115 = mw fw [((ad 8), .inl (cs 1, 12, .inr (.inl (al (up (Aw 0) kk (Aw (20 + pa) (kt - 1 - kk)))))))] := ⟨_, rfl⟩
        rw [← hf_115] at B
        obtain ⟨A_115, hA_115⟩ : ∃ A_115, A_115 = upA Aw 0 (up (Aw 0) kk (Aw (20 + pa) (kt - 1 - kk))) := ⟨_, rfl⟩
        have hC_115 : CSt cs ad Qm f_115 Iw A_115 Rw Zw := by rw [hf_115, hA_115]; exact CSt.w_wide hAd hCw _
        have hfr_115 : ∀ k, Awy ad k → f_115 k = f k := fun k hk => Eq.trans (by rw [hf_115]; exact hk.mw1 (by omega)) (hfrw k hk)
        refine x_iinc (lv' := [(5, .int (iI (((kk : Int)) + 1))), (4, .int (iI ((kt : Int) - 1))), (0, .ref ((ad 0))), (1, .int (iI 8)), (2, .ref ((ad (27 + pa)))), (3, .int (iI b))]) hx hb d_RR_ofOne_116 hl (q := 0) rfl rfl (by decide) rfl (fun ls hl => ?_)
        refine lv_goto (tgt := 94) hx hb d_RR_ofOne_119 (by decide) ?_
        exact ih_LA f_115 Iw A_115 Rw Zw (kk + 1) (by omega) hC_115 hfr_115 (by omega) hIw (fun q hq => by rw [hA_115, upA_ne _ _ hq]; exact hAw q hq) (fun j => by
          rw [hA_115, upA_self]
          by_cases c : j = kk
          · rw [c, up_self, if_pos (by omega), hAw _ (by omega)]
          · rw [up_ne _ _ c, hWw j]
            by_cases c2 : j < kk
            · rw [if_pos c2, if_pos (by omega)]
            · rw [if_neg c2, if_neg (by omega)]) _ _ _ B (lv_sub hl [0, 1, 2, 3, 4, 5] rfl)
  exact LA _ f If Af Rf Zf 0 (Nat.lt_succ_self _) hC hfr (Nat.zero_le _) (fun _ => rfl) (fun _ _ => rfl) (fun j => by rw [if_neg (Nat.not_lt_zero _)]) _ _ _ B (lv_sub hl [0, 1, 2, 3, 4, 5] rfl)
set_option maxHeartbeats 8000000 in
set_option maxRecDepth 100000 in
theorem c_RR_ofOne_9 (l : Launch) (D : va_G) (cs : Nat → ClassId) (L : List Nat) (f : Nat → va_E) (sz : Nat) (ad Qm : Nat → Nat) (If : Nat → Int) (Af : Nat → Nat → Int) (Rf : Nat → Nat) (Zf : Nat → Int) (pa : Nat) (b : Int) (hAd : AdOk L ad Qm) (hC : CSt cs ad Qm f If Af Rf Zf) (hpa : pa < 12) (hhd : 0 ≤ If 0 ∧ If 0 ≤ 12) (hVa : ∀ j, j < 6 → -1000 ≤ Af (20 + pa) j ∧ Af (20 + pa) j ≤ 1000) (hb9 : -1000 ≤ b ∧ b ≤ 1000) (hbr : -2147483648 ≤ b ∧ b < 2147483648) : Met l (⟨"RealRoots", "ofOne", "(I[II)V"⟩ : MethodName) (.code (⟨"RealRoots", "ofOne", "(I[II)V"⟩ : MethodName) prog_1_method_29_code 6 (Option.none : Option Jvm.ClassFile.FieldType) :: gw) ({ frames := 6, cells := 0, slots := 0, locals := 290 }) (va_Pc [.ref ((ad 0)), .int (iI 9), .ref ((ad (27 + pa))), .int (iI b)] (K0 D vwCl (TY cs) L f sz)) (va_Qv (fun (g : Nat → va_E) => ∃ (I' : Nat → Int) (A' : Nat → Nat → Int) (R' : Nat → Nat) (Z' : Nat → Int), CSt cs ad Qm g I' A' R' Z' ∧ (∀ k, Awy ad k → g k = f k) ∧ (∀ i, i ≠ 3 → I' i = If i) ∧ (∀ q, q ≠ 0 → q ≠ 1 → q ≠ 2 → q ≠ 7 → A' q = Af q) ∧ (∀ j : Nat, j < 6 → A' 0 j = Af (20 + pa) j * b ^ j) ∧ ∀ j : Nat, 6 ≤ j → A' 0 j = Af 0 j) (K1 D vwCl (TY cs) (AL L sz) L) (AL L sz)) 0 0 (AL L sz) := by
  refine Met.ofW (cc := prog_1_method_29_code) (maxL := 6) (ret := (Option.none : Option Jvm.ClassFile.FieldType)) (by decide) rfl ?_
  intro p e s m args below meth c s₁ Bd hml hv
  obtain ⟨rfl, hk0⟩ := hv
  obtain ⟨hsz, B⟩ := hk0.start
  subst hsz
  have hx := Bd.exec
  have hb := Bd.bytes
  have hr := Bd.returns
  have hlocks := Bd.notSynchronized
  have hts0 := atoms_spec Bd.pre
  have hown : s.vm.findClass RX6 = some m.cls := findClass_of_methodNamed Bd.named
  have hA : ∀ q, s.heap.size ≤ q → AL L s.heap.size q := fun _ h => Or.inr h
  have hl := lv_entry ([.ref ((ad 0)), .int (iI 9), .ref ((ad (27 + pa))), .int (iI b)]) (n := 6) (Nat.le_of_ble_eq_true rfl)
  rw [lg_entry_eq]
  generalize (lg_sl ([.ref ((ad 0)), .int (iI 9), .ref ((ad (27 + pa))), .int (iI b)]) ++ List.replicate (6 - (lg_sl ([.ref ((ad 0)), .int (iI 9), .ref ((ad (27 + pa))), .int (iI b)])).length) Slot.unset).toArray = ls at hl ⊢
  refine absQ (fun Q R av hQ hR hav => ?_)
  have hts : ∀ w ∈ gw, w.before av s = true := by rw [hav]; exact fun w h => hts0 w (List.mem_cons_of_mem _ h)
  have hRf : R.frames = 6 := by rw [hR]; rfl
  have hRl : R.locals = 290 := by rw [hR]; rfl
  have hRc : R.cells = 0 := by rw [hR]; rfl
  have hRs : R.slots = 0 := by rw [hR]; rfl
  clear hR hts0 Bd
  have hl : lv_has ls 6 [(0, .ref ((ad 0))), (1, .int (iI 9)), (2, .ref ((ad (27 + pa)))), (3, .int (iI b))] := hl
  have hfr : ∀ k, Awy ad k → f k = f k := fun _ _ => rfl
  refine lv_iload_n hx hb d_RR_ofOne_0 rfl (lv_at hl 1 rfl) ?_
  refine lv_tableOut (tgt := 125) hx hb d_RR_ofOne_1 (Or.inr (by decide +kernel)) (by decide) ?_
  refine lv_aload_n hx hb d_RR_ofOne_125 rfl (lv_at hl 0 rfl) ?_
  refine lv_aload_n hx hb d_RR_ofOne_126 rfl (lv_at hl 2 rfl) ?_
  refine lv_iload_n hx hb d_RR_ofOne_127 rfl (lv_at hl 3 rfl) ?_
  refine x_callv B hA (va_runV (As := [.ref ((ad (27 + pa))), .int (iI b)]) (rest := []) ⟨hx, hb, hml, hown, hts⟩ (c_RR_stretched l D cs _ _ _ (ad 0) (ad 1) (ad 2) (ad 5) (ad 7) (ad 8) (ad 9) (ad 10) (ad 11) (ad 12) (ad 13) (ad 14) (If 0) (If 1) (If 2) (ad (27 + pa)) (Af 0) (Af (20 + pa)) b (hAd.fc [0, 8, 27 + pa] (by have := ((Ar.va hpa)).lt; simp only [List.nodup_cons, List.mem_cons, List.not_mem_nil, or_false, not_or, List.nodup_nil, and_true, not_false_eq_true]; omega) (by have := ((Ar.va hpa)).lt; intro q hq; simp only [List.mem_cons, List.not_mem_nil, or_false] at hq; omega)) hC.x hC.wide (hC.ar (Ar.va hpa)) hVa (hb9)) (cwV 2 hts (gw_V w_358 w_360 s_13 w_1 w_361) rfl rfl rfl (by decide +kernel) ⟨by rw [hRf]; exact Nat.le_of_ble_eq_true rfl, by rw [hRl]; exact Nat.le_of_ble_eq_true rfl⟩) ⟨K0.blind, B.recv (hAd.1 _ (by omega)) (hC.x) rfl, B.pre _⟩ rfl rfl hl.1 rfl (lv_room (Nat.le_of_ble_eq_true rfl)) d_RR_ofOne_128 ⟨by rw [hRc]; omega, by rw [hRs]; omega⟩) (fun g128 H locs hw B => ?_)
  obtain ⟨wz, hwz, hwzh, rfl⟩ := hw
  have B : Wb D vwCl (TY cs) L (mw f [((ad 8), .inl (cs 1, 12, .inr (.inl (al wz))))]) (AL L s.heap.size) s H _ := B
  obtain ⟨f_128, hf_128⟩ : ∃ f_128, f_128 = mw f [((ad 8), .inl (cs 1, 12, .inr (.inl (al wz))))] := ⟨_, rfl⟩
  rw [← hf_128] at B
  obtain ⟨A_128, hA_128⟩ : ∃ A_128, A_128 = upA Af 0 wz := ⟨_, rfl⟩
  have hC_128 : CSt cs ad Qm f_128 If A_128 Rf Zf := by rw [hf_128, hA_128]; exact CSt.w_wide hAd hC _
  have hfr_128 : ∀ k, Awy ad k → f_128 k = f k := fun k hk => Eq.trans (by rw [hf_128]; exact hk.mw1 (by omega)) (hfr k hk)
  subst hQ hav
  exact x_vret hx hb hr hlocks B d_RR_ofOne_131 (⟨If, A_128, Rf, Zf, hC_128, hfr_128, fun _ _ => rfl, fun q h1 _ _ _ => by rw [hA_128, upA_ne _ _ h1], fun j hj => by rw [hA_128, upA_self]; exact hwz j hj, fun j hj => by rw [hA_128, upA_self]; exact hwzh j hj⟩)
