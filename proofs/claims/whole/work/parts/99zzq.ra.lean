theorem d_Ratio_quotient_0 : decode prog_6_method_4_code 0 = .ok (.aload_n 0, 1) := by decide +kernel
theorem d_Ratio_quotient_1 : decode prog_6_method_4_code 1 = .ok (.getfield 26, 3) := by decide +kernel
theorem d_Ratio_quotient_4 : decode prog_6_method_4_code 4 = .ok (.aload_n 1, 1) := by decide +kernel
theorem d_Ratio_quotient_5 : decode prog_6_method_4_code 5 = .ok (.invokevirtual 60, 3) := by decide +kernel
theorem d_Ratio_quotient_8 : decode prog_6_method_4_code 8 = .ok (.aload_n 0, 1) := by decide +kernel
theorem d_Ratio_quotient_9 : decode prog_6_method_4_code 9 = .ok (.getfield 26, 3) := by decide +kernel
theorem d_Ratio_quotient_12 : decode prog_6_method_4_code 12 = .ok (.aload_n 0, 1) := by decide +kernel
theorem d_Ratio_quotient_13 : decode prog_6_method_4_code 13 = .ok (.getfield 29, 3) := by decide +kernel
theorem d_Ratio_quotient_16 : decode prog_6_method_4_code 16 = .ok (.invokevirtual 68, 3) := by decide +kernel
theorem d_Ratio_quotient_19 : decode prog_6_method_4_code 19 = .ok (.lstore_n 2, 1) := by decide +kernel
theorem d_Ratio_quotient_20 : decode prog_6_method_4_code 20 = .ok (.aload_n 0, 1) := by decide +kernel
theorem d_Ratio_quotient_21 : decode prog_6_method_4_code 21 = .ok (.getfield 32, 3) := by decide +kernel
theorem d_Ratio_quotient_24 : decode prog_6_method_4_code 24 = .ok (.lload_n 2, 1) := by decide +kernel
theorem d_Ratio_quotient_25 : decode prog_6_method_4_code 25 = .ok (.invokevirtual 71, 3) := by decide +kernel
theorem d_Ratio_quotient_28 : decode prog_6_method_4_code 28 = .ok (.aload_n 0, 1) := by decide +kernel
theorem d_Ratio_quotient_29 : decode prog_6_method_4_code 29 = .ok (.getfield 26, 3) := by decide +kernel
theorem d_Ratio_quotient_32 : decode prog_6_method_4_code 32 = .ok (.aload_n 0, 1) := by decide +kernel
theorem d_Ratio_quotient_33 : decode prog_6_method_4_code 33 = .ok (.getfield 32, 3) := by decide +kernel
theorem d_Ratio_quotient_36 : decode prog_6_method_4_code 36 = .ok (.aload_n 0, 1) := by decide +kernel
theorem d_Ratio_quotient_37 : decode prog_6_method_4_code 37 = .ok (.getfield 29, 3) := by decide +kernel
theorem d_Ratio_quotient_40 : decode prog_6_method_4_code 40 = .ok (.invokevirtual 75, 3) := by decide +kernel
theorem d_Ratio_quotient_43 : decode prog_6_method_4_code 43 = .ok (.aload_n 0, 1) := by decide +kernel
theorem d_Ratio_quotient_44 : decode prog_6_method_4_code 44 = .ok (.getfield 26, 3) := by decide +kernel
theorem d_Ratio_quotient_47 : decode prog_6_method_4_code 47 = .ok (.aload_n 1, 1) := by decide +kernel
theorem d_Ratio_quotient_48 : decode prog_6_method_4_code 48 = .ok (.iconst (-1), 1) := by decide +kernel
theorem d_Ratio_quotient_49 : decode prog_6_method_4_code 49 = .ok (.invokevirtual 64, 3) := by decide +kernel
theorem d_Ratio_quotient_52 : decode prog_6_method_4_code 52 = .ok (.aload_n 0, 1) := by decide +kernel
theorem d_Ratio_quotient_53 : decode prog_6_method_4_code 53 = .ok (.getfield 26, 3) := by decide +kernel
theorem d_Ratio_quotient_56 : decode prog_6_method_4_code 56 = .ok (.getfield 35, 3) := by decide +kernel
theorem d_Ratio_quotient_59 : decode prog_6_method_4_code 59 = .ok (.ifCond .ne 7, 3) := by decide +kernel
theorem d_Ratio_quotient_62 : decode prog_6_method_4_code 62 = .ok (.lload_n 2, 1) := by decide +kernel
theorem d_Ratio_quotient_63 : decode prog_6_method_4_code 63 = .ok (.goto 4, 3) := by decide +kernel
theorem d_Ratio_quotient_66 : decode prog_6_method_4_code 66 = .ok (.lconst 0, 1) := by decide +kernel
theorem d_Ratio_quotient_67 : decode prog_6_method_4_code 67 = .ok (.lreturn, 1) := by decide +kernel
set_option maxHeartbeats 8000000 in
set_option maxRecDepth 100000 in
theorem c_Ra_quotient (l : Launch) (D : va_G) (cs : Nat → ClassId) (L : List Nat) (f : Nat → va_E) (sz : Nat) (ad Qm : Nat → Nat) (If : Nat → Int) (Af : Nat → Nat → Int) (Rf : Nat → Nat) (Zf : Nat → Int) (kq G : Nat) (hAd : AdOk L ad Qm) (hC : CSt cs ad Qm f If Af Rf Zf) (hkq : kq = 239 ∨ kq = 240) (hG : Zf (ad 242) = (G : Int)) (hGo : G % 2 = 1) (hdv : (G : Int) ∣ Zf (ad kq)) (hGb : (G : Int) < 2 ^ 240) (hb2 : ((Zf (ad kq)).natAbs : Int) < 2 ^ 240) : Met l (⟨"RealRoots$Ratio", "quotient", "(LRealRoots$Big;)J"⟩ : MethodName) (.code (⟨"RealRoots$Ratio", "quotient", "(LRealRoots$Big;)J"⟩ : MethodName) prog_6_method_4_code 4 (Option.some Jvm.ClassFile.FieldType.long) :: gw) ({ frames := 3, cells := 0, slots := 0, locals := 80 }) (va_Pc [.ref ((ad 7)), .ref ((ad kq))] (K0 D vwCl (TY cs) L f sz)) (va_Ql (fun (r : Int64) (g : Nat → va_E) => ∃ (I' : Nat → Int) (A' : Nat → Nat → Int) (R' : Nat → Nat) (Z' : Nat → Int), CSt cs ad Qm g I' A' R' Z' ∧ (∀ k, Awy ad k → g k = f k) ∧ (∀ i, I' i = If i) ∧ (∀ q, A' q = Af q) ∧ r = lI (if ((Zf (ad kq) / (G : Int)).natAbs : Int) < 4611686018427387904 then Zf (ad kq) / (G : Int) else 0) ∧ ∀ z, z ≠ ad 241 → z ≠ ad 243 → Z' z = Zf z) (K1 D vwCl (TY cs) (AL L sz) L) (AL L sz)) 0 0 (AL L sz) := by
  refine Met.ofW (cc := prog_6_method_4_code) (maxL := 4) (ret := (Option.some Jvm.ClassFile.FieldType.long)) (by decide) rfl ?_
  intro p e s m args below meth c s₁ Bd hml hv
  obtain ⟨rfl, hk0⟩ := hv
  obtain ⟨hsz, B⟩ := hk0.start
  subst hsz
  have hx := Bd.exec
  have hb := Bd.bytes
  have hr := Bd.returns
  have hlocks := Bd.notSynchronized
  have hts0 := atoms_spec Bd.pre
  have hown : s.vm.findClass RX4 = some m.cls := findClass_of_methodNamed Bd.named
  have hA : ∀ q, s.heap.size ≤ q → AL L s.heap.size q := fun _ h => Or.inr h
  have hl := lv_entry ([.ref ((ad 7)), .ref ((ad kq))]) (n := 4) (Nat.le_of_ble_eq_true rfl)
  rw [lg_entry_eq]
  generalize (lg_sl ([.ref ((ad 7)), .ref ((ad kq))]) ++ List.replicate (4 - (lg_sl ([.ref ((ad 7)), .ref ((ad kq))])).length) Slot.unset).toArray = ls at hl ⊢
  refine absQ (fun Q R av hQ hR hav => ?_)
  have hts : ∀ w ∈ gw, w.before av s = true := by rw [hav]; exact fun w h => hts0 w (List.mem_cons_of_mem _ h)
  have hRf : R.frames = 3 := by rw [hR]; rfl
  have hRl : R.locals = 80 := by rw [hR]; rfl
  have hRc : R.cells = 0 := by rw [hR]; rfl
  have hRs : R.slots = 0 := by rw [hR]; rfl
  clear hR hts0 Bd
  have hl : lv_has ls 4 [(0, .ref ((ad 7))), (1, .ref ((ad kq)))] := hl
  have hfr : ∀ k, Awy ad k → f k = f k := fun _ _ => rfl
  refine lv_aload_n hx hb d_Ratio_quotient_0 rfl (lv_at hl 0 rfl) ?_
  refine x_get (C := RX4) (T := TX4) (N := 7) hx hb hts inX4 hown (B.foc1 (hC.ra)) (hAd.f1 (by omega)) 0 rfl rfl 4 (by decide) (hts _ w_130) (fun _ h9 => h9) rfl d_Ratio_quotient_1 ?_
  refine lv_aload_n hx hb d_Ratio_quotient_4 rfl (lv_at hl 1 rfl) ?_
  obtain ⟨sdb50, nnb50, lmb50, c1b50, c2b50, c3b50⟩ := hC.2.2.1 (ad 241) (Bg.pl (by decide))
  obtain ⟨sdb51, nnb51, lmb51, c1b51, c2b51, c3b51⟩ := hC.2.2.1 (ad kq) (Bg.pl (by omega))
  refine x_callv B hA (va_runV (As := [.ref ((ad kq))]) (rest := []) ⟨hx, hb, hml, hown, hts⟩ (c_Big_copy l D cs _ _ _ (ad 241) (Qm (ad 241)) sdb50 nnb50 lmb50 (ad kq) (Qm (ad kq)) sdb51 nnb51 lmb51 (Zf (ad kq)) (hAd.sp.fc2 (Bg.pl (by decide)) (Bg.pl (by omega)) (hAd.ne (by omega) (by omega) (by omega))) c1b50 c2b50 c1b51 c2b51 c3b51) (cwV 1 hts (gw_V w_661 w_303 w_304 w_3 w_305) rfl rfl rfl (by decide +kernel) ⟨by rw [hRf]; exact Nat.le_of_ble_eq_true rfl, by rw [hRl]; exact Nat.le_of_ble_eq_true rfl⟩) ⟨K0.blind, B.recv (hAd.1 _ (by omega)) (c1b50) rfl, B.pre _⟩ rfl rfl hl.1 rfl (lv_room (Nat.le_of_ble_eq_true rfl)) d_Ratio_quotient_5 ⟨by rw [hRc]; omega, by rw [hRs]; omega⟩) (fun g5 H locs hw B => ?_)
  obtain ⟨s1_5, n1_5, l1_5, hz_5, hg_5⟩ := hw
  obtain ⟨hC_5, hq_5⟩ := CSt.big1 hAd hC (Bg.pl (by decide)) hz_5 hg_5
  obtain ⟨Z_5, hZ_5⟩ : ∃ Z_5, Z_5 = up Zf (ad 241) (Zf (ad kq)) := ⟨_, rfl⟩
  rw [← hZ_5] at hC_5
  have hfr_5 : ∀ k, Awy ad k → g5 k = f k := fun k hk => (hq_5 k hk).trans (hfr k hk)
  have B : Wb D vwCl (TY cs) L g5 (AL L s.heap.size) s H _ := B
  refine lv_aload_n hx hb d_Ratio_quotient_8 rfl (lv_at hl 0 rfl) ?_
  refine x_get (C := RX4) (T := TX4) (N := 7) hx hb hts inX4 hown (B.foc1 (hC_5.ra)) (hAd.f1 (by omega)) 0 rfl rfl 4 (by decide) (hts _ w_130) (fun _ h9 => h9) rfl d_Ratio_quotient_9 ?_
  refine lv_aload_n hx hb d_Ratio_quotient_12 rfl (lv_at hl 0 rfl) ?_
  refine x_get (C := RX4) (T := TX4) (N := 7) hx hb hts inX4 hown (B.foc1 (hC_5.ra)) (hAd.f1 (by omega)) 0 rfl rfl 5 (by decide) (hts _ w_131) (fun _ h9 => h9) rfl d_Ratio_quotient_13 ?_
  obtain ⟨sdb160, nnb160, lmb160, c1b160, c2b160, c3b160⟩ := hC_5.2.2.1 (ad 241) (Bg.pl (by decide))
  obtain ⟨sdb161, nnb161, lmb161, c1b161, c2b161, c3b161⟩ := hC_5.2.2.1 (ad 242) (Bg.pl (by decide))
  refine x_calll B hA (va_runV (As := [.ref ((ad 242))]) (rest := []) ⟨hx, hb, hml, hown, hts⟩ (c_Big_over l D cs _ _ _ (ad 241) (Qm (ad 241)) sdb160 nnb160 lmb160 (Z_5 (ad 241)) (ad 242) (Qm (ad 242)) sdb161 nnb161 lmb161 (Z_5 (ad 242)) (hAd.sp.fc2 (Bg.pl (by decide)) (Bg.pl (by decide)) (hAd.ne (by omega) (by omega) (by omega))) c1b160 c2b160 c3b160 c1b161 c2b161 c3b161 (by rw [hZ_5, up_ne _ _ (hAd.ne (by omega) (by omega) (by omega)), hG]; omega) (by rw [hZ_5, up_ne _ _ (hAd.ne (by omega) (by omega) (by omega)), hG, up_self]; exact hdv)) (cwV 1 hts (gw_V w_667 w_322 w_323 w_3 w_324) rfl rfl rfl (by decide +kernel) ⟨by rw [hRf]; exact Nat.le_of_ble_eq_true rfl, by rw [hRl]; exact Nat.le_of_ble_eq_true rfl⟩) ⟨K0.blind, B.recv (hAd.1 _ (by omega)) (c1b160) rfl, B.pre _⟩ rfl rfl hl.1 rfl (lv_room (Nat.le_of_ble_eq_true rfl)) d_Ratio_quotient_16 ⟨by rw [hRc]; omega, by rw [hRs]; omega⟩) (fun r16 g16 H locs hw B => ?_)
  obtain ⟨rfl, t_16, ht_16, s1_16, n1_16, l1_16, s2_16, n2_16, l2_16, hz1_16, hz2_16, hg_16⟩ := hw
  have hz241 : Z_5 (ad 241) = Zf (ad kq) := by rw [hZ_5, up_self]
  have hz242 : Z_5 (ad 242) = (G : Int) := by rw [hZ_5, up_ne _ _ (hAd.ne (by omega) (by omega) (by omega))]; exact hG
  rw [hz241] at hz1_16
  rw [hz242] at hz2_16 ht_16
  obtain ⟨o_16, ho_16, _⟩ := ht_16
  have ht0_16 := odd_t0 hGo ho_16
  rw [ht0_16, Int.pow_zero, Int.tdiv_one] at hz1_16 hz2_16
  obtain ⟨hC_16, hq_16⟩ := CSt.big2 hAd hC_5 (Bg.pl (by decide)) (Bg.pl (by decide)) hz1_16 hz2_16 hg_16
  obtain ⟨Z_16, hZ_16⟩ : ∃ Z_16, Z_16 = up (up Z_5 (ad 242) (G : Int)) (ad 241) (Zf (ad kq)) := ⟨_, rfl⟩
  rw [← hZ_16] at hC_16
  have hfr_16 : ∀ k, Awy ad k → g16 k = f k := fun k hk => (hq_16 k hk).trans (hfr_5 k hk)
  have B : Wb D vwCl (TY cs) L g16 (AL L s.heap.size) s H _ := B
  rw [hz241, hz242]
  obtain ⟨fo, hfo⟩ : ∃ fo : Int, fo = (Zf (ad kq)).sign * (G : Int).sign * (((Zf (ad kq) / (G : Int)).natAbs : Int) % 4611686018427387904) := ⟨_, rfl⟩
  rw [← hfo]
  obtain ⟨hfor, hfo1, hfo2⟩ := quo_fo hGo hdv hfo
  clear hfo
  obtain ⟨hbd1, hbd2⟩ := bnd_302 hfor hGb hb2
  refine lv_lstore_n (lv' := [(2, .long (lI fo)), (0, .ref ((ad 7))), (1, .ref ((ad kq)))]) hx hb d_Ratio_quotient_19 rfl hl (by decide) rfl (fun ls hl => ?_)
  refine lv_aload_n hx hb d_Ratio_quotient_20 rfl (lv_at hl 1 rfl) ?_
  refine x_get (C := RX4) (T := TX4) (N := 7) hx hb hts inX4 hown (B.foc1 (hC_16.ra)) (hAd.f1 (by omega)) 0 rfl rfl 6 (by decide) (hts _ w_132) (fun _ h9 => h9) rfl d_Ratio_quotient_21 ?_
  refine lv_lload_n hx hb d_Ratio_quotient_24 rfl (lv_at hl 0 rfl) ?_
  obtain ⟨sdb250, nnb250, lmb250, c1b250, c2b250, c3b250⟩ := hC_16.2.2.1 (ad 243) (Bg.pl (by decide))
  refine x_callv B hA (va_runV (As := [.long (lI fo)]) (rest := []) ⟨hx, hb, hml, hown, hts⟩ (c_Big_put l D cs _ _ _ (ad 243) (Qm (ad 243)) sdb250 nnb250 lmb250 fo (hAd.sp.fc1 (Bg.pl (by decide))) c1b250 c2b250 (by omega)) (cwV 1 hts (gw_V w_668 w_294 w_295 w_3 w_296) rfl rfl rfl (by decide +kernel) ⟨by rw [hRf]; exact Nat.le_of_ble_eq_true rfl, by rw [hRl]; exact Nat.le_of_ble_eq_true rfl⟩) ⟨K0.blind, B.recv (hAd.1 _ (by omega)) (c1b250) rfl, B.pre _⟩ rfl rfl hl.1 rfl (lv_room (Nat.le_of_ble_eq_true rfl)) d_Ratio_quotient_25 ⟨by rw [hRc]; omega, by rw [hRs]; omega⟩) (fun g25 H locs hw B => ?_)
  obtain ⟨s1_25, n1_25, l1_25, hz_25, hg_25⟩ := hw
  obtain ⟨hC_25, hq_25⟩ := CSt.big1 hAd hC_16 (Bg.pl (by decide)) hz_25 hg_25
  obtain ⟨Z_25, hZ_25⟩ : ∃ Z_25, Z_25 = up Z_16 (ad 243) fo := ⟨_, rfl⟩
  rw [← hZ_25] at hC_25
  have hfr_25 : ∀ k, Awy ad k → g25 k = f k := fun k hk => (hq_25 k hk).trans (hfr_16 k hk)
  have B : Wb D vwCl (TY cs) L g25 (AL L s.heap.size) s H _ := B
  refine lv_aload_n hx hb d_Ratio_quotient_28 rfl (lv_at hl 1 rfl) ?_
  refine x_get (C := RX4) (T := TX4) (N := 7) hx hb hts inX4 hown (B.foc1 (hC_25.ra)) (hAd.f1 (by omega)) 0 rfl rfl 4 (by decide) (hts _ w_130) (fun _ h9 => h9) rfl d_Ratio_quotient_29 ?_
  refine lv_aload_n hx hb d_Ratio_quotient_32 rfl (lv_at hl 1 rfl) ?_
  refine x_get (C := RX4) (T := TX4) (N := 7) hx hb hts inX4 hown (B.foc1 (hC_25.ra)) (hAd.f1 (by omega)) 0 rfl rfl 6 (by decide) (hts _ w_132) (fun _ h9 => h9) rfl d_Ratio_quotient_33 ?_
  refine lv_aload_n hx hb d_Ratio_quotient_36 rfl (lv_at hl 1 rfl) ?_
  refine x_get (C := RX4) (T := TX4) (N := 7) hx hb hts inX4 hown (B.foc1 (hC_25.ra)) (hAd.f1 (by omega)) 0 rfl rfl 5 (by decide) (hts _ w_131) (fun _ h9 => h9) rfl d_Ratio_quotient_37 ?_
  have hz243 : Z_25 (ad 243) = fo := by rw [hZ_25, up_self]
  have hz2422 : Z_25 (ad 242) = (G : Int) := by rw [hZ_25, up_ne _ _ (hAd.ne (by omega) (by omega) (by omega)), hZ_16, up_ne _ _ (hAd.ne (by omega) (by omega) (by omega)), up_self]
  obtain ⟨sdb400, nnb400, lmb400, c1b400, c2b400, c3b400⟩ := hC_25.2.2.1 (ad 241) (Bg.pl (by decide))
  obtain ⟨sdb401, nnb401, lmb401, c1b401, c2b401, c3b401⟩ := hC_25.2.2.1 (ad 243) (Bg.pl (by decide))
  obtain ⟨sdb402, nnb402, lmb402, c1b402, c2b402, c3b402⟩ := hC_25.2.2.1 (ad 242) (Bg.pl (by decide))
  refine x_callv B hA (va_runV (As := [.ref ((ad 243)), .ref ((ad 242))]) (rest := []) ⟨hx, hb, hml, hown, hts⟩ (c_Big_product l D cs _ _ _ (ad 241) (Qm (ad 241)) sdb400 nnb400 lmb400 (ad 243) (Qm (ad 243)) sdb401 nnb401 lmb401 (Z_25 (ad 243)) (ad 242) (Qm (ad 242)) sdb402 nnb402 lmb402 (Z_25 (ad 242)) (hAd.sp.fc3 (Bg.pl (by decide)) (Bg.pl (by decide)) (Bg.pl (by decide)) (hAd.ne (by omega) (by omega) (by omega)) (hAd.ne (by omega) (by omega) (by omega)) (hAd.ne (by omega) (by omega) (by omega))) c1b400 c2b400 c1b401 c2b401 c3b401 c1b402 c2b402 c3b402 (by rw [hz243, hz2422]; exact hbd1)) (cwV 2 hts (gw_V w_669 w_307 w_308 w_3 w_309) rfl rfl rfl (by decide +kernel) ⟨by rw [hRf]; exact Nat.le_of_ble_eq_true rfl, by rw [hRl]; exact Nat.le_of_ble_eq_true rfl⟩) ⟨K0.blind, B.recv (hAd.1 _ (by omega)) (c1b400) rfl, B.pre _⟩ rfl rfl hl.1 rfl (lv_room (Nat.le_of_ble_eq_true rfl)) d_Ratio_quotient_40 ⟨by rw [hRc]; omega, by rw [hRs]; omega⟩) (fun g40 H locs hw B => ?_)
  rw [hz243, hz2422] at hw
  obtain ⟨s1_40, n1_40, l1_40, hz_40, hg_40⟩ := hw
  obtain ⟨hC_40, hq_40⟩ := CSt.big1 hAd hC_25 (Bg.pl (by decide)) hz_40 hg_40
  obtain ⟨Z_40, hZ_40⟩ : ∃ Z_40, Z_40 = up Z_25 (ad 241) (fo * (G : Int)) := ⟨_, rfl⟩
  rw [← hZ_40] at hC_40
  have hfr_40 : ∀ k, Awy ad k → g40 k = f k := fun k hk => (hq_40 k hk).trans (hfr_25 k hk)
  have B : Wb D vwCl (TY cs) L g40 (AL L s.heap.size) s H _ := B
  refine lv_aload_n hx hb d_Ratio_quotient_43 rfl (lv_at hl 1 rfl) ?_
  refine x_get (C := RX4) (T := TX4) (N := 7) hx hb hts inX4 hown (B.foc1 (hC_40.ra)) (hAd.f1 (by omega)) 0 rfl rfl 4 (by decide) (hts _ w_130) (fun _ h9 => h9) rfl d_Ratio_quotient_44 ?_
  refine lv_aload_n hx hb d_Ratio_quotient_47 rfl (lv_at hl 2 rfl) ?_
  refine x_iconst hx hb d_Ratio_quotient_48 ?_
  have hzkq : Z_25 (ad kq) = Zf (ad kq) := by rw [hZ_25, up_ne _ _ (hAd.ne (by omega) (by omega) (by omega)), hZ_16, up_ne _ _ (hAd.ne (by omega) (by omega) (by omega)), up_ne _ _ (hAd.ne (by omega) (by omega) (by omega)), hZ_5, up_ne _ _ (hAd.ne (by omega) (by omega) (by omega))]
  obtain ⟨sdb490, nnb490, lmb490, c1b490, c2b490, c3b490⟩ := hC_40.2.2.1 (ad 241) (Bg.pl (by decide))
  obtain ⟨sdb491, nnb491, lmb491, c1b491, c2b491, c3b491⟩ := hC_40.2.2.1 (ad kq) (Bg.pl (by omega))
  refine x_callv B hA (va_runV (As := [.ref ((ad kq)), .int (iI (-1))]) (rest := []) ⟨hx, hb, hml, hown, hts⟩ (c_Big_add l D cs _ _ _ (ad 241) (Qm (ad 241)) sdb490 nnb490 lmb490 (Z_40 (ad 241)) (ad kq) (Qm (ad kq)) sdb491 nnb491 lmb491 (Z_40 (ad kq)) (-1) (hAd.sp.fc2 (Bg.pl (by decide)) (Bg.pl (by omega)) (hAd.ne (by omega) (by omega) (by omega))) c1b490 c2b490 c3b490 c1b491 c2b491 c3b491 (Or.inr rfl) (by rw [hZ_40, up_self, up_ne _ _ (hAd.ne (by omega) (by omega) (by omega)), hzkq]; exact hbd2)) (cwV 2 hts (gw_V w_662 w_311 w_312 w_3 w_313) rfl rfl rfl (by decide +kernel) ⟨by rw [hRf]; exact Nat.le_of_ble_eq_true rfl, by rw [hRl]; exact Nat.le_of_ble_eq_true rfl⟩) ⟨K0.blind, B.recv (hAd.1 _ (by omega)) (c1b490) rfl, B.pre _⟩ rfl rfl hl.1 rfl (lv_room (Nat.le_of_ble_eq_true rfl)) d_Ratio_quotient_49 ⟨by rw [hRc]; omega, by rw [hRs]; omega⟩) (fun g49 H locs hw B => ?_)
  obtain ⟨s1_49, n1_49, l1_49, hz_49, hg_49⟩ := hw
  obtain ⟨hC_49, hq_49⟩ := CSt.big1 hAd hC_40 (Bg.pl (by decide)) hz_49 hg_49
  obtain ⟨Z_49, hZ_49⟩ : ∃ Z_49, Z_49 = up Z_40 (ad 241) (Z_40 (ad 241) + -1 * Z_40 (ad kq)) := ⟨_, rfl⟩
  rw [← hZ_49] at hC_49
  have hfr_49 : ∀ k, Awy ad k → g49 k = f k := fun k hk => (hq_49 k hk).trans (hfr_40 k hk)
  have B : Wb D vwCl (TY cs) L g49 (AL L s.heap.size) s H _ := B
  refine lv_aload_n hx hb d_Ratio_quotient_52 rfl (lv_at hl 1 rfl) ?_
  refine x_get (C := RX4) (T := TX4) (N := 7) hx hb hts inX4 hown (B.foc1 (hC_49.ra)) (hAd.f1 (by omega)) 0 rfl rfl 4 (by decide) (hts _ w_130) (fun _ h9 => h9) rfl d_Ratio_quotient_53 ?_
  obtain ⟨sdq56, nnq56, lmq56, c1q56, c2q56, c3q56⟩ := hC_49.2.2.1 (ad 241) (Bg.pl (by decide))
  refine x_get (C := RX0) (T := TX0) (N := 3) hx hb hts inX0 hown (B.foc1 c1q56) (hAd.f1 (by omega)) 0 rfl rfl 0 (by decide) (hts _ w_39) (fun _ h9 => h9) rfl d_Ratio_quotient_56 ?_
  rw [show sdq56 = (Z_49 (ad 241)).sign from c3q56.2.2.2.2.1]
  have hz49 : Z_49 (ad 241) = fo * (G : Int) - Zf (ad kq) := by rw [hZ_49, up_self, hZ_40, up_self, up_ne _ _ (hAd.ne (by omega) (by omega) (by omega)), hzkq]; omega
  rw [hz49]
  obtain ⟨sx, hsx⟩ : ∃ sx : Int, sx = (fo * (G : Int) - Zf (ad kq)).sign := ⟨_, rfl⟩
  rw [← hsx]
  have hsxc : (sx = 0 ∧ fo * (G : Int) = Zf (ad kq)) ∨ (sx ≠ 0 ∧ fo * (G : Int) ≠ Zf (ad kq)) := by rcases Int.lt_trichotomy (fo * (G : Int) - Zf (ad kq)) 0 with k | k | k; exact Or.inr ⟨by rw [hsx, Int.sign_eq_neg_one_of_neg k]; decide, by omega⟩; exact Or.inl ⟨by rw [hsx, k]; rfl, by omega⟩; exact Or.inr ⟨by rw [hsx, Int.sign_eq_one_of_pos k]; decide, by omega⟩
  have hsxr : -1 ≤ sx ∧ sx ≤ 1 := by rw [hsx]; exact sign_rng _
  refine x_if_ne (tgt := 66) hx hb d_Ratio_quotient_59 (by decide) (by omega) (fun h59 => ?_) (fun h59 => ?_)
  · refine x_lconst (z := 0) hx hb d_Ratio_quotient_66 (by decide) ?_
    subst hQ hav
    exact x_lret hx hb hr hlocks B d_Ratio_quotient_67 (⟨If, Af, Rf, Z_49, hC_49, hfr_49, fun _ => rfl, fun _ => rfl, by rw [if_neg (fun k => by have h9 := (hfo1 k).2; rcases hsxc with ⟨h, _⟩ | ⟨_, h⟩; omega; exact h h9)], fun z h1 h2 => by rw [hZ_49, up_ne _ _ h1, hZ_40, up_ne _ _ h1, hZ_25, up_ne _ _ h2, hZ_16, up_ne _ _ h1]; by_cases k : z = ad 242; rw [k, up_self]; exact hG.symm; rw [up_ne _ _ k, hZ_5, up_ne _ _ h1]⟩)
  · refine lv_lload_n hx hb d_Ratio_quotient_62 rfl (lv_at hl 0 rfl) ?_
    refine lv_goto (tgt := 67) hx hb d_Ratio_quotient_63 (by decide) ?_
    subst hQ hav
    exact x_lret hx hb hr hlocks B d_Ratio_quotient_67 (⟨If, Af, Rf, Z_49, hC_49, hfr_49, fun _ => rfl, fun _ => rfl, by rw [if_pos (by rcases Int.lt_or_le ((Zf (ad kq) / (G : Int)).natAbs : Int) 4611686018427387904 with k | k; exact k; exact absurd (show fo * (G : Int) = Zf (ad kq) by rcases hsxc with ⟨_, h⟩ | ⟨h, _⟩; exact h; omega) (hfo2 k))]; exact congrArg lI (hfo1 (by rcases Int.lt_or_le ((Zf (ad kq) / (G : Int)).natAbs : Int) 4611686018427387904 with k | k; exact k; exact absurd (show fo * (G : Int) = Zf (ad kq) by rcases hsxc with ⟨_, h⟩ | ⟨h, _⟩; exact h; omega) (hfo2 k))).1, fun z h1 h2 => by rw [hZ_49, up_ne _ _ h1, hZ_40, up_ne _ _ h1, hZ_25, up_ne _ _ h2, hZ_16, up_ne _ _ h1]; by_cases k : z = ad 242; rw [k, up_self]; exact hG.symm; rw [up_ne _ _ k, hZ_5, up_ne _ _ h1]⟩)
