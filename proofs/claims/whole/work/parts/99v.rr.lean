theorem gcd_zero {a b z : Nat → Int} (ha : ∀ j, j < 6 → a j = 0) (h : PrimOf b z) : Gcd a b z := by
  rcases h with ⟨h1, h2⟩ | ⟨c, hc, h1, h2, h3⟩
  · exact Or.inl ⟨ha, h1, h2⟩
  · have hc' : (c : Rat) ≠ 0 := fun h0 => hc (by exact_mod_cast h0)
    have hcc : (c : Rat)⁻¹ * (c : Rat) = 1 := Rat.inv_mul_cancel _ hc'
    have e : ∀ x, es b 6 x = (c : Rat) * es z 6 x := fun x => by rw [es_congr h1 x, es_sc]
    refine Or.inr ⟨h2, h3, ⟨[], [(c : Rat)⁻¹], fun x => ?_⟩, ⟨[], fun x => ?_⟩, ⟨[(c : Rat)], fun x => ?_⟩⟩
    · rw [e x]; simp only [ev]; grind
    · rw [← es_ev, es_zero ha]; simp only [ev]; grind
    · rw [← es_ev, ← es_ev, e x]; simp only [ev]; grind
theorem Cmb.symm {A B C : Nat → Int} (h : Cmb A B C) : Cmb B A C := by
  obtain ⟨u, w, h1⟩ := h
  exact ⟨w, u, fun x => by rw [h1 x]; grind⟩
theorem PrimOf.congr1 {A A' C : Nat → Int} (h : PrimOf A C) (hh : ∀ j, j < 6 → A' j = A j) : PrimOf A' C := by
  rcases h with ⟨h1, h2⟩ | ⟨c, hc, h1, h2⟩
  · exact Or.inl ⟨fun j hj => by rw [hh j hj]; exact h1 j hj, h2⟩
  · exact Or.inr ⟨c, hc, fun j hj => by rw [hh j hj]; exact h1 j hj, h2⟩
theorem lead_room {ld z : Int} (h1 : 0 ≤ ld ∧ ld ≤ 262144) (h2 : (z.natAbs : Int) < 2 ^ 1430) : ((ld * z).natAbs : Int) < Bp 47 := by
  rw [Int.natAbs_mul, Int.natCast_mul]
  have h3 : (ld.natAbs : Int) ≤ 262144 := by omega
  have h4 : (ld.natAbs : Int) * (z.natAbs : Int) ≤ 262144 * (z.natAbs : Int) := Int.mul_le_mul_of_nonneg_right h3 (by omega)
  have h5 : (262144 : Int) * 2 ^ 1430 < Bp 47 := by decide +kernel
  have h6 : (262144 : Int) * (z.natAbs : Int) ≤ 262144 * 2 ^ 1430 := Int.mul_le_mul_of_nonneg_left (Int.le_of_lt h2) (by decide)
  omega
theorem ar_ne {k q k' q' : Nat} (h : Ar k q) (h' : Ar k' q') (hn : k ≠ k') : q ≠ q' := by unfold Ar at h h'; omega
theorem d_RR_common_0 : decode prog_1_method_37_code 0 = .ok (.aload_n 1, 1) := by decide +kernel
theorem d_RR_common_1 : decode prog_1_method_37_code 1 = .ok (.invokestatic 88, 3) := by decide +kernel
theorem d_RR_common_4 : decode prog_1_method_37_code 4 = .ok (.istore_n 3, 1) := by decide +kernel
theorem d_RR_common_5 : decode prog_1_method_37_code 5 = .ok (.aload_n 2, 1) := by decide +kernel
theorem d_RR_common_6 : decode prog_1_method_37_code 6 = .ok (.invokestatic 88, 3) := by decide +kernel
theorem d_RR_common_9 : decode prog_1_method_37_code 9 = .ok (.istore 4, 2) := by decide +kernel
theorem d_RR_common_11 : decode prog_1_method_37_code 11 = .ok (.iload_n 3, 1) := by decide +kernel
theorem d_RR_common_12 : decode prog_1_method_37_code 12 = .ok (.iconst (-1), 1) := by decide +kernel
theorem d_RR_common_13 : decode prog_1_method_37_code 13 = .ok (.if_icmp .eq 9, 3) := by decide +kernel
theorem d_RR_common_16 : decode prog_1_method_37_code 16 = .ok (.iload 4, 2) := by decide +kernel
theorem d_RR_common_18 : decode prog_1_method_37_code 18 = .ok (.iconst (-1), 1) := by decide +kernel
theorem d_RR_common_19 : decode prog_1_method_37_code 19 = .ok (.if_icmp .ne 20, 3) := by decide +kernel
theorem d_RR_common_22 : decode prog_1_method_37_code 22 = .ok (.aload_n 0, 1) := by decide +kernel
theorem d_RR_common_23 : decode prog_1_method_37_code 23 = .ok (.iload_n 3, 1) := by decide +kernel
theorem d_RR_common_24 : decode prog_1_method_37_code 24 = .ok (.iconst (-1), 1) := by decide +kernel
theorem d_RR_common_25 : decode prog_1_method_37_code 25 = .ok (.if_icmp .ne 7, 3) := by decide +kernel
theorem d_RR_common_28 : decode prog_1_method_37_code 28 = .ok (.aload_n 2, 1) := by decide +kernel
theorem d_RR_common_29 : decode prog_1_method_37_code 29 = .ok (.goto 4, 3) := by decide +kernel
theorem d_RR_common_32 : decode prog_1_method_37_code 32 = .ok (.aload_n 1, 1) := by decide +kernel
theorem d_RR_common_33 : decode prog_1_method_37_code 33 = .ok (.invokevirtual 249, 3) := by decide +kernel
theorem d_RR_common_36 : decode prog_1_method_37_code 36 = .ok (.goto 84, 3) := by decide +kernel
theorem d_RR_common_39 : decode prog_1_method_37_code 39 = .ok (.aload_n 0, 1) := by decide +kernel
theorem d_RR_common_40 : decode prog_1_method_37_code 40 = .ok (.getfield 22, 3) := by decide +kernel
theorem d_RR_common_43 : decode prog_1_method_37_code 43 = .ok (.iload_n 3, 1) := by decide +kernel
theorem d_RR_common_44 : decode prog_1_method_37_code 44 = .ok (.iload 4, 2) := by decide +kernel
theorem d_RR_common_46 : decode prog_1_method_37_code 46 = .ok (.if_icmp .lt 7, 3) := by decide +kernel
theorem d_RR_common_49 : decode prog_1_method_37_code 49 = .ok (.aload_n 1, 1) := by decide +kernel
theorem d_RR_common_50 : decode prog_1_method_37_code 50 = .ok (.goto 4, 3) := by decide +kernel
theorem d_RR_common_53 : decode prog_1_method_37_code 53 = .ok (.aload_n 2, 1) := by decide +kernel
theorem d_RR_common_54 : decode prog_1_method_37_code 54 = .ok (.iload_n 3, 1) := by decide +kernel
theorem d_RR_common_55 : decode prog_1_method_37_code 55 = .ok (.iload 4, 2) := by decide +kernel
theorem d_RR_common_57 : decode prog_1_method_37_code 57 = .ok (.if_icmp .lt 7, 3) := by decide +kernel
theorem d_RR_common_60 : decode prog_1_method_37_code 60 = .ok (.aload_n 2, 1) := by decide +kernel
theorem d_RR_common_61 : decode prog_1_method_37_code 61 = .ok (.goto 4, 3) := by decide +kernel
theorem d_RR_common_64 : decode prog_1_method_37_code 64 = .ok (.aload_n 1, 1) := by decide +kernel
theorem d_RR_common_65 : decode prog_1_method_37_code 65 = .ok (.invokevirtual 266, 3) := by decide +kernel
theorem d_RR_common_68 : decode prog_1_method_37_code 68 = .ok (.aload_n 1, 1) := by decide +kernel
theorem d_RR_common_69 : decode prog_1_method_37_code 69 = .ok (.iload_n 3, 1) := by decide +kernel
theorem d_RR_common_70 : decode prog_1_method_37_code 70 = .ok (.iaload, 1) := by decide +kernel
theorem d_RR_common_71 : decode prog_1_method_37_code 71 = .ok (.i2l, 1) := by decide +kernel
theorem d_RR_common_72 : decode prog_1_method_37_code 72 = .ok (.aload_n 2, 1) := by decide +kernel
theorem d_RR_common_73 : decode prog_1_method_37_code 73 = .ok (.iload 4, 2) := by decide +kernel
theorem d_RR_common_75 : decode prog_1_method_37_code 75 = .ok (.iaload, 1) := by decide +kernel
theorem d_RR_common_76 : decode prog_1_method_37_code 76 = .ok (.i2l, 1) := by decide +kernel
theorem d_RR_common_77 : decode prog_1_method_37_code 77 = .ok (.invokestatic 262, 3) := by decide +kernel
theorem d_RR_common_80 : decode prog_1_method_37_code 80 = .ok (.lstore 5, 2) := by decide +kernel
theorem d_RR_common_82 : decode prog_1_method_37_code 82 = .ok (.aload_n 0, 1) := by decide +kernel
theorem d_RR_common_83 : decode prog_1_method_37_code 83 = .ok (.invokevirtual 71, 3) := by decide +kernel
theorem d_RR_common_86 : decode prog_1_method_37_code 86 = .ok (.iconst 0, 1) := by decide +kernel
theorem d_RR_common_87 : decode prog_1_method_37_code 87 = .ok (.istore 7, 2) := by decide +kernel
theorem d_RR_common_89 : decode prog_1_method_37_code 89 = .ok (.iload 7, 2) := by decide +kernel
theorem d_RR_common_91 : decode prog_1_method_37_code 91 = .ok (.bipush 6, 2) := by decide +kernel
theorem d_RR_common_93 : decode prog_1_method_37_code 93 = .ok (.if_icmp .ge 27, 3) := by decide +kernel
theorem d_RR_common_96 : decode prog_1_method_37_code 96 = .ok (.aload_n 0, 1) := by decide +kernel
theorem d_RR_common_97 : decode prog_1_method_37_code 97 = .ok (.getfield 40, 3) := by decide +kernel
theorem d_RR_common_100 : decode prog_1_method_37_code 100 = .ok (.iload 7, 2) := by decide +kernel
theorem d_RR_common_102 : decode prog_1_method_37_code 102 = .ok (.aload_n 0, 1) := by decide +kernel
theorem d_RR_common_103 : decode prog_1_method_37_code 103 = .ok (.getfield 22, 3) := by decide +kernel
theorem d_RR_common_106 : decode prog_1_method_37_code 106 = .ok (.lload 5, 2) := by decide +kernel
theorem d_RR_common_108 : decode prog_1_method_37_code 108 = .ok (.iload 7, 2) := by decide +kernel
theorem d_RR_common_110 : decode prog_1_method_37_code 110 = .ok (.invokevirtual 269, 3) := by decide +kernel
theorem d_RR_common_113 : decode prog_1_method_37_code 113 = .ok (.lastore, 1) := by decide +kernel
theorem d_RR_common_114 : decode prog_1_method_37_code 114 = .ok (.iinc 7 1, 3) := by decide +kernel
theorem d_RR_common_117 : decode prog_1_method_37_code 117 = .ok (.goto (-28), 3) := by decide +kernel
theorem d_RR_common_120 : decode prog_1_method_37_code 120 = .ok (.aload_n 0, 1) := by decide +kernel
theorem d_RR_common_121 : decode prog_1_method_37_code 121 = .ok (.invokevirtual 273, 3) := by decide +kernel
theorem d_RR_common_124 : decode prog_1_method_37_code 124 = .ok (.aload_n 0, 1) := by decide +kernel
theorem d_RR_common_125 : decode prog_1_method_37_code 125 = .ok (.aload_n 0, 1) := by decide +kernel
theorem d_RR_common_126 : decode prog_1_method_37_code 126 = .ok (.getfield 48, 3) := by decide +kernel
theorem d_RR_common_129 : decode prog_1_method_37_code 129 = .ok (.invokevirtual 246, 3) := by decide +kernel
theorem d_RR_common_132 : decode prog_1_method_37_code 132 = .ok (.return_, 1) := by decide +kernel
set_option maxHeartbeats 8000000 in
set_option maxRecDepth 100000 in
theorem c_RR_common (l : Launch) (D : va_G) (cs : Nat → ClassId) (L : List Nat) (f : Nat → va_E) (sz : Nat) (ad Qm : Nat → Nat) (If : Nat → Int) (Af : Nat → Nat → Int) (Rf : Nat → Nat) (Zf : Nat → Int) (ka qa kb qb : Nat) (hAd : AdOk L ad Qm) (hC : CSt cs ad Qm f If Af Rf Zf) (hka : Ar ka qa) (hkb : Ar kb qb) (hkk : ka ≠ kb) (hk10b : kb ≠ 10) (hk10 : ka ≠ 10) (haw : ∀ j, j < 6 → -262144 < Af qa j ∧ Af qa j < 262144) (hbw : ∀ j, j < 6 → -262144 < Af qb j ∧ Af qb j < 262144) (hhd : 0 ≤ If 0 ∧ If 0 ≤ 12) : Met l (⟨"RealRoots", "common", "([I[I)V"⟩ : MethodName) (.code (⟨"RealRoots", "common", "([I[I)V"⟩ : MethodName) prog_1_method_37_code 8 (Option.none : Option Jvm.ClassFile.FieldType) :: gw) ({ frames := 4, cells := 0, slots := 0, locals := 220 }) (va_Pc [.ref ((ad 0)), .ref ((ad ka)), .ref ((ad kb))] (K0 D vwCl (TY cs) L f sz)) (va_Qv (fun (g : Nat → va_E) => ∃ (I' : Nat → Int) (A' : Nat → Nat → Int) (R' : Nat → Nat) (Z' : Nat → Int), CSt cs ad Qm g I' A' R' Z' ∧ (∀ k, Awy ad k → g k = f k) ∧ Gcd (Af qa) (Af qb) (A' 2) ∧ (∀ i, i ≠ 3 → I' i = If i) ∧ ∀ q, q ≠ 0 → q ≠ 2 → q ≠ 7 → A' q = Af q) (K1 D vwCl (TY cs) (AL L sz) L) (AL L sz)) 0 0 (AL L sz) := by
  refine Met.ofW (cc := prog_1_method_37_code) (maxL := 8) (ret := (Option.none : Option Jvm.ClassFile.FieldType)) (by decide) rfl ?_
  intro p e s m args below meth c s₁ Bd hml hv
  obtain ⟨rfl, hk0⟩ := hv
  obtain ⟨hsz, B⟩ := hk0.start
  subst hsz
  have hx := Bd.exec
  have hb := Bd.bytes
  have hr := Bd.returns
  have hlocks := Bd.notSynchronized
  have hts0 := atoms_spec Bd.pre
  have hown : s.vm.findClass RX6 = some m.cls := findClass_of_methodNamed Bd.named
  have hA : ∀ q, s.heap.size ≤ q → AL L s.heap.size q := fun _ h => Or.inr h
  have hl := lv_entry ([.ref ((ad 0)), .ref ((ad ka)), .ref ((ad kb))]) (n := 8) (Nat.le_of_ble_eq_true rfl)
  rw [lg_entry_eq]
  generalize (lg_sl ([.ref ((ad 0)), .ref ((ad ka)), .ref ((ad kb))]) ++ List.replicate (8 - (lg_sl ([.ref ((ad 0)), .ref ((ad ka)), .ref ((ad kb))])).length) Slot.unset).toArray = ls at hl ⊢
  refine absQ (fun Q R av hQ hR hav => ?_)
  have hts : ∀ w ∈ gw, w.before av s = true := by rw [hav]; exact fun w h => hts0 w (List.mem_cons_of_mem _ h)
  have hRf : R.frames = 4 := by rw [hR]; rfl
  have hRl : R.locals = 220 := by rw [hR]; rfl
  have hRc : R.cells = 0 := by rw [hR]; rfl
  have hRs : R.slots = 0 := by rw [hR]; rfl
  clear hR hts0 Bd
  have hl : lv_has ls 8 [(0, .ref ((ad 0))), (1, .ref ((ad ka))), (2, .ref ((ad kb)))] := hl
  have hfr : ∀ k, Awy ad k → f k = f k := fun _ _ => rfl
  refine lv_aload_n hx hb d_RR_common_0 rfl (lv_at hl 1 rfl) ?_
  refine x_calli B hA (va_runS (As := [.ref ((ad ka))]) (rest := []) ⟨hx, hb, hml, hown, hts⟩ (c_RR_topOf l D cs _ _ _ (ad ka) (Af qa) (hAd.f1 (by have := (hka).lt; omega)) (hC.ar hka) (fun j hj => by have := haw j hj; omega)) (va_cwS 1 hts (gw_S w_273 w_274 w_1 w_275) rfl rfl rfl (by decide +kernel) ⟨by rw [hRf]; exact Nat.le_of_ble_eq_true rfl, by rw [hRl]; exact Nat.le_of_ble_eq_true rfl⟩) ⟨K0.blind, B.pre _⟩ rfl rfl hl.1 rfl (lv_room (Nat.le_of_ble_eq_true rfl)) d_RR_common_1 ⟨by rw [hRc]; omega, by rw [hRs]; omega⟩) (fun r1 g1 H locs hw B => ?_)
  obtain ⟨ta, rfl, hta6, htaz, htal, hgf⟩ := hw
  rw [hgf] at B
  refine lv_istore_n (lv' := [(3, .int (iI ((ta : Int) - 1))), (0, .ref ((ad 0))), (1, .ref ((ad ka))), (2, .ref ((ad kb)))]) hx hb d_RR_common_4 rfl hl (by decide) rfl (fun ls hl => ?_)
  refine lv_aload_n hx hb d_RR_common_5 rfl (lv_at hl 3 rfl) ?_
  refine x_calli B hA (va_runS (As := [.ref ((ad kb))]) (rest := []) ⟨hx, hb, hml, hown, hts⟩ (c_RR_topOf l D cs _ _ _ (ad kb) (Af qb) (hAd.f1 (by have := (hkb).lt; omega)) (hC.ar hkb) (fun j hj => by have := hbw j hj; omega)) (va_cwS 1 hts (gw_S w_273 w_274 w_1 w_275) rfl rfl rfl (by decide +kernel) ⟨by rw [hRf]; exact Nat.le_of_ble_eq_true rfl, by rw [hRl]; exact Nat.le_of_ble_eq_true rfl⟩) ⟨K0.blind, B.pre _⟩ rfl rfl hl.1 rfl (lv_room (Nat.le_of_ble_eq_true rfl)) d_RR_common_6 ⟨by rw [hRc]; omega, by rw [hRs]; omega⟩) (fun r6 g6 H locs hw B => ?_)
  obtain ⟨tb, rfl, htb6, htbz, htbl, hgf⟩ := hw
  rw [hgf] at B
  refine lv_istore (lv' := [(4, .int (iI ((tb : Int) - 1))), (3, .int (iI ((ta : Int) - 1))), (0, .ref ((ad 0))), (1, .ref ((ad ka))), (2, .ref ((ad kb)))]) hx hb d_RR_common_9 hl (by decide) rfl (fun ls hl => ?_)
  have J120 : ∀ (fd : Nat → va_E) (Id : Nat → Int) (Ad : Nat → Nat → Int) (Rd : Nat → Nat) (Zd : Nat → Int), (CSt cs ad Qm fd Id Ad Rd Zd) → (∀ k, Awy ad k → fd k = f k) → (∀ i, i ≠ 3 → Id i = If i) → (∀ q, q ≠ 0 → q ≠ 7 → Ad q = Af q) → (∀ j, j < 6 → -4611686018427387904 < Ad 0 j ∧ Ad 0 j < 4611686018427387904) → (∀ z, PrimOf (Ad 0) z → Gcd (Af qa) (Af qb) z) → ∀ (H : Heap) (locs : List Loc) (ls : Array Slot), Wb D vwCl (TY cs) L fd (AL L s.heap.size) s H locs → lv_has ls 8 [(0, .ref ((ad 0)))] → W p l e R s m av below meth c H locs (0) (0) Q (F0 m 120 ls []) := by
    intro fd Id Ad Rd Zd hCd hfrd hId hAdd hWr hWg H locs ls B hl
    have hI0 : Id 0 = If 0 := hId 0 (by decide)
    refine lv_aload_n hx hb d_RR_common_120 rfl (lv_at hl 0 rfl) ?_
    refine x_callv B hA (va_runV (As := []) (rest := []) ⟨hx, hb, hml, hown, hts⟩ (c_RR_makeWidePrimitive l D cs _ _ _ (ad 0) (ad 1) (ad 2) (ad 5) (ad 7) (ad 8) (ad 9) (ad 10) (ad 11) (ad 12) (ad 13) (ad 14) (Id 0) (Id 1) (Id 2) (Ad 0) (hAd.fc [0, 8] (by simp only [List.nodup_cons, List.mem_cons, List.not_mem_nil, or_false, not_or, List.nodup_nil, and_true, not_false_eq_true]; omega) (by intro q hq; simp only [List.mem_cons, List.not_mem_nil, or_false] at hq; omega)) hCd.x (by rw [hI0]; exact hhd) hCd.wide (hWr)) (cwV 0 hts (gw_V w_339 w_341 s_9 w_1 w_342) rfl rfl rfl (by decide +kernel) ⟨by rw [hRf]; exact Nat.le_of_ble_eq_true rfl, by rw [hRl]; exact Nat.le_of_ble_eq_true rfl⟩) ⟨K0.blind, B.recv (hAd.1 _ (by omega)) (hCd.x) rfl, B.pre _⟩ rfl rfl hl.1 rfl (lv_room (Nat.le_of_ble_eq_true rfl)) d_RR_common_121 ⟨by rw [hRc]; omega, by rw [hRs]; omega⟩) (fun g121 H locs hw B => ?_)
    obtain ⟨zp, hzp, hzp6, rfl⟩ := hw
    have B : Wb D vwCl (TY cs) L (mw fd [((ad 8), .inl (cs 1, 12, .inr (.inl (al zp))))]) (AL L s.heap.size) s H _ := B
    obtain ⟨f_121, hf_121⟩ : ∃ f_121, f_121 = mw fd [((ad 8), .inl (cs 1, 12, .inr (.inl (al zp))))] := ⟨_, rfl⟩
    rw [← hf_121] at B
    obtain ⟨A_121, hA_121⟩ : ∃ A_121, A_121 = upA Ad 0 zp := ⟨_, rfl⟩
    have hC_121 : CSt cs ad Qm f_121 Id A_121 Rd Zd := by rw [hf_121, hA_121]; exact CSt.w_wide hAd hCd _
    have hfr_121 : ∀ k, Awy ad k → f_121 k = f k := fun k hk => Eq.trans (by rw [hf_121]; exact hk.mw1 (by omega)) (hfrd k hk)
    refine lv_aload_n hx hb d_RR_common_124 rfl (lv_at hl 0 rfl) ?_
    refine lv_aload_n hx hb d_RR_common_125 rfl (lv_at hl 0 rfl) ?_
    refine x_get (C := RX6) (T := TX6) (N := 14) hx hb hts inX6 hown (B.foc1 (hC_121.x)) (hAd.f1 (by omega)) 0 rfl rfl 7 (by decide) (hts _ w_204) (fun _ h9 => h9) rfl d_RR_common_126 ?_
    refine x_callv B hA (va_runV (As := [.ref ((ad 10))]) (rest := []) ⟨hx, hb, hml, hown, hts⟩ (c_RR_narrow l D cs _ _ _ (ad 0) (ad 1) (ad 2) (ad 5) (ad 7) (ad 8) (ad 9) (ad 10) (ad 11) (ad 12) (ad 13) (ad 14) (Id 0) (Id 1) (Id 2) (ad 10) (A_121 0) (A_121 2) (hAd.fc [0, 8, 10] (by have := (Ar.sh).lt; simp only [List.nodup_cons, List.mem_cons, List.not_mem_nil, or_false, not_or, List.nodup_nil, and_true, not_false_eq_true]; omega) (by have := (Ar.sh).lt; intro q hq; simp only [List.mem_cons, List.not_mem_nil, or_false] at hq; omega)) hC_121.x (by rw [hI0]; exact hhd) hC_121.wide (hC_121.ar Ar.sh)) (cwV 1 hts (gw_V w_253 w_255 s_2 w_1 w_256) rfl rfl rfl (by decide +kernel) ⟨by rw [hRf]; exact Nat.le_of_ble_eq_true rfl, by rw [hRl]; exact Nat.le_of_ble_eq_true rfl⟩) ⟨K0.blind, B.recv (hAd.1 _ (by omega)) (hC_121.x) rfl, B.pre _⟩ rfl rfl hl.1 rfl (lv_room (Nat.le_of_ble_eq_true rfl)) d_RR_common_129 ⟨by rw [hRc]; omega, by rw [hRs]; omega⟩) (fun g129 H locs hw B => ?_)
    obtain rfl := hw
    have B : Wb D vwCl (TY cs) L (mw f_121 [((ad 10), .inl (cs 0, 6, .inl (ai (cf 6 (A_121 0) (A_121 2)))))]) (AL L s.heap.size) s H _ := B
    obtain ⟨f_129, hf_129⟩ : ∃ f_129, f_129 = mw f_121 [((ad 10), .inl (cs 0, 6, .inl (ai (cf 6 (A_121 0) (A_121 2)))))] := ⟨_, rfl⟩
    rw [← hf_129] at B
    obtain ⟨A_129, hA_129⟩ : ∃ A_129, A_129 = upA A_121 2 (cf 6 (A_121 0) (A_121 2)) := ⟨_, rfl⟩
    have hC_129 : CSt cs ad Qm f_129 Id A_129 Rd Zd := by rw [hf_129, hA_129]; exact CSt.wAr hAd hC_121 Ar.sh _
    have hfr_129 : ∀ k, Awy ad k → f_129 k = f k := fun k hk => Eq.trans (by rw [hf_129]; exact hk.mw1 (by omega)) (hfr_121 k hk)
    subst hQ hav
    exact x_vret hx hb hr hlocks B d_RR_common_132 (⟨Id, A_129, Rd, Zd, hC_129, hfr_129, (hWg _ hzp).congr2 (fun j hj => by rw [hA_129, upA_self]; show cf 6 (A_121 0) (A_121 2) j = zp j; unfold cf; rw [if_pos (by omega), hA_121, upA_self]), hId, fun q h1 h2 h3 => by rw [hA_129, upA_ne _ _ h2, hA_121, upA_ne _ _ h1]; exact hAdd q h1 h3⟩)
  refine lv_iload_n hx hb d_RR_common_11 rfl (lv_at hl 1 rfl) ?_
  refine x_iconst hx hb d_RR_common_12 ?_
  refine x_icmp_eq (tgt := 22) hx hb d_RR_common_13 (by decide) (by omega) (by omega) (fun h13 => ?_) (fun h13 => ?_)
  · refine lv_aload_n hx hb d_RR_common_22 rfl (lv_at hl 2 rfl) ?_
    refine lv_iload_n hx hb d_RR_common_23 rfl (lv_at hl 1 rfl) ?_
    refine x_iconst hx hb d_RR_common_24 ?_
    refine x_icmp_ne (tgt := 32) hx hb d_RR_common_25 (by decide) (by omega) (by omega) (fun h25 => ?_) (fun h25 => ?_)
    · refine lv_aload_n hx hb d_RR_common_32 rfl (lv_at hl 3 rfl) ?_
      refine x_callv B hA (va_runV (As := [.ref ((ad ka))]) (rest := []) ⟨hx, hb, hml, hown, hts⟩ (c_RR_widen l D cs _ _ _ (ad 0) (ad 1) (ad 2) (ad 5) (ad 7) (ad 8) (ad 9) (ad 10) (ad 11) (ad 12) (ad 13) (ad 14) (If 0) (If 1) (If 2) (ad ka) (Af 0) (Af qa) (hAd.fc [0, 8, ka] (by have := (hka).lt; simp only [List.nodup_cons, List.mem_cons, List.not_mem_nil, or_false, not_or, List.nodup_nil, and_true, not_false_eq_true]; omega) (by have := (hka).lt; intro q hq; simp only [List.mem_cons, List.not_mem_nil, or_false] at hq; omega)) hC.x (hhd) hC.wide (hC.ar hka) (fun j hj => by have := haw j hj; omega)) (cwV 1 hts (gw_V w_284 w_286 s_6 w_1 w_287) rfl rfl rfl (by decide +kernel) ⟨by rw [hRf]; exact Nat.le_of_ble_eq_true rfl, by rw [hRl]; exact Nat.le_of_ble_eq_true rfl⟩) ⟨K0.blind, B.recv (hAd.1 _ (by omega)) (hC.x) rfl, B.pre _⟩ rfl rfl hl.1 rfl (lv_room (Nat.le_of_ble_eq_true rfl)) d_RR_common_33 ⟨by rw [hRc]; omega, by rw [hRs]; omega⟩) (fun g33 H locs hw B => ?_)
      obtain ⟨zw, hzw, rfl⟩ := hw
      have B : Wb D vwCl (TY cs) L (mw f [((ad 8), .inl (cs 1, 12, .inr (.inl (al zw))))]) (AL L s.heap.size) s H _ := B
      obtain ⟨f_33, hf_33⟩ : ∃ f_33, f_33 = mw f [((ad 8), .inl (cs 1, 12, .inr (.inl (al zw))))] := ⟨_, rfl⟩
      rw [← hf_33] at B
      obtain ⟨A_33, hA_33⟩ : ∃ A_33, A_33 = upA Af 0 zw := ⟨_, rfl⟩
      have hC_33 : CSt cs ad Qm f_33 If A_33 Rf Zf := by rw [hf_33, hA_33]; exact CSt.w_wide hAd hC _
      have hfr_33 : ∀ k, Awy ad k → f_33 k = f k := fun k hk => Eq.trans (by rw [hf_33]; exact hk.mw1 (by omega)) (hfr k hk)
      refine lv_goto (tgt := 120) hx hb d_RR_common_36 (by decide) ?_
      exact J120 f_33 If A_33 Rf Zf hC_33 hfr_33 (fun i _ => rfl) (fun q h1 _ => by rw [hA_33, upA_ne _ _ h1]) (fun j hj => by rw [hA_33, upA_self, hzw j (by omega), if_pos hj]; have := haw j hj; omega) (fun z hz => (gcd_zero (fun j hj => htbz j (by omega) hj) (hz.congr1 (fun j hj => by rw [hA_33, upA_self, hzw j (by omega), if_pos hj]))).symm) _ _ _ B (lv_sub hl [2] rfl)
    · refine lv_aload_n hx hb d_RR_common_28 rfl (lv_at hl 4 rfl) ?_
      refine lv_goto (tgt := 33) hx hb d_RR_common_29 (by decide) ?_
      refine x_callv B hA (va_runV (As := [.ref ((ad kb))]) (rest := []) ⟨hx, hb, hml, hown, hts⟩ (c_RR_widen l D cs _ _ _ (ad 0) (ad 1) (ad 2) (ad 5) (ad 7) (ad 8) (ad 9) (ad 10) (ad 11) (ad 12) (ad 13) (ad 14) (If 0) (If 1) (If 2) (ad kb) (Af 0) (Af qb) (hAd.fc [0, 8, kb] (by have := (hkb).lt; simp only [List.nodup_cons, List.mem_cons, List.not_mem_nil, or_false, not_or, List.nodup_nil, and_true, not_false_eq_true]; omega) (by have := (hkb).lt; intro q hq; simp only [List.mem_cons, List.not_mem_nil, or_false] at hq; omega)) hC.x (hhd) hC.wide (hC.ar hkb) (fun j hj => by have := hbw j hj; omega)) (cwV 1 hts (gw_V w_284 w_286 s_6 w_1 w_287) rfl rfl rfl (by decide +kernel) ⟨by rw [hRf]; exact Nat.le_of_ble_eq_true rfl, by rw [hRl]; exact Nat.le_of_ble_eq_true rfl⟩) ⟨K0.blind, B.recv (hAd.1 _ (by omega)) (hC.x) rfl, B.pre _⟩ rfl rfl hl.1 rfl (lv_room (Nat.le_of_ble_eq_true rfl)) d_RR_common_33 ⟨by rw [hRc]; omega, by rw [hRs]; omega⟩) (fun g33 H locs hw B => ?_)
      obtain ⟨zw, hzw, rfl⟩ := hw
      have B : Wb D vwCl (TY cs) L (mw f [((ad 8), .inl (cs 1, 12, .inr (.inl (al zw))))]) (AL L s.heap.size) s H _ := B
      obtain ⟨f_33, hf_33⟩ : ∃ f_33, f_33 = mw f [((ad 8), .inl (cs 1, 12, .inr (.inl (al zw))))] := ⟨_, rfl⟩
      rw [← hf_33] at B
      obtain ⟨A_33, hA_33⟩ : ∃ A_33, A_33 = upA Af 0 zw := ⟨_, rfl⟩
      have hC_33 : CSt cs ad Qm f_33 If A_33 Rf Zf := by rw [hf_33, hA_33]; exact CSt.w_wide hAd hC _
      have hfr_33 : ∀ k, Awy ad k → f_33 k = f k := fun k hk => Eq.trans (by rw [hf_33]; exact hk.mw1 (by omega)) (hfr k hk)
      refine lv_goto (tgt := 120) hx hb d_RR_common_36 (by decide) ?_
      exact J120 f_33 If A_33 Rf Zf hC_33 hfr_33 (fun i _ => rfl) (fun q h1 _ => by rw [hA_33, upA_ne _ _ h1]) (fun j hj => by rw [hA_33, upA_self, hzw j (by omega), if_pos hj]; have := hbw j hj; omega) (fun z hz => gcd_zero (fun j hj => htaz j (by omega) hj) (hz.congr1 (fun j hj => by rw [hA_33, upA_self, hzw j (by omega), if_pos hj]))) _ _ _ B (lv_sub hl [2] rfl)
  · refine lv_iload hx hb d_RR_common_16 (lv_at hl 0 rfl) ?_
    refine x_iconst hx hb d_RR_common_18 ?_
    refine x_icmp_ne (tgt := 39) hx hb d_RR_common_19 (by decide) (by omega) (by omega) (fun h19 => ?_) (fun h19 => ?_)
    · have J68 : ∀ (fe : Nat → va_E) (Ie : Nat → Int) (Ae : Nat → Nat → Int) (Re : Nat → Nat) (Ze : Nat → Int) (n : Nat) (dt : Nat) (G : Nat → Int), (CSt cs ad Qm fe Ie Ae Re Ze) → (∀ k, Awy ad k → fe k = f k) → (1 ≤ n ∧ n ≤ 7) → (Ie 3 = (n : Int)) → (∀ i, i ≠ 3 → Ie i = If i) → (∀ q, q ≠ 7 → Ae q = Af q) → (Ae 7 (n - 1) = (dt : Int)) → (∀ j, j < 6 → Ze (Re (6 * (n - 1) + j)) = G j) → (Cmb (Af qa) (Af qb) G ∧ Dv (il G 6) (il (Af qa) 6) ∧ Dv (il G 6) (il (Af qb) 6)) → (dt < 6 ∧ G dt ≠ 0 ∧ ∀ j, dt < j → j < 6 → G j = 0) → (RowB G 1430) → ∀ (H : Heap) (locs : List Loc) (ls : Array Slot), Wb D vwCl (TY cs) L fe (AL L s.heap.size) s H locs → lv_has ls 8 [(0, .ref ((ad 0))), (1, .ref ((ad ka))), (2, .ref ((ad kb))), (3, .int (iI ((ta : Int) - 1))), (4, .int (iI ((tb : Int) - 1)))] → W p l e R s m av below meth c H locs (0) (0) Q (F0 m 68 ls []) := by
        intro fe Ie Ae Re Ze n dt G hCe hfre hn hIe3 hIe hAe hdt hGe hG3 hGt hGb H locs ls B hl
        have hI0 : Ie 0 = If 0 := hIe 0 (by decide)
        have h7a : Ae qa = Af qa := hAe _ (by unfold Ar at hka; omega)
        have h7b : Ae qb = Af qb := hAe _ (by unfold Ar at hkb; omega)
        have hGt1 := hGt.1
        refine lv_aload_n hx hb d_RR_common_68 rfl (lv_at hl 1 rfl) ?_
        refine lv_iload_n hx hb d_RR_common_69 rfl (lv_at hl 3 rfl) ?_
        refine x_iald hx hb (B.foc1 ((hCe.ar hka))) (hAd.f1 (by have := (hka).lt; omega)) 0 0 rfl rfl (ta - 1) (by omega) (by omega) (by decide) d_RR_common_70 ?_
        have h9a0 : -262144 < Ae qa (ta - 1) ∧ Ae qa (ta - 1) < 262144 := by rw [h7a]; exact haw (ta - 1) (by omega)
        refine x_i2l hx hb d_RR_common_71 (by omega) ?_
        refine lv_aload_n hx hb d_RR_common_72 rfl (lv_at hl 2 rfl) ?_
        refine lv_iload hx hb d_RR_common_73 (lv_at hl 4 rfl) ?_
        refine x_iald hx hb (B.foc1 ((hCe.ar hkb))) (hAd.f1 (by have := (hkb).lt; omega)) 0 0 rfl rfl (tb - 1) (by omega) (by omega) (by decide) d_RR_common_75 ?_
        have h9b0 : -262144 < Ae qb (tb - 1) ∧ Ae qb (tb - 1) < 262144 := by rw [h7b]; exact hbw (tb - 1) (by omega)
        refine x_i2l hx hb d_RR_common_76 (by omega) ?_
        rw [h7a, h7b]
        have h9a := haw (ta - 1) (by omega)
        have h9b := hbw (tb - 1) (by omega)
        refine x_calll B hA (va_runS (As := [.long (lI (Af qa (ta - 1))), .long (lI (Af qb (tb - 1)))]) (rest := []) ⟨hx, hb, hml, hown, hts⟩ (c_RR_greatestDivisor l D cs _ _ _ (Af qa (ta - 1)) (Af qb (tb - 1)) (by omega) (by omega)) (va_cwS 2 hts (gw_S w_314 w_315 w_1 w_316) rfl rfl rfl (by decide +kernel) ⟨by rw [hRf]; exact Nat.le_of_ble_eq_true rfl, by rw [hRl]; exact Nat.le_of_ble_eq_true rfl⟩) ⟨K0.blind, B.pre _⟩ rfl rfl hl.1 rfl (lv_room (Nat.le_of_ble_eq_true rfl)) d_RR_common_77 ⟨by rw [hRc]; omega, by rw [hRs]; omega⟩) (fun r77 g77 H locs hw B => ?_)
        obtain ⟨rfl, hgf⟩ := hw
        rw [hgf] at B
        obtain ⟨ld, hld⟩ : ∃ ld : Int, ld = ((Nat.gcd (Af qa (ta - 1)).natAbs (Af qb (tb - 1)).natAbs : Nat) : Int) := ⟨_, rfl⟩
        rw [← hld]
        obtain ⟨hld0, hld1, hdvx⟩ := lead_dv (da := ta - 1) (db := tb - 1) (M := 262144) (by decide) ⟨by omega, htal (by omega), fun j h1 h2 => htaz j (by omega) h2⟩ ⟨by omega, htbl (by omega), fun j h1 h2 => htbz j (by omega) h2⟩ hGt (fun j hj => by have := haw j hj; omega) (fun j hj => by have := hbw j hj; omega) hG3.2.1 hG3.2.2
        rw [← hld] at hld0 hld1 hdvx
        have hldn : 0 ≤ ld := by rw [hld]; exact Int.natCast_nonneg _
        refine lv_lstore (lv' := [(5, .long (lI ld)), (0, .ref ((ad 0))), (1, .ref ((ad ka))), (2, .ref ((ad kb))), (3, .int (iI ((ta : Int) - 1))), (4, .int (iI ((tb : Int) - 1)))]) hx hb d_RR_common_80 hl (by decide) rfl (fun ls hl => ?_)
        refine lv_aload_n hx hb d_RR_common_82 rfl (lv_at hl 1 rfl) ?_
        refine x_callv B hA (va_runV (As := []) (rest := []) ⟨hx, hb, hml, hown, hts⟩ (c_RR_clearWide l D cs _ _ _ (ad 0) (ad 1) (ad 2) (ad 5) (ad 7) (ad 8) (ad 9) (ad 10) (ad 11) (ad 12) (ad 13) (ad 14) (Ie 0) (Ie 1) (Ie 2) (Ae 0) (hAd.fc [0, 8] (by simp only [List.nodup_cons, List.mem_cons, List.not_mem_nil, or_false, not_or, List.nodup_nil, and_true, not_false_eq_true]; omega) (by intro q hq; simp only [List.mem_cons, List.not_mem_nil, or_false] at hq; omega)) hCe.x (by rw [hI0]; exact hhd) hCe.wide) (cwV 0 hts (gw_V w_244 w_246 s_0 w_1 w_247) rfl rfl rfl (by decide +kernel) ⟨by rw [hRf]; exact Nat.le_of_ble_eq_true rfl, by rw [hRl]; exact Nat.le_of_ble_eq_true rfl⟩) ⟨K0.blind, B.recv (hAd.1 _ (by omega)) (hCe.x) rfl, B.pre _⟩ rfl rfl hl.1 rfl (lv_room (Nat.le_of_ble_eq_true rfl)) d_RR_common_83 ⟨by rw [hRc]; omega, by rw [hRs]; omega⟩) (fun g83 H locs hw B => ?_)
        obtain rfl := hw
        have B : Wb D vwCl (TY cs) L (mw fe [((ad 8), .inl (cs 1, 12, .inr (.inl (al (cf 12 (fun _ => 0) (Ae 0))))))]) (AL L s.heap.size) s H _ := B
        obtain ⟨f_83, hf_83⟩ : ∃ f_83, f_83 = mw fe [((ad 8), .inl (cs 1, 12, .inr (.inl (al (cf 12 (fun _ => 0) (Ae 0))))))] := ⟨_, rfl⟩
        rw [← hf_83] at B
        obtain ⟨A_83, hA_83⟩ : ∃ A_83, A_83 = upA Ae 0 (cf 12 (fun _ => 0) (Ae 0)) := ⟨_, rfl⟩
        have hC_83 : CSt cs ad Qm f_83 Ie A_83 Re Ze := by rw [hf_83, hA_83]; exact CSt.w_wide hAd hCe _
        have hfr_83 : ∀ k, Awy ad k → f_83 k = f k := fun k hk => Eq.trans (by rw [hf_83]; exact hk.mw1 (by omega)) (hfre k hk)
        refine x_iconst hx hb d_RR_common_86 ?_
        refine lv_istore (lv' := [(7, .int (iI 0)), (5, .long (lI ld)), (0, .ref ((ad 0))), (1, .ref ((ad ka))), (2, .ref ((ad kb))), (3, .int (iI ((ta : Int) - 1))), (4, .int (iI ((tb : Int) - 1)))]) hx hb d_RR_common_87 hl (by decide) rfl (fun ls hl => ?_)
        have LP : ∀ (fuel : Nat) (fw : Nat → va_E) (Iw : Nat → Int) (Aw : Nat → Nat → Int) (Rw : Nat → Nat) (Zw : Nat → Int) (k : Nat), 6 - k < fuel → (CSt cs ad Qm fw Iw Aw Rw Zw) → (∀ k, Awy ad k → fw k = f k) → (k ≤ 6) → (∀ i, Iw i = Ie i) → (∀ q, q ≠ 0 → Aw q = Ae q) → (∀ j, j < 6 → Zw (Rw (6 * (n - 1) + j)) = G j) → (∀ j, j < k → Aw 0 j * G dt = ld * G j ∧ ((Aw 0 j).natAbs : Int) ≤ 262144 * (49 * 262144)) → ∀ (H : Heap) (locs : List Loc) (ls : Array Slot), Wb D vwCl (TY cs) L fw (AL L s.heap.size) s H locs → lv_has ls 8 [(7, .int (iI ((k : Int)))), (5, .long (lI ld)), (0, .ref ((ad 0))), (1, .ref ((ad ka))), (2, .ref ((ad kb))), (3, .int (iI ((ta : Int) - 1))), (4, .int (iI ((tb : Int) - 1)))] → W p l e R s m av below meth c H locs (0) (0) Q (F0 m 89 ls []) := by
          intro fuel
          induction fuel with
          | zero => intro fw Iw Aw Rw Zw k hfu; exact absurd hfu (Nat.not_lt_zero _)
          | succ fuel ih_LP =>
            intro fw Iw Aw Rw Zw k hfu_LP hCw hfrw hk hIw hAw hGw hWw H locs ls B hl
            have hIw3 : Iw 3 = (n : Int) := by rw [hIw]; exact hIe3
            have hAw7 : Aw 7 (n - 1) = (dt : Int) := by rw [hAw 7 (by decide)]; exact hdt
            refine lv_iload hx hb d_RR_common_89 (lv_at hl 0 rfl) ?_
            refine x_bipush hx hb d_RR_common_91 (by decide) ?_
            refine x_icmp_ge (tgt := 120) hx hb d_RR_common_93 (by decide) (by omega) (by omega) (fun h93 => ?_) (fun h93 => ?_)
            · exact J120 fw Iw Aw Rw Zw hCw hfrw (fun i hi => by rw [hIw]; exact hIe i hi) (fun q h1 h2 => by rw [hAw q h1]; exact hAe q h2) (fun j hj => by have := (hWw j (by omega)).2; omega) (fun z hz => gcd_fin hGt.1 (by omega) hG3 hGt.2.1 (fun j hj => (hWw j (by omega)).1) hz) _ _ _ B (lv_sub hl [2] rfl)
            · rcases Nat.lt_or_ge dt k with hkd | hkd
              · refine lv_aload_n hx hb d_RR_common_96 rfl (lv_at hl 2 rfl) ?_
                refine x_get (C := RX6) (T := TX6) (N := 14) hx hb hts inX6 hown (B.foc1 (hCw.x)) (hAd.f1 (by omega)) 0 rfl rfl 5 (by decide) (hts _ w_202) (fun _ h9 => h9) rfl d_RR_common_97 ?_
                refine lv_iload hx hb d_RR_common_100 (lv_at hl 0 rfl) ?_
                refine lv_aload_n hx hb d_RR_common_102 rfl (lv_at hl 2 rfl) ?_
                refine x_get (C := RX6) (T := TX6) (N := 14) hx hb hts inX6 hown (B.foc1 (hCw.x)) (hAd.f1 (by omega)) 0 rfl rfl 2 (by decide) (hts _ w_199) (fun _ h9 => h9) rfl d_RR_common_103 ?_
                refine lv_lload hx hb d_RR_common_106 (lv_at hl 1 rfl) ?_
                refine lv_iload hx hb d_RR_common_108 (lv_at hl 0 rfl) ?_
                obtain ⟨Gl, hG1l, hG2l⟩ := hCw.2.1
                refine x_calll B hA (va_runV (As := [.long (lI ld), .int (iI ((k : Int)))]) (rest := [.int (iI ((k : Int))), .ref ((ad 8))]) ⟨hx, hb, hml, hown, hts⟩ (c_Chain_last_z l D cs _ _ _ (ad 2) (ad 3) (ad 4) (Rw 42) (ad 226) n dt k (Iw 4) (Iw 5) ld (Aw 7) Gl Rw (Ckk ad) (Bg ad) Qm Zw (hAd.fc [2, 3, 4] (by simp only [List.nodup_cons, List.mem_cons, List.not_mem_nil, or_false, not_or, List.nodup_nil, and_true, not_false_eq_true]; omega) (by intro q hq; simp only [List.mem_cons, List.not_mem_nil, or_false] at hq; omega)) (by rw [← hIw3]; exact hCw.ch) hG2l hCw.tq hn (hAw7) (by omega) (by omega)) (cwV 2 hts (gw_V w_317 w_318 w_319 w_2 w_320) rfl rfl rfl (by decide +kernel) ⟨by rw [hRf]; exact Nat.le_of_ble_eq_true rfl, by rw [hRl]; exact Nat.le_of_ble_eq_true rfl⟩) ⟨K0.blind, B.recv (hAd.1 _ (by omega)) (hCw.ch) rfl, B.pre _⟩ rfl rfl hl.1 rfl (lv_room (Nat.le_of_ble_eq_true rfl)) d_RR_common_110 ⟨by rw [hRc]; omega, by rw [hRs]; omega⟩) (fun r110 g110 H locs hw B => ?_)
                obtain ⟨rfl, hgf⟩ := hw
                rw [hgf] at B
                refine x_last hx hb (B.foc1 (hCw.wide)) (hAd.f1 (by omega)) 0 1 rfl rfl k (by omega) (by omega) (by decide) d_RR_common_113 (fun H locs B => ?_)
                have B : Wb D vwCl (TY cs) L (mw fw [((ad 8), .inl (cs 1, 12, .inr (.inl (al (up (Aw 0) k (0))))))]) (AL L s.heap.size) s H _ := B
                obtain ⟨f_113, hf_113⟩ : ∃ f_113, f_113 = mw fw [((ad 8), .inl (cs 1, 12, .inr (.inl (al (up (Aw 0) k (0))))))] := ⟨_, rfl⟩
                rw [← hf_113] at B
                obtain ⟨A_113, hA_113⟩ : ∃ A_113, A_113 = upA Aw 0 (up (Aw 0) k (0)) := ⟨_, rfl⟩
                have hC_113 : CSt cs ad Qm f_113 Iw A_113 Rw Zw := by rw [hf_113, hA_113]; exact CSt.w_wide hAd hCw _
                have hfr_113 : ∀ k, Awy ad k → f_113 k = f k := fun k hk => Eq.trans (by rw [hf_113]; exact hk.mw1 (by omega)) (hfrw k hk)
                refine x_iinc (lv' := [(7, .int (iI (((k : Int)) + 1))), (5, .long (lI ld)), (0, .ref ((ad 0))), (1, .ref ((ad ka))), (2, .ref ((ad kb))), (3, .int (iI ((ta : Int) - 1))), (4, .int (iI ((tb : Int) - 1)))]) hx hb d_RR_common_114 hl (q := 0) rfl rfl (by decide) rfl (fun ls hl => ?_)
                refine lv_goto (tgt := 89) hx hb d_RR_common_117 (by decide) ?_
                exact ih_LP f_113 Iw A_113 Rw Zw (k + 1) (by omega) hC_113 hfr_113 (by omega) hIw (fun q hq => by rw [hA_113, upA_ne _ _ hq]; exact hAw q hq) hGw (fun j hj => by
          rw [hA_113, upA_self]
          by_cases hjk : j = k
          · rw [hjk, up_self]; exact ⟨by rw [hGt.2.2 k (by omega) (by omega), Int.mul_zero, Int.zero_mul], by decide⟩
          · rw [up_ne _ _ hjk]; exact hWw j (by omega)) _ _ _ B (lv_sub hl [0, 1, 2, 3, 4, 5, 6] rfl)
              · refine lv_aload_n hx hb d_RR_common_96 rfl (lv_at hl 2 rfl) ?_
                refine x_get (C := RX6) (T := TX6) (N := 14) hx hb hts inX6 hown (B.foc1 (hCw.x)) (hAd.f1 (by omega)) 0 rfl rfl 5 (by decide) (hts _ w_202) (fun _ h9 => h9) rfl d_RR_common_97 ?_
                refine lv_iload hx hb d_RR_common_100 (lv_at hl 0 rfl) ?_
                refine lv_aload_n hx hb d_RR_common_102 rfl (lv_at hl 2 rfl) ?_
                refine x_get (C := RX6) (T := TX6) (N := 14) hx hb hts inX6 hown (B.foc1 (hCw.x)) (hAd.f1 (by omega)) 0 rfl rfl 2 (by decide) (hts _ w_199) (fun _ h9 => h9) rfl d_RR_common_103 ?_
                refine lv_lload hx hb d_RR_common_106 (lv_at hl 1 rfl) ?_
                refine lv_iload hx hb d_RR_common_108 (lv_at hl 0 rfl) ?_
                obtain ⟨Gl, hG1l, hG2l⟩ := hCw.2.1
                obtain ⟨qq, hq1, hq2⟩ := hdvx k (by omega)
                refine x_calll B hA (va_runV (As := [.long (lI ld), .int (iI ((k : Int)))]) (rest := [.int (iI ((k : Int))), .ref ((ad 8))]) ⟨hx, hb, hml, hown, hts⟩ (c_Chain_last l D cs _ _ _ (ad 2) (ad 3) (ad 4) (Rw 42) (ad 226) n dt k (Iw 4) (Iw 5) ld (Aw 7) Gl Rw (Ckk ad) (Bg ad) Qm Zw (hAd.fc [2, 3, 4] (by simp only [List.nodup_cons, List.mem_cons, List.not_mem_nil, or_false, not_or, List.nodup_nil, and_true, not_false_eq_true]; omega) (by intro q hq; simp only [List.mem_cons, List.not_mem_nil, or_false] at hq; omega)) (by rw [← hIw3]; exact hCw.ch) hG2l hCw.tq hn (hAw7) (by omega) (by omega) hG1l hCw.2.2.2.1 (fun b hb => Ckk.bg hb) hAd.sp hCw.2.2.1 (hAd.outs [2, 3, 4] (by intro q hq; simp only [List.mem_cons, List.not_mem_nil, or_false] at hq; omega)) (by omega) (by rw [hGw _ (by omega)]; exact hGt.2.1) (by rw [hGw _ (by omega)]; exact lead_room (by omega) (hGb _ (by omega))) (by rw [hGw _ (by omega), hGw _ (by omega)]; exact ⟨qq, hq1⟩)) (cwV 2 hts (gw_V w_317 w_318 w_319 w_2 w_320) rfl rfl rfl (by decide +kernel) ⟨by rw [hRf]; exact Nat.le_of_ble_eq_true rfl, by rw [hRl]; exact Nat.le_of_ble_eq_true rfl⟩) ⟨K0.blind, B.recv (hAd.1 _ (by omega)) (hCw.ch) rfl, B.pre _⟩ rfl rfl hl.1 rfl (lv_room (Nat.le_of_ble_eq_true rfl)) d_RR_common_110 ⟨by rw [hRc]; omega, by rw [hRs]; omega⟩) (fun r110 g110 H locs hw B => ?_)
                obtain ⟨Zl, rfl, hZl, hBl, hql, hchl, httl, htql⟩ := hw
                have hCl : CSt cs ad Qm g110 Iw Aw Rw Zl := hCw.bigs hBl (fun k hk => by
                    by_cases h2 : k = 2
                    · rw [h2, hchl, hCw.ch, hIw3]
                    by_cases h3 : k = 3
                    · rw [h3, httl, hG2l]
                    by_cases h4 : k = 4
                    · rw [h4, htql, hCw.tq]
                    exact hql (ad k) (hAd.out hk) (fun hm => by simp only [List.mem_cons, List.not_mem_nil, or_false] at hm; rcases hm with h | h | h; exact h2 (hAd.2.1 _ _ (by omega) (by omega) h); exact h3 (hAd.2.1 _ _ (by omega) (by omega) h); exact h4 (hAd.2.1 _ _ (by omega) (by omega) h)))
                have hfrl : ∀ k, Awy ad k → g110 k = f k := fun k hk => (hql k (hk.out hAd) (hk.nin [2, 3, 4] (by intro q hq; simp only [List.mem_cons, List.not_mem_nil, or_false] at hq; omega))).trans (hfrw k hk)
                have hRCI := hCw.2.2.2.1
                have hGl : ∀ j, j < 6 → Zl (Rw (6 * (n - 1) + j)) = G j := fun j hj => by rw [hZl _ (hRCI.1 _ (by omega)).2.1 (hRCI.1 _ (by omega)).2.2]; exact hGw j hj
                rw [over_eq (za := ld * Zw (Rw (6 * (n - 1) + k))) (zb := Zw (Rw (6 * (n - 1) + dt))) (q := qq) (by rw [hGw _ (by omega)]; exact hGt.2.1) (by rw [hGw _ (by omega), hGw _ (by omega)]; exact hq1) (by omega)]
                have B : Wb D vwCl (TY cs) L g110 (AL L s.heap.size) s H _ := B
                refine x_last hx hb (B.foc1 (hCl.wide)) (hAd.f1 (by omega)) 0 1 rfl rfl k (by omega) (by omega) (by decide) d_RR_common_113 (fun H locs B => ?_)
                have B : Wb D vwCl (TY cs) L (mw g110 [((ad 8), .inl (cs 1, 12, .inr (.inl (al (up (Aw 0) k (qq))))))]) (AL L s.heap.size) s H _ := B
                obtain ⟨f_113, hf_113⟩ : ∃ f_113, f_113 = mw g110 [((ad 8), .inl (cs 1, 12, .inr (.inl (al (up (Aw 0) k (qq))))))] := ⟨_, rfl⟩
                rw [← hf_113] at B
                obtain ⟨A_113, hA_113⟩ : ∃ A_113, A_113 = upA Aw 0 (up (Aw 0) k (qq)) := ⟨_, rfl⟩
                have hC_113 : CSt cs ad Qm f_113 Iw A_113 Rw Zl := by rw [hf_113, hA_113]; exact CSt.w_wide hAd hCl _
                have hfr_113 : ∀ k, Awy ad k → f_113 k = f k := fun k hk => Eq.trans (by rw [hf_113]; exact hk.mw1 (by omega)) (hfrl k hk)
                refine x_iinc (lv' := [(7, .int (iI (((k : Int)) + 1))), (5, .long (lI ld)), (0, .ref ((ad 0))), (1, .ref ((ad ka))), (2, .ref ((ad kb))), (3, .int (iI ((ta : Int) - 1))), (4, .int (iI ((tb : Int) - 1)))]) hx hb d_RR_common_114 hl (q := 0) rfl rfl (by decide) rfl (fun ls hl => ?_)
                refine lv_goto (tgt := 89) hx hb d_RR_common_117 (by decide) ?_
                exact ih_LP f_113 Iw A_113 Rw Zl (k + 1) (by omega) hC_113 hfr_113 (by omega) hIw (fun q hq => by rw [hA_113, upA_ne _ _ hq]; exact hAw q hq) hGl (fun j hj => by
          rw [hA_113, upA_self]
          by_cases hjk : j = k
          · rw [hjk, up_self]; exact ⟨by rw [hq1, Int.mul_comm], hq2⟩
          · rw [up_ne _ _ hjk]; exact hWw j (by omega)) _ _ _ B (lv_sub hl [0, 1, 2, 3, 4, 5, 6] rfl)
        exact LP _ f_83 Ie A_83 Re Ze 0 (Nat.lt_succ_self _) hC_83 hfr_83 (by omega) (fun _ => rfl) (fun q hq => by rw [hA_83, upA_ne _ _ hq]) hGe (fun j hj => by omega) _ _ _ B (lv_sub hl [0, 1, 2, 3, 4, 5, 6] rfl)
      refine lv_aload_n hx hb d_RR_common_39 rfl (lv_at hl 2 rfl) ?_
      refine x_get (C := RX6) (T := TX6) (N := 14) hx hb hts inX6 hown (B.foc1 (hC.x)) (hAd.f1 (by omega)) 0 rfl rfl 2 (by decide) (hts _ w_199) (fun _ h9 => h9) rfl d_RR_common_40 ?_
      refine lv_iload_n hx hb d_RR_common_43 rfl (lv_at hl 1 rfl) ?_
      refine lv_iload hx hb d_RR_common_44 (lv_at hl 0 rfl) ?_
      refine x_icmp_lt (tgt := 53) hx hb d_RR_common_46 (by decide) (by omega) (by omega) (fun h46 => ?_) (fun h46 => ?_)
      · refine lv_aload_n hx hb d_RR_common_53 rfl (lv_at hl 4 rfl) ?_
        refine lv_iload_n hx hb d_RR_common_54 rfl (lv_at hl 1 rfl) ?_
        refine lv_iload hx hb d_RR_common_55 (lv_at hl 0 rfl) ?_
        refine x_icmp_lt (tgt := 64) hx hb d_RR_common_57 (by decide) (by omega) (by omega) (fun h57 => ?_) (fun h57 => ?_)
        · refine lv_aload_n hx hb d_RR_common_64 rfl (lv_at hl 3 rfl) ?_
          obtain ⟨Gy, hG1y, hG2y⟩ := hC.2.1
          refine x_callv B hA (va_runV (As := [.ref ((ad kb)), .ref ((ad ka))]) (rest := []) ⟨hx, hb, hml, hown, hts⟩ (c_Chain_begin l D cs _ _ _ (ad 2) (ad 3) (ad 4) (Rf 42) (ad 226) (ad kb) (ad ka) (If 3) (If 4) (If 5) (Af 7) (Af qb) (Af qa) Gy Rf (Ckk ad) (Bg ad) Qm Zf (hAd.fc [2, 3, 4, kb, ka] (by have := (hkb).lt; have := (hka).lt; simp only [List.nodup_cons, List.mem_cons, List.not_mem_nil, or_false, not_or, List.nodup_nil, and_true, not_false_eq_true]; omega) (by have := (hkb).lt; have := (hka).lt; intro q hq; simp only [List.mem_cons, List.not_mem_nil, or_false] at hq; omega)) hC.ch hG2y hC.tq (hC.ar hkb) (hC.ar hka) hG1y hC.2.2.2.1 (fun b hb => Ckk.bg hb) hAd.sp hC.2.2.1 (hAd.outs [2, 3, 4, kb, ka] (by have := (hkb).lt; have := (hka).lt; intro q hq; simp only [List.mem_cons, List.not_mem_nil, or_false] at hq; omega)) hbw haw (fun k1 k2 h1 h2 h3 h4 => by
      have q1 : tb ≤ k1 := Classical.byContradiction (fun hn => htbl (by omega) (h3 (tb - 1) (by omega) (by omega)))
      have q2 : k2 ≤ ta := by
        rcases Nat.eq_zero_or_pos k2 with h | h
        · omega
        · exact Classical.byContradiction (fun hn => h4 h (htaz (k2 - 1) (by omega) (by omega)))
      omega) ⟨tb - 1, by omega, htbl (by omega)⟩) (cwV 2 hts (gw_V w_288 w_289 w_290 w_2 w_291) rfl rfl rfl (by decide +kernel) ⟨by rw [hRf]; exact Nat.le_of_ble_eq_true rfl, by rw [hRl]; exact Nat.le_of_ble_eq_true rfl⟩) ⟨K0.blind, B.recv (hAd.1 _ (by omega)) (hC.ch) rfl, B.pre _⟩ rfl rfl hl.1 rfl (lv_room (Nat.le_of_ble_eq_true rfl)) d_RR_common_65 ⟨by rw [hRc]; omega, by rw [hRs]; omega⟩) (fun g65 H locs hw B => ?_)
          obtain ⟨ny, kay, kby, tmy, ggy, cly, Zy, ty, hn1y, hn2y, hkay, hkby, hCIy, hGGy, hZZy, hSqy, hTpy, hBty, hBBy, hqy, hchy, htty, htqy, hvay, hvby⟩ := hw
          obtain ⟨Iy, hIy⟩ : ∃ Iy, Iy = up If 3 (ny : Int) := ⟨_, rfl⟩
          obtain ⟨Ay, hAy⟩ : ∃ Ay, Ay = upA Af 7 ty := ⟨_, rfl⟩
          obtain ⟨Ry, hRy⟩ : ∃ Ry, Ry = upC Rf tmy cly := ⟨_, rfl⟩
          have hCy : CSt cs ad Qm g65 Iy Ay Ry Zy := by rw [hIy, hAy, hRy]; exact CSt.begin hAd hC [kb, ka] hCIy hGGy hBBy hqy (fun k hk => by simp only [List.mem_cons, List.not_mem_nil, or_false] at hk; rcases hk with hk | hk <;> rw [hk]; exact ⟨by have := (hkb).lt; have := (hka).lt; omega, hvay.trans (hC.ar hkb).symm⟩; exact ⟨by have := (hkb).lt; have := (hka).lt; omega, hvby.trans (hC.ar hka).symm⟩) hchy htty htqy
          have hfry : ∀ k, Awy ad k → g65 k = f k := fun k hk => (hqy k (hk.out hAd) (hk.nin [2, 3, 4, kb, ka] (by have := (hkb).lt; have := (hka).lt; intro q hq; simp only [List.mem_cons, List.not_mem_nil, or_false] at hq; omega))).trans (hfr k hk)
          have hkb6y := hkby.1
          have hRwy : ∀ k, k < ny → ∀ j, j < 6 → ChRow Ry Zy k j = Zy (tmy (6 * k + j)) := fun k hk j hj => by rw [hRy]; show Zy (upC Rf tmy cly (6 * k + j)) = _; unfold upC; rw [if_pos (by omega)]
          have hSqy := hSqy.congr hRwy
          have hTpy := hTpy.congr (t' := Ay 7) hRwy (fun k _ => by rw [hAy, upA_self])
          have hBty := hBty.congr hRwy
          have hI3y : Iy 3 = (ny : Int) := by rw [hIy, up_self]
          have B : Wb D vwCl (TY cs) L g65 (AL L s.heap.size) s H _ := B
          obtain ⟨dt, hdt1, hdt2, hdt3, hdt4⟩ := hTpy (ny - 1) (by omega)
          obtain ⟨db, a0b, hb1, hb2, hb3, hb4⟩ := hBty (ny - 1) (by omega)
          have hgc := hSqy.gcd ⟨ta - 1, by omega, htal (by omega)⟩
          exact J68 g65 Iy Ay Ry Zy ny dt (ChRow Ry Zy (ny - 1)) hCy hfry (⟨hn1y, by omega⟩) hI3y (fun i hi => by rw [hIy, up_ne _ _ hi]) (fun q hq => by rw [hAy, upA_ne _ _ hq]) hdt2 (fun j hj => rfl) (⟨hgc.1.symm, hgc.2.2, hgc.2.1⟩) (⟨hdt1, hdt3, hdt4⟩) (hb3.up (by omega)) _ _ _ B (lv_sub hl [2, 3, 4, 1, 0] rfl)
        · exfalso; omega
      · refine lv_aload_n hx hb d_RR_common_49 rfl (lv_at hl 3 rfl) ?_
        refine lv_goto (tgt := 54) hx hb d_RR_common_50 (by decide) ?_
        refine lv_iload_n hx hb d_RR_common_54 rfl (lv_at hl 1 rfl) ?_
        refine lv_iload hx hb d_RR_common_55 (lv_at hl 0 rfl) ?_
        refine x_icmp_lt (tgt := 64) hx hb d_RR_common_57 (by decide) (by omega) (by omega) (fun h57 => ?_) (fun h57 => ?_)
        · exfalso; omega
        · refine lv_aload_n hx hb d_RR_common_60 rfl (lv_at hl 4 rfl) ?_
          refine lv_goto (tgt := 65) hx hb d_RR_common_61 (by decide) ?_
          obtain ⟨Gy, hG1y, hG2y⟩ := hC.2.1
          refine x_callv B hA (va_runV (As := [.ref ((ad ka)), .ref ((ad kb))]) (rest := []) ⟨hx, hb, hml, hown, hts⟩ (c_Chain_begin l D cs _ _ _ (ad 2) (ad 3) (ad 4) (Rf 42) (ad 226) (ad ka) (ad kb) (If 3) (If 4) (If 5) (Af 7) (Af qa) (Af qb) Gy Rf (Ckk ad) (Bg ad) Qm Zf (hAd.fc [2, 3, 4, ka, kb] (by have := (hka).lt; have := (hkb).lt; simp only [List.nodup_cons, List.mem_cons, List.not_mem_nil, or_false, not_or, List.nodup_nil, and_true, not_false_eq_true]; omega) (by have := (hka).lt; have := (hkb).lt; intro q hq; simp only [List.mem_cons, List.not_mem_nil, or_false] at hq; omega)) hC.ch hG2y hC.tq (hC.ar hka) (hC.ar hkb) hG1y hC.2.2.2.1 (fun b hb => Ckk.bg hb) hAd.sp hC.2.2.1 (hAd.outs [2, 3, 4, ka, kb] (by have := (hka).lt; have := (hkb).lt; intro q hq; simp only [List.mem_cons, List.not_mem_nil, or_false] at hq; omega)) haw hbw (fun k1 k2 h1 h2 h3 h4 => by
      have q1 : ta ≤ k1 := Classical.byContradiction (fun hn => htal (by omega) (h3 (ta - 1) (by omega) (by omega)))
      have q2 : k2 ≤ tb := by
        rcases Nat.eq_zero_or_pos k2 with h | h
        · omega
        · exact Classical.byContradiction (fun hn => h4 h (htbz (k2 - 1) (by omega) (by omega)))
      omega) ⟨ta - 1, by omega, htal (by omega)⟩) (cwV 2 hts (gw_V w_288 w_289 w_290 w_2 w_291) rfl rfl rfl (by decide +kernel) ⟨by rw [hRf]; exact Nat.le_of_ble_eq_true rfl, by rw [hRl]; exact Nat.le_of_ble_eq_true rfl⟩) ⟨K0.blind, B.recv (hAd.1 _ (by omega)) (hC.ch) rfl, B.pre _⟩ rfl rfl hl.1 rfl (lv_room (Nat.le_of_ble_eq_true rfl)) d_RR_common_65 ⟨by rw [hRc]; omega, by rw [hRs]; omega⟩) (fun g65 H locs hw B => ?_)
          obtain ⟨ny, kay, kby, tmy, ggy, cly, Zy, ty, hn1y, hn2y, hkay, hkby, hCIy, hGGy, hZZy, hSqy, hTpy, hBty, hBBy, hqy, hchy, htty, htqy, hvay, hvby⟩ := hw
          obtain ⟨Iy, hIy⟩ : ∃ Iy, Iy = up If 3 (ny : Int) := ⟨_, rfl⟩
          obtain ⟨Ay, hAy⟩ : ∃ Ay, Ay = upA Af 7 ty := ⟨_, rfl⟩
          obtain ⟨Ry, hRy⟩ : ∃ Ry, Ry = upC Rf tmy cly := ⟨_, rfl⟩
          have hCy : CSt cs ad Qm g65 Iy Ay Ry Zy := by rw [hIy, hAy, hRy]; exact CSt.begin hAd hC [ka, kb] hCIy hGGy hBBy hqy (fun k hk => by simp only [List.mem_cons, List.not_mem_nil, or_false] at hk; rcases hk with hk | hk <;> rw [hk]; exact ⟨by have := (hka).lt; have := (hkb).lt; omega, hvay.trans (hC.ar hka).symm⟩; exact ⟨by have := (hka).lt; have := (hkb).lt; omega, hvby.trans (hC.ar hkb).symm⟩) hchy htty htqy
          have hfry : ∀ k, Awy ad k → g65 k = f k := fun k hk => (hqy k (hk.out hAd) (hk.nin [2, 3, 4, ka, kb] (by have := (hka).lt; have := (hkb).lt; intro q hq; simp only [List.mem_cons, List.not_mem_nil, or_false] at hq; omega))).trans (hfr k hk)
          have hkb6y := hkby.1
          have hRwy : ∀ k, k < ny → ∀ j, j < 6 → ChRow Ry Zy k j = Zy (tmy (6 * k + j)) := fun k hk j hj => by rw [hRy]; show Zy (upC Rf tmy cly (6 * k + j)) = _; unfold upC; rw [if_pos (by omega)]
          have hSqy := hSqy.congr hRwy
          have hTpy := hTpy.congr (t' := Ay 7) hRwy (fun k _ => by rw [hAy, upA_self])
          have hBty := hBty.congr hRwy
          have hI3y : Iy 3 = (ny : Int) := by rw [hIy, up_self]
          have B : Wb D vwCl (TY cs) L g65 (AL L s.heap.size) s H _ := B
          obtain ⟨dt, hdt1, hdt2, hdt3, hdt4⟩ := hTpy (ny - 1) (by omega)
          obtain ⟨db, a0b, hb1, hb2, hb3, hb4⟩ := hBty (ny - 1) (by omega)
          have hgc := hSqy.gcd ⟨tb - 1, by omega, htbl (by omega)⟩
          exact J68 g65 Iy Ay Ry Zy ny dt (ChRow Ry Zy (ny - 1)) hCy hfry (⟨hn1y, by omega⟩) hI3y (fun i hi => by rw [hIy, up_ne _ _ hi]) (fun q hq => by rw [hAy, upA_ne _ _ hq]) hdt2 (fun j hj => rfl) hgc (⟨hdt1, hdt3, hdt4⟩) (hb3.up (by omega)) _ _ _ B (lv_sub hl [2, 3, 4, 1, 0] rfl)
    · refine lv_aload_n hx hb d_RR_common_22 rfl (lv_at hl 2 rfl) ?_
      refine lv_iload_n hx hb d_RR_common_23 rfl (lv_at hl 1 rfl) ?_
      refine x_iconst hx hb d_RR_common_24 ?_
      refine x_icmp_ne (tgt := 32) hx hb d_RR_common_25 (by decide) (by omega) (by omega) (fun h25 => ?_) (fun h25 => ?_)
      · refine lv_aload_n hx hb d_RR_common_32 rfl (lv_at hl 3 rfl) ?_
        refine x_callv B hA (va_runV (As := [.ref ((ad ka))]) (rest := []) ⟨hx, hb, hml, hown, hts⟩ (c_RR_widen l D cs _ _ _ (ad 0) (ad 1) (ad 2) (ad 5) (ad 7) (ad 8) (ad 9) (ad 10) (ad 11) (ad 12) (ad 13) (ad 14) (If 0) (If 1) (If 2) (ad ka) (Af 0) (Af qa) (hAd.fc [0, 8, ka] (by have := (hka).lt; simp only [List.nodup_cons, List.mem_cons, List.not_mem_nil, or_false, not_or, List.nodup_nil, and_true, not_false_eq_true]; omega) (by have := (hka).lt; intro q hq; simp only [List.mem_cons, List.not_mem_nil, or_false] at hq; omega)) hC.x (hhd) hC.wide (hC.ar hka) (fun j hj => by have := haw j hj; omega)) (cwV 1 hts (gw_V w_284 w_286 s_6 w_1 w_287) rfl rfl rfl (by decide +kernel) ⟨by rw [hRf]; exact Nat.le_of_ble_eq_true rfl, by rw [hRl]; exact Nat.le_of_ble_eq_true rfl⟩) ⟨K0.blind, B.recv (hAd.1 _ (by omega)) (hC.x) rfl, B.pre _⟩ rfl rfl hl.1 rfl (lv_room (Nat.le_of_ble_eq_true rfl)) d_RR_common_33 ⟨by rw [hRc]; omega, by rw [hRs]; omega⟩) (fun g33 H locs hw B => ?_)
        obtain ⟨zw, hzw, rfl⟩ := hw
        have B : Wb D vwCl (TY cs) L (mw f [((ad 8), .inl (cs 1, 12, .inr (.inl (al zw))))]) (AL L s.heap.size) s H _ := B
        obtain ⟨f_33, hf_33⟩ : ∃ f_33, f_33 = mw f [((ad 8), .inl (cs 1, 12, .inr (.inl (al zw))))] := ⟨_, rfl⟩
        rw [← hf_33] at B
        obtain ⟨A_33, hA_33⟩ : ∃ A_33, A_33 = upA Af 0 zw := ⟨_, rfl⟩
        have hC_33 : CSt cs ad Qm f_33 If A_33 Rf Zf := by rw [hf_33, hA_33]; exact CSt.w_wide hAd hC _
        have hfr_33 : ∀ k, Awy ad k → f_33 k = f k := fun k hk => Eq.trans (by rw [hf_33]; exact hk.mw1 (by omega)) (hfr k hk)
        refine lv_goto (tgt := 120) hx hb d_RR_common_36 (by decide) ?_
        exact J120 f_33 If A_33 Rf Zf hC_33 hfr_33 (fun i _ => rfl) (fun q h1 _ => by rw [hA_33, upA_ne _ _ h1]) (fun j hj => by rw [hA_33, upA_self, hzw j (by omega), if_pos hj]; have := haw j hj; omega) (fun z hz => (gcd_zero (fun j hj => htbz j (by omega) hj) (hz.congr1 (fun j hj => by rw [hA_33, upA_self, hzw j (by omega), if_pos hj]))).symm) _ _ _ B (lv_sub hl [2] rfl)
      · refine lv_aload_n hx hb d_RR_common_28 rfl (lv_at hl 4 rfl) ?_
        refine lv_goto (tgt := 33) hx hb d_RR_common_29 (by decide) ?_
        refine x_callv B hA (va_runV (As := [.ref ((ad kb))]) (rest := []) ⟨hx, hb, hml, hown, hts⟩ (c_RR_widen l D cs _ _ _ (ad 0) (ad 1) (ad 2) (ad 5) (ad 7) (ad 8) (ad 9) (ad 10) (ad 11) (ad 12) (ad 13) (ad 14) (If 0) (If 1) (If 2) (ad kb) (Af 0) (Af qb) (hAd.fc [0, 8, kb] (by have := (hkb).lt; simp only [List.nodup_cons, List.mem_cons, List.not_mem_nil, or_false, not_or, List.nodup_nil, and_true, not_false_eq_true]; omega) (by have := (hkb).lt; intro q hq; simp only [List.mem_cons, List.not_mem_nil, or_false] at hq; omega)) hC.x (hhd) hC.wide (hC.ar hkb) (fun j hj => by have := hbw j hj; omega)) (cwV 1 hts (gw_V w_284 w_286 s_6 w_1 w_287) rfl rfl rfl (by decide +kernel) ⟨by rw [hRf]; exact Nat.le_of_ble_eq_true rfl, by rw [hRl]; exact Nat.le_of_ble_eq_true rfl⟩) ⟨K0.blind, B.recv (hAd.1 _ (by omega)) (hC.x) rfl, B.pre _⟩ rfl rfl hl.1 rfl (lv_room (Nat.le_of_ble_eq_true rfl)) d_RR_common_33 ⟨by rw [hRc]; omega, by rw [hRs]; omega⟩) (fun g33 H locs hw B => ?_)
        obtain ⟨zw, hzw, rfl⟩ := hw
        have B : Wb D vwCl (TY cs) L (mw f [((ad 8), .inl (cs 1, 12, .inr (.inl (al zw))))]) (AL L s.heap.size) s H _ := B
        obtain ⟨f_33, hf_33⟩ : ∃ f_33, f_33 = mw f [((ad 8), .inl (cs 1, 12, .inr (.inl (al zw))))] := ⟨_, rfl⟩
        rw [← hf_33] at B
        obtain ⟨A_33, hA_33⟩ : ∃ A_33, A_33 = upA Af 0 zw := ⟨_, rfl⟩
        have hC_33 : CSt cs ad Qm f_33 If A_33 Rf Zf := by rw [hf_33, hA_33]; exact CSt.w_wide hAd hC _
        have hfr_33 : ∀ k, Awy ad k → f_33 k = f k := fun k hk => Eq.trans (by rw [hf_33]; exact hk.mw1 (by omega)) (hfr k hk)
        refine lv_goto (tgt := 120) hx hb d_RR_common_36 (by decide) ?_
        exact J120 f_33 If A_33 Rf Zf hC_33 hfr_33 (fun i _ => rfl) (fun q h1 _ => by rw [hA_33, upA_ne _ _ h1]) (fun j hj => by rw [hA_33, upA_self, hzw j (by omega), if_pos hj]; have := hbw j hj; omega) (fun z hz => gcd_zero (fun j hj => htaz j (by omega) hj) (hz.congr1 (fun j hj => by rw [hA_33, upA_self, hzw j (by omega), if_pos hj]))) _ _ _ B (lv_sub hl [2] rfl)
set_option maxHeartbeats 8000000 in
set_option maxRecDepth 100000 in
theorem c_RR_common_s (l : Launch) (D : va_G) (cs : Nat → ClassId) (L : List Nat) (f : Nat → va_E) (sz : Nat) (ad Qm : Nat → Nat) (If : Nat → Int) (Af : Nat → Nat → Int) (Rf : Nat → Nat) (Zf : Nat → Int) (ka qa : Nat) (hAd : AdOk L ad Qm) (hC : CSt cs ad Qm f If Af Rf Zf) (hka : Ar ka qa) (hk10 : ka ≠ 10) (haw : ∀ j, j < 6 → -262144 < Af qa j ∧ Af qa j < 262144) (hhd : 0 ≤ If 0 ∧ If 0 ≤ 12) : Met l (⟨"RealRoots", "common", "([I[I)V"⟩ : MethodName) (.code (⟨"RealRoots", "common", "([I[I)V"⟩ : MethodName) prog_1_method_37_code 8 (Option.none : Option Jvm.ClassFile.FieldType) :: gw) ({ frames := 4, cells := 0, slots := 0, locals := 220 }) (va_Pc [.ref ((ad 0)), .ref ((ad ka)), .ref ((ad ka))] (K0 D vwCl (TY cs) L f sz)) (va_Qv (fun (g : Nat → va_E) => ∃ (I' : Nat → Int) (A' : Nat → Nat → Int) (R' : Nat → Nat) (Z' : Nat → Int), CSt cs ad Qm g I' A' R' Z' ∧ (∀ k, Awy ad k → g k = f k) ∧ Gcd (Af qa) (Af qa) (A' 2) ∧ (∀ i, i ≠ 3 → I' i = If i) ∧ ∀ q, q ≠ 0 → q ≠ 2 → q ≠ 7 → A' q = Af q) (K1 D vwCl (TY cs) (AL L sz) L) (AL L sz)) 0 0 (AL L sz) := by
  refine Met.ofW (cc := prog_1_method_37_code) (maxL := 8) (ret := (Option.none : Option Jvm.ClassFile.FieldType)) (by decide) rfl ?_
  intro p e s m args below meth c s₁ Bd hml hv
  obtain ⟨rfl, hk0⟩ := hv
  obtain ⟨hsz, B⟩ := hk0.start
  subst hsz
  have hx := Bd.exec
  have hb := Bd.bytes
  have hr := Bd.returns
  have hlocks := Bd.notSynchronized
  have hts0 := atoms_spec Bd.pre
  have hown : s.vm.findClass RX6 = some m.cls := findClass_of_methodNamed Bd.named
  have hA : ∀ q, s.heap.size ≤ q → AL L s.heap.size q := fun _ h => Or.inr h
  have hl := lv_entry ([.ref ((ad 0)), .ref ((ad ka)), .ref ((ad ka))]) (n := 8) (Nat.le_of_ble_eq_true rfl)
  rw [lg_entry_eq]
  generalize (lg_sl ([.ref ((ad 0)), .ref ((ad ka)), .ref ((ad ka))]) ++ List.replicate (8 - (lg_sl ([.ref ((ad 0)), .ref ((ad ka)), .ref ((ad ka))])).length) Slot.unset).toArray = ls at hl ⊢
  refine absQ (fun Q R av hQ hR hav => ?_)
  have hts : ∀ w ∈ gw, w.before av s = true := by rw [hav]; exact fun w h => hts0 w (List.mem_cons_of_mem _ h)
  have hRf : R.frames = 4 := by rw [hR]; rfl
  have hRl : R.locals = 220 := by rw [hR]; rfl
  have hRc : R.cells = 0 := by rw [hR]; rfl
  have hRs : R.slots = 0 := by rw [hR]; rfl
  clear hR hts0 Bd
  have hl : lv_has ls 8 [(0, .ref ((ad 0))), (1, .ref ((ad ka))), (2, .ref ((ad ka)))] := hl
  have hfr : ∀ k, Awy ad k → f k = f k := fun _ _ => rfl
  refine lv_aload_n hx hb d_RR_common_0 rfl (lv_at hl 1 rfl) ?_
  refine x_calli B hA (va_runS (As := [.ref ((ad ka))]) (rest := []) ⟨hx, hb, hml, hown, hts⟩ (c_RR_topOf l D cs _ _ _ (ad ka) (Af qa) (hAd.f1 (by have := (hka).lt; omega)) (hC.ar hka) (fun j hj => by have := haw j hj; omega)) (va_cwS 1 hts (gw_S w_273 w_274 w_1 w_275) rfl rfl rfl (by decide +kernel) ⟨by rw [hRf]; exact Nat.le_of_ble_eq_true rfl, by rw [hRl]; exact Nat.le_of_ble_eq_true rfl⟩) ⟨K0.blind, B.pre _⟩ rfl rfl hl.1 rfl (lv_room (Nat.le_of_ble_eq_true rfl)) d_RR_common_1 ⟨by rw [hRc]; omega, by rw [hRs]; omega⟩) (fun r1 g1 H locs hw B => ?_)
  obtain ⟨ta, rfl, hta6, htaz, htal, hgf⟩ := hw
  rw [hgf] at B
  refine lv_istore_n (lv' := [(3, .int (iI ((ta : Int) - 1))), (0, .ref ((ad 0))), (1, .ref ((ad ka))), (2, .ref ((ad ka)))]) hx hb d_RR_common_4 rfl hl (by decide) rfl (fun ls hl => ?_)
  refine lv_aload_n hx hb d_RR_common_5 rfl (lv_at hl 3 rfl) ?_
  refine x_calli B hA (va_runS (As := [.ref ((ad ka))]) (rest := []) ⟨hx, hb, hml, hown, hts⟩ (c_RR_topOf l D cs _ _ _ (ad ka) (Af qa) (hAd.f1 (by have := (hka).lt; omega)) (hC.ar hka) (fun j hj => by have := haw j hj; omega)) (va_cwS 1 hts (gw_S w_273 w_274 w_1 w_275) rfl rfl rfl (by decide +kernel) ⟨by rw [hRf]; exact Nat.le_of_ble_eq_true rfl, by rw [hRl]; exact Nat.le_of_ble_eq_true rfl⟩) ⟨K0.blind, B.pre _⟩ rfl rfl hl.1 rfl (lv_room (Nat.le_of_ble_eq_true rfl)) d_RR_common_6 ⟨by rw [hRc]; omega, by rw [hRs]; omega⟩) (fun r6 g6 H locs hw B => ?_)
  obtain ⟨tb, rfl, htb6, htbz, htbl, hgf⟩ := hw
  rw [hgf] at B
  refine lv_istore (lv' := [(4, .int (iI ((tb : Int) - 1))), (3, .int (iI ((ta : Int) - 1))), (0, .ref ((ad 0))), (1, .ref ((ad ka))), (2, .ref ((ad ka)))]) hx hb d_RR_common_9 hl (by decide) rfl (fun ls hl => ?_)
  have J120 : ∀ (fd : Nat → va_E) (Id : Nat → Int) (Ad : Nat → Nat → Int) (Rd : Nat → Nat) (Zd : Nat → Int), (CSt cs ad Qm fd Id Ad Rd Zd) → (∀ k, Awy ad k → fd k = f k) → (∀ i, i ≠ 3 → Id i = If i) → (∀ q, q ≠ 0 → q ≠ 7 → Ad q = Af q) → (∀ j, j < 6 → -4611686018427387904 < Ad 0 j ∧ Ad 0 j < 4611686018427387904) → (∀ z, PrimOf (Ad 0) z → Gcd (Af qa) (Af qa) z) → ∀ (H : Heap) (locs : List Loc) (ls : Array Slot), Wb D vwCl (TY cs) L fd (AL L s.heap.size) s H locs → lv_has ls 8 [(0, .ref ((ad 0)))] → W p l e R s m av below meth c H locs (0) (0) Q (F0 m 120 ls []) := by
    intro fd Id Ad Rd Zd hCd hfrd hId hAdd hWr hWg H locs ls B hl
    have hI0 : Id 0 = If 0 := hId 0 (by decide)
    refine lv_aload_n hx hb d_RR_common_120 rfl (lv_at hl 0 rfl) ?_
    refine x_callv B hA (va_runV (As := []) (rest := []) ⟨hx, hb, hml, hown, hts⟩ (c_RR_makeWidePrimitive l D cs _ _ _ (ad 0) (ad 1) (ad 2) (ad 5) (ad 7) (ad 8) (ad 9) (ad 10) (ad 11) (ad 12) (ad 13) (ad 14) (Id 0) (Id 1) (Id 2) (Ad 0) (hAd.fc [0, 8] (by simp only [List.nodup_cons, List.mem_cons, List.not_mem_nil, or_false, not_or, List.nodup_nil, and_true, not_false_eq_true]; omega) (by intro q hq; simp only [List.mem_cons, List.not_mem_nil, or_false] at hq; omega)) hCd.x (by rw [hI0]; exact hhd) hCd.wide (hWr)) (cwV 0 hts (gw_V w_339 w_341 s_9 w_1 w_342) rfl rfl rfl (by decide +kernel) ⟨by rw [hRf]; exact Nat.le_of_ble_eq_true rfl, by rw [hRl]; exact Nat.le_of_ble_eq_true rfl⟩) ⟨K0.blind, B.recv (hAd.1 _ (by omega)) (hCd.x) rfl, B.pre _⟩ rfl rfl hl.1 rfl (lv_room (Nat.le_of_ble_eq_true rfl)) d_RR_common_121 ⟨by rw [hRc]; omega, by rw [hRs]; omega⟩) (fun g121 H locs hw B => ?_)
    obtain ⟨zp, hzp, hzp6, rfl⟩ := hw
    have B : Wb D vwCl (TY cs) L (mw fd [((ad 8), .inl (cs 1, 12, .inr (.inl (al zp))))]) (AL L s.heap.size) s H _ := B
    obtain ⟨f_121, hf_121⟩ : ∃ f_121, f_121 = mw fd [((ad 8), .inl (cs 1, 12, .inr (.inl (al zp))))] := ⟨_, rfl⟩
    rw [← hf_121] at B
    obtain ⟨A_121, hA_121⟩ : ∃ A_121, A_121 = upA Ad 0 zp := ⟨_, rfl⟩
    have hC_121 : CSt cs ad Qm f_121 Id A_121 Rd Zd := by rw [hf_121, hA_121]; exact CSt.w_wide hAd hCd _
    have hfr_121 : ∀ k, Awy ad k → f_121 k = f k := fun k hk => Eq.trans (by rw [hf_121]; exact hk.mw1 (by omega)) (hfrd k hk)
    refine lv_aload_n hx hb d_RR_common_124 rfl (lv_at hl 0 rfl) ?_
    refine lv_aload_n hx hb d_RR_common_125 rfl (lv_at hl 0 rfl) ?_
    refine x_get (C := RX6) (T := TX6) (N := 14) hx hb hts inX6 hown (B.foc1 (hC_121.x)) (hAd.f1 (by omega)) 0 rfl rfl 7 (by decide) (hts _ w_204) (fun _ h9 => h9) rfl d_RR_common_126 ?_
    refine x_callv B hA (va_runV (As := [.ref ((ad 10))]) (rest := []) ⟨hx, hb, hml, hown, hts⟩ (c_RR_narrow l D cs _ _ _ (ad 0) (ad 1) (ad 2) (ad 5) (ad 7) (ad 8) (ad 9) (ad 10) (ad 11) (ad 12) (ad 13) (ad 14) (Id 0) (Id 1) (Id 2) (ad 10) (A_121 0) (A_121 2) (hAd.fc [0, 8, 10] (by have := (Ar.sh).lt; simp only [List.nodup_cons, List.mem_cons, List.not_mem_nil, or_false, not_or, List.nodup_nil, and_true, not_false_eq_true]; omega) (by have := (Ar.sh).lt; intro q hq; simp only [List.mem_cons, List.not_mem_nil, or_false] at hq; omega)) hC_121.x (by rw [hI0]; exact hhd) hC_121.wide (hC_121.ar Ar.sh)) (cwV 1 hts (gw_V w_253 w_255 s_2 w_1 w_256) rfl rfl rfl (by decide +kernel) ⟨by rw [hRf]; exact Nat.le_of_ble_eq_true rfl, by rw [hRl]; exact Nat.le_of_ble_eq_true rfl⟩) ⟨K0.blind, B.recv (hAd.1 _ (by omega)) (hC_121.x) rfl, B.pre _⟩ rfl rfl hl.1 rfl (lv_room (Nat.le_of_ble_eq_true rfl)) d_RR_common_129 ⟨by rw [hRc]; omega, by rw [hRs]; omega⟩) (fun g129 H locs hw B => ?_)
    obtain rfl := hw
    have B : Wb D vwCl (TY cs) L (mw f_121 [((ad 10), .inl (cs 0, 6, .inl (ai (cf 6 (A_121 0) (A_121 2)))))]) (AL L s.heap.size) s H _ := B
    obtain ⟨f_129, hf_129⟩ : ∃ f_129, f_129 = mw f_121 [((ad 10), .inl (cs 0, 6, .inl (ai (cf 6 (A_121 0) (A_121 2)))))] := ⟨_, rfl⟩
    rw [← hf_129] at B
    obtain ⟨A_129, hA_129⟩ : ∃ A_129, A_129 = upA A_121 2 (cf 6 (A_121 0) (A_121 2)) := ⟨_, rfl⟩
    have hC_129 : CSt cs ad Qm f_129 Id A_129 Rd Zd := by rw [hf_129, hA_129]; exact CSt.wAr hAd hC_121 Ar.sh _
    have hfr_129 : ∀ k, Awy ad k → f_129 k = f k := fun k hk => Eq.trans (by rw [hf_129]; exact hk.mw1 (by omega)) (hfr_121 k hk)
    subst hQ hav
    exact x_vret hx hb hr hlocks B d_RR_common_132 (⟨Id, A_129, Rd, Zd, hC_129, hfr_129, (hWg _ hzp).congr2 (fun j hj => by rw [hA_129, upA_self]; show cf 6 (A_121 0) (A_121 2) j = zp j; unfold cf; rw [if_pos (by omega), hA_121, upA_self]), hId, fun q h1 h2 h3 => by rw [hA_129, upA_ne _ _ h2, hA_121, upA_ne _ _ h1]; exact hAdd q h1 h3⟩)
  refine lv_iload_n hx hb d_RR_common_11 rfl (lv_at hl 1 rfl) ?_
  refine x_iconst hx hb d_RR_common_12 ?_
  refine x_icmp_eq (tgt := 22) hx hb d_RR_common_13 (by decide) (by omega) (by omega) (fun h13 => ?_) (fun h13 => ?_)
  · refine lv_aload_n hx hb d_RR_common_22 rfl (lv_at hl 2 rfl) ?_
    refine lv_iload_n hx hb d_RR_common_23 rfl (lv_at hl 1 rfl) ?_
    refine x_iconst hx hb d_RR_common_24 ?_
    refine x_icmp_ne (tgt := 32) hx hb d_RR_common_25 (by decide) (by omega) (by omega) (fun h25 => ?_) (fun h25 => ?_)
    · refine lv_aload_n hx hb d_RR_common_32 rfl (lv_at hl 3 rfl) ?_
      refine x_callv B hA (va_runV (As := [.ref ((ad ka))]) (rest := []) ⟨hx, hb, hml, hown, hts⟩ (c_RR_widen l D cs _ _ _ (ad 0) (ad 1) (ad 2) (ad 5) (ad 7) (ad 8) (ad 9) (ad 10) (ad 11) (ad 12) (ad 13) (ad 14) (If 0) (If 1) (If 2) (ad ka) (Af 0) (Af qa) (hAd.fc [0, 8, ka] (by have := (hka).lt; simp only [List.nodup_cons, List.mem_cons, List.not_mem_nil, or_false, not_or, List.nodup_nil, and_true, not_false_eq_true]; omega) (by have := (hka).lt; intro q hq; simp only [List.mem_cons, List.not_mem_nil, or_false] at hq; omega)) hC.x (hhd) hC.wide (hC.ar hka) (fun j hj => by have := haw j hj; omega)) (cwV 1 hts (gw_V w_284 w_286 s_6 w_1 w_287) rfl rfl rfl (by decide +kernel) ⟨by rw [hRf]; exact Nat.le_of_ble_eq_true rfl, by rw [hRl]; exact Nat.le_of_ble_eq_true rfl⟩) ⟨K0.blind, B.recv (hAd.1 _ (by omega)) (hC.x) rfl, B.pre _⟩ rfl rfl hl.1 rfl (lv_room (Nat.le_of_ble_eq_true rfl)) d_RR_common_33 ⟨by rw [hRc]; omega, by rw [hRs]; omega⟩) (fun g33 H locs hw B => ?_)
      obtain ⟨zw, hzw, rfl⟩ := hw
      have B : Wb D vwCl (TY cs) L (mw f [((ad 8), .inl (cs 1, 12, .inr (.inl (al zw))))]) (AL L s.heap.size) s H _ := B
      obtain ⟨f_33, hf_33⟩ : ∃ f_33, f_33 = mw f [((ad 8), .inl (cs 1, 12, .inr (.inl (al zw))))] := ⟨_, rfl⟩
      rw [← hf_33] at B
      obtain ⟨A_33, hA_33⟩ : ∃ A_33, A_33 = upA Af 0 zw := ⟨_, rfl⟩
      have hC_33 : CSt cs ad Qm f_33 If A_33 Rf Zf := by rw [hf_33, hA_33]; exact CSt.w_wide hAd hC _
      have hfr_33 : ∀ k, Awy ad k → f_33 k = f k := fun k hk => Eq.trans (by rw [hf_33]; exact hk.mw1 (by omega)) (hfr k hk)
      refine lv_goto (tgt := 120) hx hb d_RR_common_36 (by decide) ?_
      exact J120 f_33 If A_33 Rf Zf hC_33 hfr_33 (fun i _ => rfl) (fun q h1 _ => by rw [hA_33, upA_ne _ _ h1]) (fun j hj => by rw [hA_33, upA_self, hzw j (by omega), if_pos hj]; have := haw j hj; omega) (fun z hz => (gcd_zero (fun j hj => htbz j (by omega) hj) (hz.congr1 (fun j hj => by rw [hA_33, upA_self, hzw j (by omega), if_pos hj]))).symm) _ _ _ B (lv_sub hl [2] rfl)
    · refine lv_aload_n hx hb d_RR_common_28 rfl (lv_at hl 4 rfl) ?_
      refine lv_goto (tgt := 33) hx hb d_RR_common_29 (by decide) ?_
      refine x_callv B hA (va_runV (As := [.ref ((ad ka))]) (rest := []) ⟨hx, hb, hml, hown, hts⟩ (c_RR_widen l D cs _ _ _ (ad 0) (ad 1) (ad 2) (ad 5) (ad 7) (ad 8) (ad 9) (ad 10) (ad 11) (ad 12) (ad 13) (ad 14) (If 0) (If 1) (If 2) (ad ka) (Af 0) (Af qa) (hAd.fc [0, 8, ka] (by have := (hka).lt; simp only [List.nodup_cons, List.mem_cons, List.not_mem_nil, or_false, not_or, List.nodup_nil, and_true, not_false_eq_true]; omega) (by have := (hka).lt; intro q hq; simp only [List.mem_cons, List.not_mem_nil, or_false] at hq; omega)) hC.x (hhd) hC.wide (hC.ar hka) (fun j hj => by have := haw j hj; omega)) (cwV 1 hts (gw_V w_284 w_286 s_6 w_1 w_287) rfl rfl rfl (by decide +kernel) ⟨by rw [hRf]; exact Nat.le_of_ble_eq_true rfl, by rw [hRl]; exact Nat.le_of_ble_eq_true rfl⟩) ⟨K0.blind, B.recv (hAd.1 _ (by omega)) (hC.x) rfl, B.pre _⟩ rfl rfl hl.1 rfl (lv_room (Nat.le_of_ble_eq_true rfl)) d_RR_common_33 ⟨by rw [hRc]; omega, by rw [hRs]; omega⟩) (fun g33 H locs hw B => ?_)
      obtain ⟨zw, hzw, rfl⟩ := hw
      have B : Wb D vwCl (TY cs) L (mw f [((ad 8), .inl (cs 1, 12, .inr (.inl (al zw))))]) (AL L s.heap.size) s H _ := B
      obtain ⟨f_33, hf_33⟩ : ∃ f_33, f_33 = mw f [((ad 8), .inl (cs 1, 12, .inr (.inl (al zw))))] := ⟨_, rfl⟩
      rw [← hf_33] at B
      obtain ⟨A_33, hA_33⟩ : ∃ A_33, A_33 = upA Af 0 zw := ⟨_, rfl⟩
      have hC_33 : CSt cs ad Qm f_33 If A_33 Rf Zf := by rw [hf_33, hA_33]; exact CSt.w_wide hAd hC _
      have hfr_33 : ∀ k, Awy ad k → f_33 k = f k := fun k hk => Eq.trans (by rw [hf_33]; exact hk.mw1 (by omega)) (hfr k hk)
      refine lv_goto (tgt := 120) hx hb d_RR_common_36 (by decide) ?_
      exact J120 f_33 If A_33 Rf Zf hC_33 hfr_33 (fun i _ => rfl) (fun q h1 _ => by rw [hA_33, upA_ne _ _ h1]) (fun j hj => by rw [hA_33, upA_self, hzw j (by omega), if_pos hj]; have := haw j hj; omega) (fun z hz => gcd_zero (fun j hj => htaz j (by omega) hj) (hz.congr1 (fun j hj => by rw [hA_33, upA_self, hzw j (by omega), if_pos hj]))) _ _ _ B (lv_sub hl [2] rfl)
  · refine lv_iload hx hb d_RR_common_16 (lv_at hl 0 rfl) ?_
    refine x_iconst hx hb d_RR_common_18 ?_
    refine x_icmp_ne (tgt := 39) hx hb d_RR_common_19 (by decide) (by omega) (by omega) (fun h19 => ?_) (fun h19 => ?_)
    · have J68 : ∀ (fe : Nat → va_E) (Ie : Nat → Int) (Ae : Nat → Nat → Int) (Re : Nat → Nat) (Ze : Nat → Int) (n : Nat) (dt : Nat) (G : Nat → Int), (CSt cs ad Qm fe Ie Ae Re Ze) → (∀ k, Awy ad k → fe k = f k) → (1 ≤ n ∧ n ≤ 7) → (Ie 3 = (n : Int)) → (∀ i, i ≠ 3 → Ie i = If i) → (∀ q, q ≠ 7 → Ae q = Af q) → (Ae 7 (n - 1) = (dt : Int)) → (∀ j, j < 6 → Ze (Re (6 * (n - 1) + j)) = G j) → (Cmb (Af qa) (Af qa) G ∧ Dv (il G 6) (il (Af qa) 6) ∧ Dv (il G 6) (il (Af qa) 6)) → (dt < 6 ∧ G dt ≠ 0 ∧ ∀ j, dt < j → j < 6 → G j = 0) → (RowB G 1430) → ∀ (H : Heap) (locs : List Loc) (ls : Array Slot), Wb D vwCl (TY cs) L fe (AL L s.heap.size) s H locs → lv_has ls 8 [(0, .ref ((ad 0))), (1, .ref ((ad ka))), (2, .ref ((ad ka))), (3, .int (iI ((ta : Int) - 1))), (4, .int (iI ((tb : Int) - 1)))] → W p l e R s m av below meth c H locs (0) (0) Q (F0 m 68 ls []) := by
        intro fe Ie Ae Re Ze n dt G hCe hfre hn hIe3 hIe hAe hdt hGe hG3 hGt hGb H locs ls B hl
        have hI0 : Ie 0 = If 0 := hIe 0 (by decide)
        have h7a : Ae qa = Af qa := hAe _ (by unfold Ar at hka; omega)
        have hGt1 := hGt.1
        refine lv_aload_n hx hb d_RR_common_68 rfl (lv_at hl 1 rfl) ?_
        refine lv_iload_n hx hb d_RR_common_69 rfl (lv_at hl 3 rfl) ?_
        refine x_iald hx hb (B.foc1 ((hCe.ar hka))) (hAd.f1 (by have := (hka).lt; omega)) 0 0 rfl rfl (ta - 1) (by omega) (by omega) (by decide) d_RR_common_70 ?_
        have h9a0 : -262144 < Ae qa (ta - 1) ∧ Ae qa (ta - 1) < 262144 := by rw [h7a]; exact haw (ta - 1) (by omega)
        refine x_i2l hx hb d_RR_common_71 (by omega) ?_
        refine lv_aload_n hx hb d_RR_common_72 rfl (lv_at hl 2 rfl) ?_
        refine lv_iload hx hb d_RR_common_73 (lv_at hl 4 rfl) ?_
        refine x_iald hx hb (B.foc1 ((hCe.ar hka))) (hAd.f1 (by have := (hka).lt; omega)) 0 0 rfl rfl (tb - 1) (by omega) (by omega) (by decide) d_RR_common_75 ?_
        have h9b0 : -262144 < Ae qa (tb - 1) ∧ Ae qa (tb - 1) < 262144 := by rw [h7a]; exact haw (tb - 1) (by omega)
        refine x_i2l hx hb d_RR_common_76 (by omega) ?_
        rw [h7a]
        have h9a := haw (ta - 1) (by omega)
        have h9b := haw (tb - 1) (by omega)
        refine x_calll B hA (va_runS (As := [.long (lI (Af qa (ta - 1))), .long (lI (Af qa (tb - 1)))]) (rest := []) ⟨hx, hb, hml, hown, hts⟩ (c_RR_greatestDivisor l D cs _ _ _ (Af qa (ta - 1)) (Af qa (tb - 1)) (by omega) (by omega)) (va_cwS 2 hts (gw_S w_314 w_315 w_1 w_316) rfl rfl rfl (by decide +kernel) ⟨by rw [hRf]; exact Nat.le_of_ble_eq_true rfl, by rw [hRl]; exact Nat.le_of_ble_eq_true rfl⟩) ⟨K0.blind, B.pre _⟩ rfl rfl hl.1 rfl (lv_room (Nat.le_of_ble_eq_true rfl)) d_RR_common_77 ⟨by rw [hRc]; omega, by rw [hRs]; omega⟩) (fun r77 g77 H locs hw B => ?_)
        obtain ⟨rfl, hgf⟩ := hw
        rw [hgf] at B
        obtain ⟨ld, hld⟩ : ∃ ld : Int, ld = ((Nat.gcd (Af qa (ta - 1)).natAbs (Af qa (tb - 1)).natAbs : Nat) : Int) := ⟨_, rfl⟩
        rw [← hld]
        obtain ⟨hld0, hld1, hdvx⟩ := lead_dv (da := ta - 1) (db := tb - 1) (M := 262144) (by decide) ⟨by omega, htal (by omega), fun j h1 h2 => htaz j (by omega) h2⟩ ⟨by omega, htbl (by omega), fun j h1 h2 => htbz j (by omega) h2⟩ hGt (fun j hj => by have := haw j hj; omega) (fun j hj => by have := haw j hj; omega) hG3.2.1 hG3.2.2
        rw [← hld] at hld0 hld1 hdvx
        have hldn : 0 ≤ ld := by rw [hld]; exact Int.natCast_nonneg _
        refine lv_lstore (lv' := [(5, .long (lI ld)), (0, .ref ((ad 0))), (1, .ref ((ad ka))), (2, .ref ((ad ka))), (3, .int (iI ((ta : Int) - 1))), (4, .int (iI ((tb : Int) - 1)))]) hx hb d_RR_common_80 hl (by decide) rfl (fun ls hl => ?_)
        refine lv_aload_n hx hb d_RR_common_82 rfl (lv_at hl 1 rfl) ?_
        refine x_callv B hA (va_runV (As := []) (rest := []) ⟨hx, hb, hml, hown, hts⟩ (c_RR_clearWide l D cs _ _ _ (ad 0) (ad 1) (ad 2) (ad 5) (ad 7) (ad 8) (ad 9) (ad 10) (ad 11) (ad 12) (ad 13) (ad 14) (Ie 0) (Ie 1) (Ie 2) (Ae 0) (hAd.fc [0, 8] (by simp only [List.nodup_cons, List.mem_cons, List.not_mem_nil, or_false, not_or, List.nodup_nil, and_true, not_false_eq_true]; omega) (by intro q hq; simp only [List.mem_cons, List.not_mem_nil, or_false] at hq; omega)) hCe.x (by rw [hI0]; exact hhd) hCe.wide) (cwV 0 hts (gw_V w_244 w_246 s_0 w_1 w_247) rfl rfl rfl (by decide +kernel) ⟨by rw [hRf]; exact Nat.le_of_ble_eq_true rfl, by rw [hRl]; exact Nat.le_of_ble_eq_true rfl⟩) ⟨K0.blind, B.recv (hAd.1 _ (by omega)) (hCe.x) rfl, B.pre _⟩ rfl rfl hl.1 rfl (lv_room (Nat.le_of_ble_eq_true rfl)) d_RR_common_83 ⟨by rw [hRc]; omega, by rw [hRs]; omega⟩) (fun g83 H locs hw B => ?_)
        obtain rfl := hw
        have B : Wb D vwCl (TY cs) L (mw fe [((ad 8), .inl (cs 1, 12, .inr (.inl (al (cf 12 (fun _ => 0) (Ae 0))))))]) (AL L s.heap.size) s H _ := B
        obtain ⟨f_83, hf_83⟩ : ∃ f_83, f_83 = mw fe [((ad 8), .inl (cs 1, 12, .inr (.inl (al (cf 12 (fun _ => 0) (Ae 0))))))] := ⟨_, rfl⟩
        rw [← hf_83] at B
        obtain ⟨A_83, hA_83⟩ : ∃ A_83, A_83 = upA Ae 0 (cf 12 (fun _ => 0) (Ae 0)) := ⟨_, rfl⟩
        have hC_83 : CSt cs ad Qm f_83 Ie A_83 Re Ze := by rw [hf_83, hA_83]; exact CSt.w_wide hAd hCe _
        have hfr_83 : ∀ k, Awy ad k → f_83 k = f k := fun k hk => Eq.trans (by rw [hf_83]; exact hk.mw1 (by omega)) (hfre k hk)
        refine x_iconst hx hb d_RR_common_86 ?_
        refine lv_istore (lv' := [(7, .int (iI 0)), (5, .long (lI ld)), (0, .ref ((ad 0))), (1, .ref ((ad ka))), (2, .ref ((ad ka))), (3, .int (iI ((ta : Int) - 1))), (4, .int (iI ((tb : Int) - 1)))]) hx hb d_RR_common_87 hl (by decide) rfl (fun ls hl => ?_)
        have LP : ∀ (fuel : Nat) (fw : Nat → va_E) (Iw : Nat → Int) (Aw : Nat → Nat → Int) (Rw : Nat → Nat) (Zw : Nat → Int) (k : Nat), 6 - k < fuel → (CSt cs ad Qm fw Iw Aw Rw Zw) → (∀ k, Awy ad k → fw k = f k) → (k ≤ 6) → (∀ i, Iw i = Ie i) → (∀ q, q ≠ 0 → Aw q = Ae q) → (∀ j, j < 6 → Zw (Rw (6 * (n - 1) + j)) = G j) → (∀ j, j < k → Aw 0 j * G dt = ld * G j ∧ ((Aw 0 j).natAbs : Int) ≤ 262144 * (49 * 262144)) → ∀ (H : Heap) (locs : List Loc) (ls : Array Slot), Wb D vwCl (TY cs) L fw (AL L s.heap.size) s H locs → lv_has ls 8 [(7, .int (iI ((k : Int)))), (5, .long (lI ld)), (0, .ref ((ad 0))), (1, .ref ((ad ka))), (2, .ref ((ad ka))), (3, .int (iI ((ta : Int) - 1))), (4, .int (iI ((tb : Int) - 1)))] → W p l e R s m av below meth c H locs (0) (0) Q (F0 m 89 ls []) := by
          intro fuel
          induction fuel with
          | zero => intro fw Iw Aw Rw Zw k hfu; exact absurd hfu (Nat.not_lt_zero _)
          | succ fuel ih_LP =>
            intro fw Iw Aw Rw Zw k hfu_LP hCw hfrw hk hIw hAw hGw hWw H locs ls B hl
            have hIw3 : Iw 3 = (n : Int) := by rw [hIw]; exact hIe3
            have hAw7 : Aw 7 (n - 1) = (dt : Int) := by rw [hAw 7 (by decide)]; exact hdt
            refine lv_iload hx hb d_RR_common_89 (lv_at hl 0 rfl) ?_
            refine x_bipush hx hb d_RR_common_91 (by decide) ?_
            refine x_icmp_ge (tgt := 120) hx hb d_RR_common_93 (by decide) (by omega) (by omega) (fun h93 => ?_) (fun h93 => ?_)
            · exact J120 fw Iw Aw Rw Zw hCw hfrw (fun i hi => by rw [hIw]; exact hIe i hi) (fun q h1 h2 => by rw [hAw q h1]; exact hAe q h2) (fun j hj => by have := (hWw j (by omega)).2; omega) (fun z hz => gcd_fin hGt.1 (by omega) hG3 hGt.2.1 (fun j hj => (hWw j (by omega)).1) hz) _ _ _ B (lv_sub hl [2] rfl)
            · rcases Nat.lt_or_ge dt k with hkd | hkd
              · refine lv_aload_n hx hb d_RR_common_96 rfl (lv_at hl 2 rfl) ?_
                refine x_get (C := RX6) (T := TX6) (N := 14) hx hb hts inX6 hown (B.foc1 (hCw.x)) (hAd.f1 (by omega)) 0 rfl rfl 5 (by decide) (hts _ w_202) (fun _ h9 => h9) rfl d_RR_common_97 ?_
                refine lv_iload hx hb d_RR_common_100 (lv_at hl 0 rfl) ?_
                refine lv_aload_n hx hb d_RR_common_102 rfl (lv_at hl 2 rfl) ?_
                refine x_get (C := RX6) (T := TX6) (N := 14) hx hb hts inX6 hown (B.foc1 (hCw.x)) (hAd.f1 (by omega)) 0 rfl rfl 2 (by decide) (hts _ w_199) (fun _ h9 => h9) rfl d_RR_common_103 ?_
                refine lv_lload hx hb d_RR_common_106 (lv_at hl 1 rfl) ?_
                refine lv_iload hx hb d_RR_common_108 (lv_at hl 0 rfl) ?_
                obtain ⟨Gl, hG1l, hG2l⟩ := hCw.2.1
                refine x_calll B hA (va_runV (As := [.long (lI ld), .int (iI ((k : Int)))]) (rest := [.int (iI ((k : Int))), .ref ((ad 8))]) ⟨hx, hb, hml, hown, hts⟩ (c_Chain_last_z l D cs _ _ _ (ad 2) (ad 3) (ad 4) (Rw 42) (ad 226) n dt k (Iw 4) (Iw 5) ld (Aw 7) Gl Rw (Ckk ad) (Bg ad) Qm Zw (hAd.fc [2, 3, 4] (by simp only [List.nodup_cons, List.mem_cons, List.not_mem_nil, or_false, not_or, List.nodup_nil, and_true, not_false_eq_true]; omega) (by intro q hq; simp only [List.mem_cons, List.not_mem_nil, or_false] at hq; omega)) (by rw [← hIw3]; exact hCw.ch) hG2l hCw.tq hn (hAw7) (by omega) (by omega)) (cwV 2 hts (gw_V w_317 w_318 w_319 w_2 w_320) rfl rfl rfl (by decide +kernel) ⟨by rw [hRf]; exact Nat.le_of_ble_eq_true rfl, by rw [hRl]; exact Nat.le_of_ble_eq_true rfl⟩) ⟨K0.blind, B.recv (hAd.1 _ (by omega)) (hCw.ch) rfl, B.pre _⟩ rfl rfl hl.1 rfl (lv_room (Nat.le_of_ble_eq_true rfl)) d_RR_common_110 ⟨by rw [hRc]; omega, by rw [hRs]; omega⟩) (fun r110 g110 H locs hw B => ?_)
                obtain ⟨rfl, hgf⟩ := hw
                rw [hgf] at B
                refine x_last hx hb (B.foc1 (hCw.wide)) (hAd.f1 (by omega)) 0 1 rfl rfl k (by omega) (by omega) (by decide) d_RR_common_113 (fun H locs B => ?_)
                have B : Wb D vwCl (TY cs) L (mw fw [((ad 8), .inl (cs 1, 12, .inr (.inl (al (up (Aw 0) k (0))))))]) (AL L s.heap.size) s H _ := B
                obtain ⟨f_113, hf_113⟩ : ∃ f_113, f_113 = mw fw [((ad 8), .inl (cs 1, 12, .inr (.inl (al (up (Aw 0) k (0))))))] := ⟨_, rfl⟩
                rw [← hf_113] at B
                obtain ⟨A_113, hA_113⟩ : ∃ A_113, A_113 = upA Aw 0 (up (Aw 0) k (0)) := ⟨_, rfl⟩
                have hC_113 : CSt cs ad Qm f_113 Iw A_113 Rw Zw := by rw [hf_113, hA_113]; exact CSt.w_wide hAd hCw _
                have hfr_113 : ∀ k, Awy ad k → f_113 k = f k := fun k hk => Eq.trans (by rw [hf_113]; exact hk.mw1 (by omega)) (hfrw k hk)
                refine x_iinc (lv' := [(7, .int (iI (((k : Int)) + 1))), (5, .long (lI ld)), (0, .ref ((ad 0))), (1, .ref ((ad ka))), (2, .ref ((ad ka))), (3, .int (iI ((ta : Int) - 1))), (4, .int (iI ((tb : Int) - 1)))]) hx hb d_RR_common_114 hl (q := 0) rfl rfl (by decide) rfl (fun ls hl => ?_)
                refine lv_goto (tgt := 89) hx hb d_RR_common_117 (by decide) ?_
                exact ih_LP f_113 Iw A_113 Rw Zw (k + 1) (by omega) hC_113 hfr_113 (by omega) hIw (fun q hq => by rw [hA_113, upA_ne _ _ hq]; exact hAw q hq) hGw (fun j hj => by
          rw [hA_113, upA_self]
          by_cases hjk : j = k
          · rw [hjk, up_self]; exact ⟨by rw [hGt.2.2 k (by omega) (by omega), Int.mul_zero, Int.zero_mul], by decide⟩
          · rw [up_ne _ _ hjk]; exact hWw j (by omega)) _ _ _ B (lv_sub hl [0, 1, 2, 3, 4, 5, 6] rfl)
              · refine lv_aload_n hx hb d_RR_common_96 rfl (lv_at hl 2 rfl) ?_
                refine x_get (C := RX6) (T := TX6) (N := 14) hx hb hts inX6 hown (B.foc1 (hCw.x)) (hAd.f1 (by omega)) 0 rfl rfl 5 (by decide) (hts _ w_202) (fun _ h9 => h9) rfl d_RR_common_97 ?_
                refine lv_iload hx hb d_RR_common_100 (lv_at hl 0 rfl) ?_
                refine lv_aload_n hx hb d_RR_common_102 rfl (lv_at hl 2 rfl) ?_
                refine x_get (C := RX6) (T := TX6) (N := 14) hx hb hts inX6 hown (B.foc1 (hCw.x)) (hAd.f1 (by omega)) 0 rfl rfl 2 (by decide) (hts _ w_199) (fun _ h9 => h9) rfl d_RR_common_103 ?_
                refine lv_lload hx hb d_RR_common_106 (lv_at hl 1 rfl) ?_
                refine lv_iload hx hb d_RR_common_108 (lv_at hl 0 rfl) ?_
                obtain ⟨Gl, hG1l, hG2l⟩ := hCw.2.1
                obtain ⟨qq, hq1, hq2⟩ := hdvx k (by omega)
                refine x_calll B hA (va_runV (As := [.long (lI ld), .int (iI ((k : Int)))]) (rest := [.int (iI ((k : Int))), .ref ((ad 8))]) ⟨hx, hb, hml, hown, hts⟩ (c_Chain_last l D cs _ _ _ (ad 2) (ad 3) (ad 4) (Rw 42) (ad 226) n dt k (Iw 4) (Iw 5) ld (Aw 7) Gl Rw (Ckk ad) (Bg ad) Qm Zw (hAd.fc [2, 3, 4] (by simp only [List.nodup_cons, List.mem_cons, List.not_mem_nil, or_false, not_or, List.nodup_nil, and_true, not_false_eq_true]; omega) (by intro q hq; simp only [List.mem_cons, List.not_mem_nil, or_false] at hq; omega)) (by rw [← hIw3]; exact hCw.ch) hG2l hCw.tq hn (hAw7) (by omega) (by omega) hG1l hCw.2.2.2.1 (fun b hb => Ckk.bg hb) hAd.sp hCw.2.2.1 (hAd.outs [2, 3, 4] (by intro q hq; simp only [List.mem_cons, List.not_mem_nil, or_false] at hq; omega)) (by omega) (by rw [hGw _ (by omega)]; exact hGt.2.1) (by rw [hGw _ (by omega)]; exact lead_room (by omega) (hGb _ (by omega))) (by rw [hGw _ (by omega), hGw _ (by omega)]; exact ⟨qq, hq1⟩)) (cwV 2 hts (gw_V w_317 w_318 w_319 w_2 w_320) rfl rfl rfl (by decide +kernel) ⟨by rw [hRf]; exact Nat.le_of_ble_eq_true rfl, by rw [hRl]; exact Nat.le_of_ble_eq_true rfl⟩) ⟨K0.blind, B.recv (hAd.1 _ (by omega)) (hCw.ch) rfl, B.pre _⟩ rfl rfl hl.1 rfl (lv_room (Nat.le_of_ble_eq_true rfl)) d_RR_common_110 ⟨by rw [hRc]; omega, by rw [hRs]; omega⟩) (fun r110 g110 H locs hw B => ?_)
                obtain ⟨Zl, rfl, hZl, hBl, hql, hchl, httl, htql⟩ := hw
                have hCl : CSt cs ad Qm g110 Iw Aw Rw Zl := hCw.bigs hBl (fun k hk => by
                    by_cases h2 : k = 2
                    · rw [h2, hchl, hCw.ch, hIw3]
                    by_cases h3 : k = 3
                    · rw [h3, httl, hG2l]
                    by_cases h4 : k = 4
                    · rw [h4, htql, hCw.tq]
                    exact hql (ad k) (hAd.out hk) (fun hm => by simp only [List.mem_cons, List.not_mem_nil, or_false] at hm; rcases hm with h | h | h; exact h2 (hAd.2.1 _ _ (by omega) (by omega) h); exact h3 (hAd.2.1 _ _ (by omega) (by omega) h); exact h4 (hAd.2.1 _ _ (by omega) (by omega) h)))
                have hfrl : ∀ k, Awy ad k → g110 k = f k := fun k hk => (hql k (hk.out hAd) (hk.nin [2, 3, 4] (by intro q hq; simp only [List.mem_cons, List.not_mem_nil, or_false] at hq; omega))).trans (hfrw k hk)
                have hRCI := hCw.2.2.2.1
                have hGl : ∀ j, j < 6 → Zl (Rw (6 * (n - 1) + j)) = G j := fun j hj => by rw [hZl _ (hRCI.1 _ (by omega)).2.1 (hRCI.1 _ (by omega)).2.2]; exact hGw j hj
                rw [over_eq (za := ld * Zw (Rw (6 * (n - 1) + k))) (zb := Zw (Rw (6 * (n - 1) + dt))) (q := qq) (by rw [hGw _ (by omega)]; exact hGt.2.1) (by rw [hGw _ (by omega), hGw _ (by omega)]; exact hq1) (by omega)]
                have B : Wb D vwCl (TY cs) L g110 (AL L s.heap.size) s H _ := B
                refine x_last hx hb (B.foc1 (hCl.wide)) (hAd.f1 (by omega)) 0 1 rfl rfl k (by omega) (by omega) (by decide) d_RR_common_113 (fun H locs B => ?_)
                have B : Wb D vwCl (TY cs) L (mw g110 [((ad 8), .inl (cs 1, 12, .inr (.inl (al (up (Aw 0) k (qq))))))]) (AL L s.heap.size) s H _ := B
                obtain ⟨f_113, hf_113⟩ : ∃ f_113, f_113 = mw g110 [((ad 8), .inl (cs 1, 12, .inr (.inl (al (up (Aw 0) k (qq))))))] := ⟨_, rfl⟩
                rw [← hf_113] at B
                obtain ⟨A_113, hA_113⟩ : ∃ A_113, A_113 = upA Aw 0 (up (Aw 0) k (qq)) := ⟨_, rfl⟩
                have hC_113 : CSt cs ad Qm f_113 Iw A_113 Rw Zl := by rw [hf_113, hA_113]; exact CSt.w_wide hAd hCl _
                have hfr_113 : ∀ k, Awy ad k → f_113 k = f k := fun k hk => Eq.trans (by rw [hf_113]; exact hk.mw1 (by omega)) (hfrl k hk)
                refine x_iinc (lv' := [(7, .int (iI (((k : Int)) + 1))), (5, .long (lI ld)), (0, .ref ((ad 0))), (1, .ref ((ad ka))), (2, .ref ((ad ka))), (3, .int (iI ((ta : Int) - 1))), (4, .int (iI ((tb : Int) - 1)))]) hx hb d_RR_common_114 hl (q := 0) rfl rfl (by decide) rfl (fun ls hl => ?_)
                refine lv_goto (tgt := 89) hx hb d_RR_common_117 (by decide) ?_
                exact ih_LP f_113 Iw A_113 Rw Zl (k + 1) (by omega) hC_113 hfr_113 (by omega) hIw (fun q hq => by rw [hA_113, upA_ne _ _ hq]; exact hAw q hq) hGl (fun j hj => by
          rw [hA_113, upA_self]
          by_cases hjk : j = k
          · rw [hjk, up_self]; exact ⟨by rw [hq1, Int.mul_comm], hq2⟩
          · rw [up_ne _ _ hjk]; exact hWw j (by omega)) _ _ _ B (lv_sub hl [0, 1, 2, 3, 4, 5, 6] rfl)
        exact LP _ f_83 Ie A_83 Re Ze 0 (Nat.lt_succ_self _) hC_83 hfr_83 (by omega) (fun _ => rfl) (fun q hq => by rw [hA_83, upA_ne _ _ hq]) hGe (fun j hj => by omega) _ _ _ B (lv_sub hl [0, 1, 2, 3, 4, 5, 6] rfl)
      refine lv_aload_n hx hb d_RR_common_39 rfl (lv_at hl 2 rfl) ?_
      refine x_get (C := RX6) (T := TX6) (N := 14) hx hb hts inX6 hown (B.foc1 (hC.x)) (hAd.f1 (by omega)) 0 rfl rfl 2 (by decide) (hts _ w_199) (fun _ h9 => h9) rfl d_RR_common_40 ?_
      refine lv_iload_n hx hb d_RR_common_43 rfl (lv_at hl 1 rfl) ?_
      refine lv_iload hx hb d_RR_common_44 (lv_at hl 0 rfl) ?_
      refine x_icmp_lt (tgt := 53) hx hb d_RR_common_46 (by decide) (by omega) (by omega) (fun h46 => ?_) (fun h46 => ?_)
      · refine lv_aload_n hx hb d_RR_common_53 rfl (lv_at hl 4 rfl) ?_
        refine lv_iload_n hx hb d_RR_common_54 rfl (lv_at hl 1 rfl) ?_
        refine lv_iload hx hb d_RR_common_55 (lv_at hl 0 rfl) ?_
        refine x_icmp_lt (tgt := 64) hx hb d_RR_common_57 (by decide) (by omega) (by omega) (fun h57 => ?_) (fun h57 => ?_)
        · refine lv_aload_n hx hb d_RR_common_64 rfl (lv_at hl 3 rfl) ?_
          obtain ⟨Gy, hG1y, hG2y⟩ := hC.2.1
          refine x_callv B hA (va_runV (As := [.ref ((ad ka)), .ref ((ad ka))]) (rest := []) ⟨hx, hb, hml, hown, hts⟩ (c_Chain_begin_s l D cs _ _ _ (ad 2) (ad 3) (ad 4) (Rf 42) (ad 226) (ad ka) (If 3) (If 4) (If 5) (Af 7) (Af qa) Gy Rf (Ckk ad) (Bg ad) Qm Zf (hAd.fc [2, 3, 4, ka] (by have := (hka).lt; have := (hka).lt; simp only [List.nodup_cons, List.mem_cons, List.not_mem_nil, or_false, not_or, List.nodup_nil, and_true, not_false_eq_true]; omega) (by have := (hka).lt; have := (hka).lt; intro q hq; simp only [List.mem_cons, List.not_mem_nil, or_false] at hq; omega)) hC.ch hG2y hC.tq (hC.ar hka) hG1y hC.2.2.2.1 (fun b hb => Ckk.bg hb) hAd.sp hC.2.2.1 (hAd.outs [2, 3, 4, ka] (by have := (hka).lt; have := (hka).lt; intro q hq; simp only [List.mem_cons, List.not_mem_nil, or_false] at hq; omega)) haw (fun k1 k2 h1 h2 h3 h4 => by
      have q1 : tb ≤ k1 := Classical.byContradiction (fun hn => htbl (by omega) (h3 (tb - 1) (by omega) (by omega)))
      have q2 : k2 ≤ ta := by
        rcases Nat.eq_zero_or_pos k2 with h | h
        · omega
        · exact Classical.byContradiction (fun hn => h4 h (htaz (k2 - 1) (by omega) (by omega)))
      omega) ⟨tb - 1, by omega, htbl (by omega)⟩) (cwV 2 hts (gw_V w_288 w_289 w_290 w_2 w_291) rfl rfl rfl (by decide +kernel) ⟨by rw [hRf]; exact Nat.le_of_ble_eq_true rfl, by rw [hRl]; exact Nat.le_of_ble_eq_true rfl⟩) ⟨K0.blind, B.recv (hAd.1 _ (by omega)) (hC.ch) rfl, B.pre _⟩ rfl rfl hl.1 rfl (lv_room (Nat.le_of_ble_eq_true rfl)) d_RR_common_65 ⟨by rw [hRc]; omega, by rw [hRs]; omega⟩) (fun g65 H locs hw B => ?_)
          obtain ⟨ny, kay, kby, tmy, ggy, cly, Zy, ty, hn1y, hn2y, hkay, hkby, hCIy, hGGy, hZZy, hSqy, hTpy, hBty, hBBy, hqy, hchy, htty, htqy, hvay⟩ := hw
          obtain ⟨Iy, hIy⟩ : ∃ Iy, Iy = up If 3 (ny : Int) := ⟨_, rfl⟩
          obtain ⟨Ay, hAy⟩ : ∃ Ay, Ay = upA Af 7 ty := ⟨_, rfl⟩
          obtain ⟨Ry, hRy⟩ : ∃ Ry, Ry = upC Rf tmy cly := ⟨_, rfl⟩
          have hCy : CSt cs ad Qm g65 Iy Ay Ry Zy := by rw [hIy, hAy, hRy]; exact CSt.begin hAd hC [ka] hCIy hGGy hBBy hqy (fun k hk => by simp only [List.mem_cons, List.not_mem_nil, or_false] at hk; rw [hk]; exact ⟨by have := (hka).lt; have := (hka).lt; omega, hvay.trans (hC.ar hka).symm⟩) hchy htty htqy
          have hfry : ∀ k, Awy ad k → g65 k = f k := fun k hk => (hqy k (hk.out hAd) (hk.nin [2, 3, 4, ka] (by have := (hka).lt; have := (hka).lt; intro q hq; simp only [List.mem_cons, List.not_mem_nil, or_false] at hq; omega))).trans (hfr k hk)
          have hkb6y := hkby.1
          have hRwy : ∀ k, k < ny → ∀ j, j < 6 → ChRow Ry Zy k j = Zy (tmy (6 * k + j)) := fun k hk j hj => by rw [hRy]; show Zy (upC Rf tmy cly (6 * k + j)) = _; unfold upC; rw [if_pos (by omega)]
          have hSqy := hSqy.congr hRwy
          have hTpy := hTpy.congr (t' := Ay 7) hRwy (fun k _ => by rw [hAy, upA_self])
          have hBty := hBty.congr hRwy
          have hI3y : Iy 3 = (ny : Int) := by rw [hIy, up_self]
          have B : Wb D vwCl (TY cs) L g65 (AL L s.heap.size) s H _ := B
          obtain ⟨dt, hdt1, hdt2, hdt3, hdt4⟩ := hTpy (ny - 1) (by omega)
          obtain ⟨db, a0b, hb1, hb2, hb3, hb4⟩ := hBty (ny - 1) (by omega)
          have hgc := hSqy.gcd ⟨ta - 1, by omega, htal (by omega)⟩
          exact J68 g65 Iy Ay Ry Zy ny dt (ChRow Ry Zy (ny - 1)) hCy hfry (⟨hn1y, by omega⟩) hI3y (fun i hi => by rw [hIy, up_ne _ _ hi]) (fun q hq => by rw [hAy, upA_ne _ _ hq]) hdt2 (fun j hj => rfl) (⟨hgc.1.symm, hgc.2.2, hgc.2.1⟩) (⟨hdt1, hdt3, hdt4⟩) (hb3.up (by omega)) _ _ _ B (lv_sub hl [2, 3, 4, 1, 0] rfl)
        · exfalso; omega
      · refine lv_aload_n hx hb d_RR_common_49 rfl (lv_at hl 3 rfl) ?_
        refine lv_goto (tgt := 54) hx hb d_RR_common_50 (by decide) ?_
        refine lv_iload_n hx hb d_RR_common_54 rfl (lv_at hl 1 rfl) ?_
        refine lv_iload hx hb d_RR_common_55 (lv_at hl 0 rfl) ?_
        refine x_icmp_lt (tgt := 64) hx hb d_RR_common_57 (by decide) (by omega) (by omega) (fun h57 => ?_) (fun h57 => ?_)
        · exfalso; omega
        · refine lv_aload_n hx hb d_RR_common_60 rfl (lv_at hl 4 rfl) ?_
          refine lv_goto (tgt := 65) hx hb d_RR_common_61 (by decide) ?_
          obtain ⟨Gy, hG1y, hG2y⟩ := hC.2.1
          refine x_callv B hA (va_runV (As := [.ref ((ad ka)), .ref ((ad ka))]) (rest := []) ⟨hx, hb, hml, hown, hts⟩ (c_Chain_begin_s l D cs _ _ _ (ad 2) (ad 3) (ad 4) (Rf 42) (ad 226) (ad ka) (If 3) (If 4) (If 5) (Af 7) (Af qa) Gy Rf (Ckk ad) (Bg ad) Qm Zf (hAd.fc [2, 3, 4, ka] (by have := (hka).lt; have := (hka).lt; simp only [List.nodup_cons, List.mem_cons, List.not_mem_nil, or_false, not_or, List.nodup_nil, and_true, not_false_eq_true]; omega) (by have := (hka).lt; have := (hka).lt; intro q hq; simp only [List.mem_cons, List.not_mem_nil, or_false] at hq; omega)) hC.ch hG2y hC.tq (hC.ar hka) hG1y hC.2.2.2.1 (fun b hb => Ckk.bg hb) hAd.sp hC.2.2.1 (hAd.outs [2, 3, 4, ka] (by have := (hka).lt; have := (hka).lt; intro q hq; simp only [List.mem_cons, List.not_mem_nil, or_false] at hq; omega)) haw (fun k1 k2 h1 h2 h3 h4 => by
      have q1 : ta ≤ k1 := Classical.byContradiction (fun hn => htal (by omega) (h3 (ta - 1) (by omega) (by omega)))
      have q2 : k2 ≤ tb := by
        rcases Nat.eq_zero_or_pos k2 with h | h
        · omega
        · exact Classical.byContradiction (fun hn => h4 h (htbz (k2 - 1) (by omega) (by omega)))
      omega) ⟨ta - 1, by omega, htal (by omega)⟩) (cwV 2 hts (gw_V w_288 w_289 w_290 w_2 w_291) rfl rfl rfl (by decide +kernel) ⟨by rw [hRf]; exact Nat.le_of_ble_eq_true rfl, by rw [hRl]; exact Nat.le_of_ble_eq_true rfl⟩) ⟨K0.blind, B.recv (hAd.1 _ (by omega)) (hC.ch) rfl, B.pre _⟩ rfl rfl hl.1 rfl (lv_room (Nat.le_of_ble_eq_true rfl)) d_RR_common_65 ⟨by rw [hRc]; omega, by rw [hRs]; omega⟩) (fun g65 H locs hw B => ?_)
          obtain ⟨ny, kay, kby, tmy, ggy, cly, Zy, ty, hn1y, hn2y, hkay, hkby, hCIy, hGGy, hZZy, hSqy, hTpy, hBty, hBBy, hqy, hchy, htty, htqy, hvay⟩ := hw
          obtain ⟨Iy, hIy⟩ : ∃ Iy, Iy = up If 3 (ny : Int) := ⟨_, rfl⟩
          obtain ⟨Ay, hAy⟩ : ∃ Ay, Ay = upA Af 7 ty := ⟨_, rfl⟩
          obtain ⟨Ry, hRy⟩ : ∃ Ry, Ry = upC Rf tmy cly := ⟨_, rfl⟩
          have hCy : CSt cs ad Qm g65 Iy Ay Ry Zy := by rw [hIy, hAy, hRy]; exact CSt.begin hAd hC [ka] hCIy hGGy hBBy hqy (fun k hk => by simp only [List.mem_cons, List.not_mem_nil, or_false] at hk; rw [hk]; exact ⟨by have := (hka).lt; have := (hka).lt; omega, hvay.trans (hC.ar hka).symm⟩) hchy htty htqy
          have hfry : ∀ k, Awy ad k → g65 k = f k := fun k hk => (hqy k (hk.out hAd) (hk.nin [2, 3, 4, ka] (by have := (hka).lt; have := (hka).lt; intro q hq; simp only [List.mem_cons, List.not_mem_nil, or_false] at hq; omega))).trans (hfr k hk)
          have hkb6y := hkby.1
          have hRwy : ∀ k, k < ny → ∀ j, j < 6 → ChRow Ry Zy k j = Zy (tmy (6 * k + j)) := fun k hk j hj => by rw [hRy]; show Zy (upC Rf tmy cly (6 * k + j)) = _; unfold upC; rw [if_pos (by omega)]
          have hSqy := hSqy.congr hRwy
          have hTpy := hTpy.congr (t' := Ay 7) hRwy (fun k _ => by rw [hAy, upA_self])
          have hBty := hBty.congr hRwy
          have hI3y : Iy 3 = (ny : Int) := by rw [hIy, up_self]
          have B : Wb D vwCl (TY cs) L g65 (AL L s.heap.size) s H _ := B
          obtain ⟨dt, hdt1, hdt2, hdt3, hdt4⟩ := hTpy (ny - 1) (by omega)
          obtain ⟨db, a0b, hb1, hb2, hb3, hb4⟩ := hBty (ny - 1) (by omega)
          have hgc := hSqy.gcd ⟨tb - 1, by omega, htbl (by omega)⟩
          exact J68 g65 Iy Ay Ry Zy ny dt (ChRow Ry Zy (ny - 1)) hCy hfry (⟨hn1y, by omega⟩) hI3y (fun i hi => by rw [hIy, up_ne _ _ hi]) (fun q hq => by rw [hAy, upA_ne _ _ hq]) hdt2 (fun j hj => rfl) hgc (⟨hdt1, hdt3, hdt4⟩) (hb3.up (by omega)) _ _ _ B (lv_sub hl [2, 3, 4, 1, 0] rfl)
    · refine lv_aload_n hx hb d_RR_common_22 rfl (lv_at hl 2 rfl) ?_
      refine lv_iload_n hx hb d_RR_common_23 rfl (lv_at hl 1 rfl) ?_
      refine x_iconst hx hb d_RR_common_24 ?_
      refine x_icmp_ne (tgt := 32) hx hb d_RR_common_25 (by decide) (by omega) (by omega) (fun h25 => ?_) (fun h25 => ?_)
      · refine lv_aload_n hx hb d_RR_common_32 rfl (lv_at hl 3 rfl) ?_
        refine x_callv B hA (va_runV (As := [.ref ((ad ka))]) (rest := []) ⟨hx, hb, hml, hown, hts⟩ (c_RR_widen l D cs _ _ _ (ad 0) (ad 1) (ad 2) (ad 5) (ad 7) (ad 8) (ad 9) (ad 10) (ad 11) (ad 12) (ad 13) (ad 14) (If 0) (If 1) (If 2) (ad ka) (Af 0) (Af qa) (hAd.fc [0, 8, ka] (by have := (hka).lt; simp only [List.nodup_cons, List.mem_cons, List.not_mem_nil, or_false, not_or, List.nodup_nil, and_true, not_false_eq_true]; omega) (by have := (hka).lt; intro q hq; simp only [List.mem_cons, List.not_mem_nil, or_false] at hq; omega)) hC.x (hhd) hC.wide (hC.ar hka) (fun j hj => by have := haw j hj; omega)) (cwV 1 hts (gw_V w_284 w_286 s_6 w_1 w_287) rfl rfl rfl (by decide +kernel) ⟨by rw [hRf]; exact Nat.le_of_ble_eq_true rfl, by rw [hRl]; exact Nat.le_of_ble_eq_true rfl⟩) ⟨K0.blind, B.recv (hAd.1 _ (by omega)) (hC.x) rfl, B.pre _⟩ rfl rfl hl.1 rfl (lv_room (Nat.le_of_ble_eq_true rfl)) d_RR_common_33 ⟨by rw [hRc]; omega, by rw [hRs]; omega⟩) (fun g33 H locs hw B => ?_)
        obtain ⟨zw, hzw, rfl⟩ := hw
        have B : Wb D vwCl (TY cs) L (mw f [((ad 8), .inl (cs 1, 12, .inr (.inl (al zw))))]) (AL L s.heap.size) s H _ := B
        obtain ⟨f_33, hf_33⟩ : ∃ f_33, f_33 = mw f [((ad 8), .inl (cs 1, 12, .inr (.inl (al zw))))] := ⟨_, rfl⟩
        rw [← hf_33] at B
        obtain ⟨A_33, hA_33⟩ : ∃ A_33, A_33 = upA Af 0 zw := ⟨_, rfl⟩
        have hC_33 : CSt cs ad Qm f_33 If A_33 Rf Zf := by rw [hf_33, hA_33]; exact CSt.w_wide hAd hC _
        have hfr_33 : ∀ k, Awy ad k → f_33 k = f k := fun k hk => Eq.trans (by rw [hf_33]; exact hk.mw1 (by omega)) (hfr k hk)
        refine lv_goto (tgt := 120) hx hb d_RR_common_36 (by decide) ?_
        exact J120 f_33 If A_33 Rf Zf hC_33 hfr_33 (fun i _ => rfl) (fun q h1 _ => by rw [hA_33, upA_ne _ _ h1]) (fun j hj => by rw [hA_33, upA_self, hzw j (by omega), if_pos hj]; have := haw j hj; omega) (fun z hz => (gcd_zero (fun j hj => htbz j (by omega) hj) (hz.congr1 (fun j hj => by rw [hA_33, upA_self, hzw j (by omega), if_pos hj]))).symm) _ _ _ B (lv_sub hl [2] rfl)
      · refine lv_aload_n hx hb d_RR_common_28 rfl (lv_at hl 4 rfl) ?_
        refine lv_goto (tgt := 33) hx hb d_RR_common_29 (by decide) ?_
        refine x_callv B hA (va_runV (As := [.ref ((ad ka))]) (rest := []) ⟨hx, hb, hml, hown, hts⟩ (c_RR_widen l D cs _ _ _ (ad 0) (ad 1) (ad 2) (ad 5) (ad 7) (ad 8) (ad 9) (ad 10) (ad 11) (ad 12) (ad 13) (ad 14) (If 0) (If 1) (If 2) (ad ka) (Af 0) (Af qa) (hAd.fc [0, 8, ka] (by have := (hka).lt; simp only [List.nodup_cons, List.mem_cons, List.not_mem_nil, or_false, not_or, List.nodup_nil, and_true, not_false_eq_true]; omega) (by have := (hka).lt; intro q hq; simp only [List.mem_cons, List.not_mem_nil, or_false] at hq; omega)) hC.x (hhd) hC.wide (hC.ar hka) (fun j hj => by have := haw j hj; omega)) (cwV 1 hts (gw_V w_284 w_286 s_6 w_1 w_287) rfl rfl rfl (by decide +kernel) ⟨by rw [hRf]; exact Nat.le_of_ble_eq_true rfl, by rw [hRl]; exact Nat.le_of_ble_eq_true rfl⟩) ⟨K0.blind, B.recv (hAd.1 _ (by omega)) (hC.x) rfl, B.pre _⟩ rfl rfl hl.1 rfl (lv_room (Nat.le_of_ble_eq_true rfl)) d_RR_common_33 ⟨by rw [hRc]; omega, by rw [hRs]; omega⟩) (fun g33 H locs hw B => ?_)
        obtain ⟨zw, hzw, rfl⟩ := hw
        have B : Wb D vwCl (TY cs) L (mw f [((ad 8), .inl (cs 1, 12, .inr (.inl (al zw))))]) (AL L s.heap.size) s H _ := B
        obtain ⟨f_33, hf_33⟩ : ∃ f_33, f_33 = mw f [((ad 8), .inl (cs 1, 12, .inr (.inl (al zw))))] := ⟨_, rfl⟩
        rw [← hf_33] at B
        obtain ⟨A_33, hA_33⟩ : ∃ A_33, A_33 = upA Af 0 zw := ⟨_, rfl⟩
        have hC_33 : CSt cs ad Qm f_33 If A_33 Rf Zf := by rw [hf_33, hA_33]; exact CSt.w_wide hAd hC _
        have hfr_33 : ∀ k, Awy ad k → f_33 k = f k := fun k hk => Eq.trans (by rw [hf_33]; exact hk.mw1 (by omega)) (hfr k hk)
        refine lv_goto (tgt := 120) hx hb d_RR_common_36 (by decide) ?_
        exact J120 f_33 If A_33 Rf Zf hC_33 hfr_33 (fun i _ => rfl) (fun q h1 _ => by rw [hA_33, upA_ne _ _ h1]) (fun j hj => by rw [hA_33, upA_self, hzw j (by omega), if_pos hj]; have := haw j hj; omega) (fun z hz => gcd_zero (fun j hj => htaz j (by omega) hj) (hz.congr1 (fun j hj => by rw [hA_33, upA_self, hzw j (by omega), if_pos hj]))) _ _ _ B (lv_sub hl [2] rfl)
