theorem d_RR_ofTwo_0 : decode prog_1_method_28_code 0 = .ok (.iload_n 1, 1) := by decide +kernel
theorem d_RR_ofTwo_1 : decode prog_1_method_28_code 1 = .ok (.iconst 4, 1) := by decide +kernel
theorem d_RR_ofTwo_2 : decode prog_1_method_28_code 2 = .ok (.if_icmp .ne 18, 3) := by decide +kernel
theorem d_RR_ofTwo_5 : decode prog_1_method_28_code 5 = .ok (.aload_n 0, 1) := by decide +kernel
theorem d_RR_ofTwo_6 : decode prog_1_method_28_code 6 = .ok (.aload_n 2, 1) := by decide +kernel
theorem d_RR_ofTwo_7 : decode prog_1_method_28_code 7 = .ok (.aload_n 3, 1) := by decide +kernel
theorem d_RR_ofTwo_8 : decode prog_1_method_28_code 8 = .ok (.invokevirtual 114, 3) := by decide +kernel
theorem d_RR_ofTwo_11 : decode prog_1_method_28_code 11 = .ok (.aload_n 0, 1) := by decide +kernel
theorem d_RR_ofTwo_12 : decode prog_1_method_28_code 12 = .ok (.aload_n 0, 1) := by decide +kernel
theorem d_RR_ofTwo_13 : decode prog_1_method_28_code 13 = .ok (.getfield 48, 3) := by decide +kernel
theorem d_RR_ofTwo_16 : decode prog_1_method_28_code 16 = .ok (.invokevirtual 249, 3) := by decide +kernel
theorem d_RR_ofTwo_19 : decode prog_1_method_28_code 19 = .ok (.return_, 1) := by decide +kernel
theorem d_RR_ofTwo_20 : decode prog_1_method_28_code 20 = .ok (.iconst 0, 1) := by decide +kernel
theorem d_RR_ofTwo_21 : decode prog_1_method_28_code 21 = .ok (.istore 4, 2) := by decide +kernel
theorem d_RR_ofTwo_23 : decode prog_1_method_28_code 23 = .ok (.iload 4, 2) := by decide +kernel
theorem d_RR_ofTwo_25 : decode prog_1_method_28_code 25 = .ok (.bipush 6, 2) := by decide +kernel
theorem d_RR_ofTwo_27 : decode prog_1_method_28_code 27 = .ok (.if_icmp .ge 86, 3) := by decide +kernel
theorem d_RR_ofTwo_30 : decode prog_1_method_28_code 30 = .ok (.iload_n 1, 1) := by decide +kernel
theorem d_RR_ofTwo_31 : decode prog_1_method_28_code 31 = .ok (.iconst 2, 1) := by decide +kernel
theorem d_RR_ofTwo_32 : decode prog_1_method_28_code 32 = .ok (.if_icmp .ne 46, 3) := by decide +kernel
theorem d_RR_ofTwo_35 : decode prog_1_method_28_code 35 = .ok (.iconst 0, 1) := by decide +kernel
theorem d_RR_ofTwo_36 : decode prog_1_method_28_code 36 = .ok (.istore 5, 2) := by decide +kernel
theorem d_RR_ofTwo_38 : decode prog_1_method_28_code 38 = .ok (.iload 5, 2) := by decide +kernel
theorem d_RR_ofTwo_40 : decode prog_1_method_28_code 40 = .ok (.bipush 6, 2) := by decide +kernel
theorem d_RR_ofTwo_42 : decode prog_1_method_28_code 42 = .ok (.if_icmp .ge 33, 3) := by decide +kernel
theorem d_RR_ofTwo_45 : decode prog_1_method_28_code 45 = .ok (.aload_n 0, 1) := by decide +kernel
theorem d_RR_ofTwo_46 : decode prog_1_method_28_code 46 = .ok (.getfield 40, 3) := by decide +kernel
theorem d_RR_ofTwo_49 : decode prog_1_method_28_code 49 = .ok (.iload 4, 2) := by decide +kernel
theorem d_RR_ofTwo_51 : decode prog_1_method_28_code 51 = .ok (.iload 5, 2) := by decide +kernel
theorem d_RR_ofTwo_53 : decode prog_1_method_28_code 53 = .ok (.iadd, 1) := by decide +kernel
theorem d_RR_ofTwo_54 : decode prog_1_method_28_code 54 = .ok (.dup2, 1) := by decide +kernel
theorem d_RR_ofTwo_55 : decode prog_1_method_28_code 55 = .ok (.laload, 1) := by decide +kernel
theorem d_RR_ofTwo_56 : decode prog_1_method_28_code 56 = .ok (.aload_n 2, 1) := by decide +kernel
theorem d_RR_ofTwo_57 : decode prog_1_method_28_code 57 = .ok (.iload 4, 2) := by decide +kernel
theorem d_RR_ofTwo_59 : decode prog_1_method_28_code 59 = .ok (.iaload, 1) := by decide +kernel
theorem d_RR_ofTwo_60 : decode prog_1_method_28_code 60 = .ok (.i2l, 1) := by decide +kernel
theorem d_RR_ofTwo_61 : decode prog_1_method_28_code 61 = .ok (.aload_n 3, 1) := by decide +kernel
theorem d_RR_ofTwo_62 : decode prog_1_method_28_code 62 = .ok (.iload 5, 2) := by decide +kernel
theorem d_RR_ofTwo_64 : decode prog_1_method_28_code 64 = .ok (.iaload, 1) := by decide +kernel
theorem d_RR_ofTwo_65 : decode prog_1_method_28_code 65 = .ok (.i2l, 1) := by decide +kernel
theorem d_RR_ofTwo_66 : decode prog_1_method_28_code 66 = .ok (.lmul, 1) := by decide +kernel
theorem d_RR_ofTwo_67 : decode prog_1_method_28_code 67 = .ok (.ladd, 1) := by decide +kernel
theorem d_RR_ofTwo_68 : decode prog_1_method_28_code 68 = .ok (.lastore, 1) := by decide +kernel
theorem d_RR_ofTwo_69 : decode prog_1_method_28_code 69 = .ok (.iinc 5 1, 3) := by decide +kernel
theorem d_RR_ofTwo_72 : decode prog_1_method_28_code 72 = .ok (.goto (-34), 3) := by decide +kernel
theorem d_RR_ofTwo_75 : decode prog_1_method_28_code 75 = .ok (.goto 32, 3) := by decide +kernel
theorem d_RR_ofTwo_78 : decode prog_1_method_28_code 78 = .ok (.aload_n 0, 1) := by decide +kernel
theorem d_RR_ofTwo_79 : decode prog_1_method_28_code 79 = .ok (.getfield 40, 3) := by decide +kernel
theorem d_RR_ofTwo_82 : decode prog_1_method_28_code 82 = .ok (.iload 4, 2) := by decide +kernel
theorem d_RR_ofTwo_84 : decode prog_1_method_28_code 84 = .ok (.aload_n 2, 1) := by decide +kernel
theorem d_RR_ofTwo_85 : decode prog_1_method_28_code 85 = .ok (.iload 4, 2) := by decide +kernel
theorem d_RR_ofTwo_87 : decode prog_1_method_28_code 87 = .ok (.iaload, 1) := by decide +kernel
theorem d_RR_ofTwo_88 : decode prog_1_method_28_code 88 = .ok (.iload_n 1, 1) := by decide +kernel
theorem d_RR_ofTwo_89 : decode prog_1_method_28_code 89 = .ok (.ifCond .ne 10, 3) := by decide +kernel
theorem d_RR_ofTwo_92 : decode prog_1_method_28_code 92 = .ok (.aload_n 3, 1) := by decide +kernel
theorem d_RR_ofTwo_93 : decode prog_1_method_28_code 93 = .ok (.iload 4, 2) := by decide +kernel
theorem d_RR_ofTwo_95 : decode prog_1_method_28_code 95 = .ok (.iaload, 1) := by decide +kernel
theorem d_RR_ofTwo_96 : decode prog_1_method_28_code 96 = .ok (.goto 8, 3) := by decide +kernel
theorem d_RR_ofTwo_99 : decode prog_1_method_28_code 99 = .ok (.aload_n 3, 1) := by decide +kernel
theorem d_RR_ofTwo_100 : decode prog_1_method_28_code 100 = .ok (.iload 4, 2) := by decide +kernel
theorem d_RR_ofTwo_102 : decode prog_1_method_28_code 102 = .ok (.iaload, 1) := by decide +kernel
theorem d_RR_ofTwo_103 : decode prog_1_method_28_code 103 = .ok (.ineg, 1) := by decide +kernel
theorem d_RR_ofTwo_104 : decode prog_1_method_28_code 104 = .ok (.iadd, 1) := by decide +kernel
theorem d_RR_ofTwo_105 : decode prog_1_method_28_code 105 = .ok (.i2l, 1) := by decide +kernel
theorem d_RR_ofTwo_106 : decode prog_1_method_28_code 106 = .ok (.lastore, 1) := by decide +kernel
theorem d_RR_ofTwo_107 : decode prog_1_method_28_code 107 = .ok (.iinc 4 1, 3) := by decide +kernel
theorem d_RR_ofTwo_110 : decode prog_1_method_28_code 110 = .ok (.goto (-87), 3) := by decide +kernel
theorem d_RR_ofTwo_113 : decode prog_1_method_28_code 113 = .ok (.return_, 1) := by decide +kernel
set_option maxHeartbeats 8000000 in
set_option maxRecDepth 100000 in
theorem c_RR_ofTwo_0 (l : Launch) (D : va_G) (cs : Nat → ClassId) (L : List Nat) (f : Nat → va_E) (sz : Nat) (ad Qm : Nat → Nat) (If : Nat → Int) (Af : Nat → Nat → Int) (Rf : Nat → Nat) (Zf : Nat → Int) (pa pb : Nat) (hAd : AdOk L ad Qm) (hC : CSt cs ad Qm f If Af Rf Zf) (hpa : pa < 12) (hpb : pb < 12) (hVa : ∀ j, j < 6 → -1000 ≤ Af (20 + pa) j ∧ Af (20 + pa) j ≤ 1000) (hVb : ∀ j, j < 6 → -1000 ≤ Af (20 + pb) j ∧ Af (20 + pb) j ≤ 1000) : Met l (⟨"RealRoots", "ofTwo", "(I[I[I)V"⟩ : MethodName) (.code (⟨"RealRoots", "ofTwo", "(I[I[I)V"⟩ : MethodName) prog_1_method_28_code 6 (Option.none : Option Jvm.ClassFile.FieldType) :: gw) ({ frames := 1, cells := 0, slots := 0, locals := 20 }) (va_Pc [.ref ((ad 0)), .int (iI 0), .ref ((ad (27 + pa))), .ref ((ad (27 + pb)))] (K0 D vwCl (TY cs) L f sz)) (va_Qv (fun (g : Nat → va_E) => ∃ (I' : Nat → Int) (A' : Nat → Nat → Int) (R' : Nat → Nat) (Z' : Nat → Int), CSt cs ad Qm g I' A' R' Z' ∧ (∀ k, Awy ad k → g k = f k) ∧ (∀ i, I' i = If i) ∧ (∀ q, q ≠ 0 → A' q = Af q) ∧ (∀ j : Nat, j < 6 → A' 0 j = Af (20 + pa) j + Af (20 + pb) j) ∧ ∀ j : Nat, 6 ≤ j → A' 0 j = Af 0 j) (K1 D vwCl (TY cs) (AL L sz) L) (AL L sz)) 0 0 (AL L sz) := by
  refine Met.ofW (cc := prog_1_method_28_code) (maxL := 6) (ret := (Option.none : Option Jvm.ClassFile.FieldType)) (by decide) rfl ?_
  intro p e s m args below meth c s₁ Bd hml hv
  obtain ⟨rfl, hk0⟩ := hv
  obtain ⟨hsz, B⟩ := hk0.start
  subst hsz
  have hx := Bd.exec
  have hb := Bd.bytes
  have hr := Bd.returns
  have hlocks := Bd.notSynchronized
  have hts0 := atoms_spec Bd.pre
  have hown : s.vm.findClass RX6 = some m.cls := findClass_of_methodNamed Bd.named
  have hA : ∀ q, s.heap.size ≤ q → AL L s.heap.size q := fun _ h => Or.inr h
  have hl := lv_entry ([.ref ((ad 0)), .int (iI 0), .ref ((ad (27 + pa))), .ref ((ad (27 + pb)))]) (n := 6) (Nat.le_of_ble_eq_true rfl)
  rw [lg_entry_eq]
  generalize (lg_sl ([.ref ((ad 0)), .int (iI 0), .ref ((ad (27 + pa))), .ref ((ad (27 + pb)))]) ++ List.replicate (6 - (lg_sl ([.ref ((ad 0)), .int (iI 0), .ref ((ad (27 + pa))), .ref ((ad (27 + pb)))])).length) Slot.unset).toArray = ls at hl ⊢
  refine absQ (fun Q R av hQ hR hav => ?_)
  have hts : ∀ w ∈ gw, w.before av s = true := by rw [hav]; exact fun w h => hts0 w (List.mem_cons_of_mem _ h)
  have hRf : R.frames = 1 := by rw [hR]; rfl
  have hRl : R.locals = 20 := by rw [hR]; rfl
  have hRc : R.cells = 0 := by rw [hR]; rfl
  have hRs : R.slots = 0 := by rw [hR]; rfl
  clear hR hts0 Bd
  have hl : lv_has ls 6 [(0, .ref ((ad 0))), (1, .int (iI 0)), (2, .ref ((ad (27 + pa)))), (3, .ref ((ad (27 + pb))))] := hl
  have hfr : ∀ k, Awy ad k → f k = f k := fun _ _ => rfl
  refine lv_iload_n hx hb d_RR_ofTwo_0 rfl (lv_at hl 1 rfl) ?_
  refine x_iconst hx hb d_RR_ofTwo_1 ?_
  refine x_icmp_ne (tgt := 20) hx hb d_RR_ofTwo_2 (by decide) (by omega) (by omega) (fun h2 => ?_) (fun h2 => ?_)
  · refine x_iconst hx hb d_RR_ofTwo_20 ?_
    refine lv_istore (lv' := [(4, .int (iI 0)), (0, .ref ((ad 0))), (1, .int (iI 0)), (2, .ref ((ad (27 + pa)))), (3, .ref ((ad (27 + pb))))]) hx hb d_RR_ofTwo_21 hl (by decide) rfl (fun ls hl => ?_)
    have LA : ∀ (fuel : Nat) (fw : Nat → va_E) (Iw : Nat → Int) (Aw : Nat → Nat → Int) (Rw : Nat → Nat) (Zw : Nat → Int) (kk : Nat), 6 - kk < fuel → (CSt cs ad Qm fw Iw Aw Rw Zw) → (∀ k, Awy ad k → fw k = f k) → (kk ≤ 6) → (∀ i, Iw i = If i) → (∀ q, q ≠ 0 → Aw q = Af q) → (∀ j : Nat, Aw 0 j = if j < kk then Af (20 + pa) j + Af (20 + pb) j else Af 0 j) → ∀ (H : Heap) (locs : List Loc) (ls : Array Slot), Wb D vwCl (TY cs) L fw (AL L s.heap.size) s H locs → lv_has ls 6 [(4, .int (iI ((kk : Int)))), (0, .ref ((ad 0))), (1, .int (iI 0)), (2, .ref ((ad (27 + pa)))), (3, .ref ((ad (27 + pb))))] → W p l e R s m av below meth c H locs (0) (0) Q (F0 m 23 ls []) := by
      intro fuel
      induction fuel with
      | zero => intro fw Iw Aw Rw Zw kk hfu; exact absurd hfu (Nat.not_lt_zero _)
      | succ fuel ih_LA =>
        intro fw Iw Aw Rw Zw kk hfu_LA hCw hfrw hkk hIw hAw hWw H locs ls B hl
        refine lv_iload hx hb d_RR_ofTwo_23 (lv_at hl 0 rfl) ?_
        refine x_bipush hx hb d_RR_ofTwo_25 (by decide) ?_
        refine x_icmp_ge (tgt := 113) hx hb d_RR_ofTwo_27 (by decide) (by omega) (by omega) (fun h27 => ?_) (fun h27 => ?_)
        · subst hQ hav
          exact x_vret hx hb hr hlocks B d_RR_ofTwo_113 (⟨Iw, Aw, Rw, Zw, hCw, hfrw, hIw, hAw, fun j hj => by rw [hWw j, if_pos (by omega)], fun j hj => by rw [hWw j, if_neg (by omega)]⟩)
        · refine lv_iload_n hx hb d_RR_ofTwo_30 rfl (lv_at hl 2 rfl) ?_
          refine x_iconst hx hb d_RR_ofTwo_31 ?_
          refine x_icmp_ne (tgt := 78) hx hb d_RR_ofTwo_32 (by decide) (by omega) (by omega) (fun h32 => ?_) (fun h32 => ?_)
          · refine lv_aload_n hx hb d_RR_ofTwo_78 rfl (lv_at hl 1 rfl) ?_
            refine x_get (C := RX6) (T := TX6) (N := 14) hx hb hts inX6 hown (B.foc1 (hCw.x)) (hAd.f1 (by omega)) 0 rfl rfl 5 (by decide) (hts _ w_202) (fun _ h9 => h9) rfl d_RR_ofTwo_79 ?_
            refine lv_iload hx hb d_RR_ofTwo_82 (lv_at hl 0 rfl) ?_
            refine lv_aload_n hx hb d_RR_ofTwo_84 rfl (lv_at hl 3 rfl) ?_
            refine lv_iload hx hb d_RR_ofTwo_85 (lv_at hl 0 rfl) ?_
            refine x_iald hx hb (B.foc1 (hCw.va (p := pa) (by omega))) (hAd.f1 (by omega)) 0 0 rfl rfl kk (by omega) (by omega) (by decide) d_RR_ofTwo_87 ?_
            refine lv_iload_n hx hb d_RR_ofTwo_88 rfl (lv_at hl 2 rfl) ?_
            refine x_if_ne (tgt := 99) hx hb d_RR_ofTwo_89 (by decide) (by omega) (fun h89 => ?_) (fun h89 => ?_)
            · exfalso; omega
            · refine lv_aload_n hx hb d_RR_ofTwo_92 rfl (lv_at hl 4 rfl) ?_
              refine lv_iload hx hb d_RR_ofTwo_93 (lv_at hl 0 rfl) ?_
              refine x_iald hx hb (B.foc1 (hCw.va (p := pb) (by omega))) (hAd.f1 (by omega)) 0 0 rfl rfl kk (by omega) (by omega) (by decide) d_RR_ofTwo_95 ?_
              refine lv_goto (tgt := 104) hx hb d_RR_ofTwo_96 (by decide) ?_
              refine x_iadd hx hb d_RR_ofTwo_104 ?_
              have h1 : -1000 ≤ Aw (20 + pa) kk ∧ Aw (20 + pa) kk ≤ 1000 := by rw [hAw _ (by omega)]; exact hVa kk (by omega)
              have h2 : -1000 ≤ Aw (20 + pb) kk ∧ Aw (20 + pb) kk ≤ 1000 := by rw [hAw _ (by omega)]; exact hVb kk (by omega)
              refine x_i2l hx hb d_RR_ofTwo_105 (by omega) ?_
              refine x_last hx hb (B.foc1 (hCw.wide)) (hAd.f1 (by omega)) 0 1 rfl rfl kk (by omega) (by omega) (by decide) d_RR_ofTwo_106 (fun H locs B => ?_)
              have B : Wb D vwCl (TY cs) L (mw fw [((ad 8), .inl (cs 1, 12, .inr (.inl (al (up (Aw 0) kk ((Aw (20 + pa) kk) + (Aw (20 + pb) kk)))))))]) (AL L s.heap.size) s H _ := B
              obtain ⟨f_106, hf_106⟩ : ∃ f_106, f_106 = mw fw [((ad 8), .inl (cs 1, 12, .inr (.inl (al (up (Aw 0) kk ((Aw (20 + pa) kk) + (Aw (20 + pb) kk)))))))] := ⟨_, rfl⟩
              rw [← hf_106] at B
              obtain ⟨A_106, hA_106⟩ : ∃ A_106, A_106 = upA Aw 0 (up (Aw 0) kk ((Aw (20 + pa) kk) + (Aw (20 + pb) kk))) := ⟨_, rfl⟩
              have hC_106 : CSt cs ad Qm f_106 Iw A_106 Rw Zw := by rw [hf_106, hA_106]; exact CSt.w_wide hAd hCw _
              have hfr_106 : ∀ k, Awy ad k → f_106 k = f k := fun k hk => Eq.trans (by rw [hf_106]; exact hk.mw1 (by omega)) (hfrw k hk)
              refine x_iinc (lv' := [(4, .int (iI (((kk : Int)) + 1))), (0, .ref ((ad 0))), (1, .int (iI 0)), (2, .ref ((ad (27 + pa)))), (3, .ref ((ad (27 + pb))))]) hx hb d_RR_ofTwo_107 hl (q := 0) rfl rfl (by decide) rfl (fun ls hl => ?_)
              refine lv_goto (tgt := 23) hx hb d_RR_ofTwo_110 (by decide) ?_
              exact ih_LA f_106 Iw A_106 Rw Zw (kk + 1) (by omega) hC_106 hfr_106 (by omega) hIw (fun q hq => by rw [hA_106, upA_ne _ _ hq]; exact hAw q hq) (fun j => by
          rw [hA_106, upA_self]
          by_cases c : j = kk
          · rw [c, up_self, if_pos (by omega), hAw _ (by omega), hAw _ (by omega)]
          · rw [up_ne _ _ c, hWw j]
            by_cases c2 : j < kk
            · rw [if_pos c2, if_pos (by omega)]
            · rw [if_neg c2, if_neg (by omega)]) _ _ _ B (lv_sub hl [0, 1, 2, 3, 4] rfl)
          · exfalso; omega
    exact LA _ f If Af Rf Zf 0 (Nat.lt_succ_self _) hC hfr (Nat.zero_le _) (fun _ => rfl) (fun _ _ => rfl) (fun j => by rw [if_neg (Nat.not_lt_zero _)]) _ _ _ B (lv_sub hl [0, 1, 2, 3, 4] rfl)
  · exfalso; omega
set_option maxHeartbeats 8000000 in
set_option maxRecDepth 100000 in
theorem c_RR_ofTwo_1 (l : Launch) (D : va_G) (cs : Nat → ClassId) (L : List Nat) (f : Nat → va_E) (sz : Nat) (ad Qm : Nat → Nat) (If : Nat → Int) (Af : Nat → Nat → Int) (Rf : Nat → Nat) (Zf : Nat → Int) (pa pb : Nat) (hAd : AdOk L ad Qm) (hC : CSt cs ad Qm f If Af Rf Zf) (hpa : pa < 12) (hpb : pb < 12) (hVa : ∀ j, j < 6 → -1000 ≤ Af (20 + pa) j ∧ Af (20 + pa) j ≤ 1000) (hVb : ∀ j, j < 6 → -1000 ≤ Af (20 + pb) j ∧ Af (20 + pb) j ≤ 1000) : Met l (⟨"RealRoots", "ofTwo", "(I[I[I)V"⟩ : MethodName) (.code (⟨"RealRoots", "ofTwo", "(I[I[I)V"⟩ : MethodName) prog_1_method_28_code 6 (Option.none : Option Jvm.ClassFile.FieldType) :: gw) ({ frames := 1, cells := 0, slots := 0, locals := 20 }) (va_Pc [.ref ((ad 0)), .int (iI 1), .ref ((ad (27 + pa))), .ref ((ad (27 + pb)))] (K0 D vwCl (TY cs) L f sz)) (va_Qv (fun (g : Nat → va_E) => ∃ (I' : Nat → Int) (A' : Nat → Nat → Int) (R' : Nat → Nat) (Z' : Nat → Int), CSt cs ad Qm g I' A' R' Z' ∧ (∀ k, Awy ad k → g k = f k) ∧ (∀ i, I' i = If i) ∧ (∀ q, q ≠ 0 → A' q = Af q) ∧ (∀ j : Nat, j < 6 → A' 0 j = Af (20 + pa) j + -Af (20 + pb) j) ∧ ∀ j : Nat, 6 ≤ j → A' 0 j = Af 0 j) (K1 D vwCl (TY cs) (AL L sz) L) (AL L sz)) 0 0 (AL L sz) := by
  refine Met.ofW (cc := prog_1_method_28_code) (maxL := 6) (ret := (Option.none : Option Jvm.ClassFile.FieldType)) (by decide) rfl ?_
  intro p e s m args below meth c s₁ Bd hml hv
  obtain ⟨rfl, hk0⟩ := hv
  obtain ⟨hsz, B⟩ := hk0.start
  subst hsz
  have hx := Bd.exec
  have hb := Bd.bytes
  have hr := Bd.returns
  have hlocks := Bd.notSynchronized
  have hts0 := atoms_spec Bd.pre
  have hown : s.vm.findClass RX6 = some m.cls := findClass_of_methodNamed Bd.named
  have hA : ∀ q, s.heap.size ≤ q → AL L s.heap.size q := fun _ h => Or.inr h
  have hl := lv_entry ([.ref ((ad 0)), .int (iI 1), .ref ((ad (27 + pa))), .ref ((ad (27 + pb)))]) (n := 6) (Nat.le_of_ble_eq_true rfl)
  rw [lg_entry_eq]
  generalize (lg_sl ([.ref ((ad 0)), .int (iI 1), .ref ((ad (27 + pa))), .ref ((ad (27 + pb)))]) ++ List.replicate (6 - (lg_sl ([.ref ((ad 0)), .int (iI 1), .ref ((ad (27 + pa))), .ref ((ad (27 + pb)))])).length) Slot.unset).toArray = ls at hl ⊢
  refine absQ (fun Q R av hQ hR hav => ?_)
  have hts : ∀ w ∈ gw, w.before av s = true := by rw [hav]; exact fun w h => hts0 w (List.mem_cons_of_mem _ h)
  have hRf : R.frames = 1 := by rw [hR]; rfl
  have hRl : R.locals = 20 := by rw [hR]; rfl
  have hRc : R.cells = 0 := by rw [hR]; rfl
  have hRs : R.slots = 0 := by rw [hR]; rfl
  clear hR hts0 Bd
  have hl : lv_has ls 6 [(0, .ref ((ad 0))), (1, .int (iI 1)), (2, .ref ((ad (27 + pa)))), (3, .ref ((ad (27 + pb))))] := hl
  have hfr : ∀ k, Awy ad k → f k = f k := fun _ _ => rfl
  refine lv_iload_n hx hb d_RR_ofTwo_0 rfl (lv_at hl 1 rfl) ?_
  refine x_iconst hx hb d_RR_ofTwo_1 ?_
  refine x_icmp_ne (tgt := 20) hx hb d_RR_ofTwo_2 (by decide) (by omega) (by omega) (fun h2 => ?_) (fun h2 => ?_)
  · refine x_iconst hx hb d_RR_ofTwo_20 ?_
    refine lv_istore (lv' := [(4, .int (iI 0)), (0, .ref ((ad 0))), (1, .int (iI 1)), (2, .ref ((ad (27 + pa)))), (3, .ref ((ad (27 + pb))))]) hx hb d_RR_ofTwo_21 hl (by decide) rfl (fun ls hl => ?_)
    have LA : ∀ (fuel : Nat) (fw : Nat → va_E) (Iw : Nat → Int) (Aw : Nat → Nat → Int) (Rw : Nat → Nat) (Zw : Nat → Int) (kk : Nat), 6 - kk < fuel → (CSt cs ad Qm fw Iw Aw Rw Zw) → (∀ k, Awy ad k → fw k = f k) → (kk ≤ 6) → (∀ i, Iw i = If i) → (∀ q, q ≠ 0 → Aw q = Af q) → (∀ j : Nat, Aw 0 j = if j < kk then Af (20 + pa) j + -Af (20 + pb) j else Af 0 j) → ∀ (H : Heap) (locs : List Loc) (ls : Array Slot), Wb D vwCl (TY cs) L fw (AL L s.heap.size) s H locs → lv_has ls 6 [(4, .int (iI ((kk : Int)))), (0, .ref ((ad 0))), (1, .int (iI 1)), (2, .ref ((ad (27 + pa)))), (3, .ref ((ad (27 + pb))))] → W p l e R s m av below meth c H locs (0) (0) Q (F0 m 23 ls []) := by
      intro fuel
      induction fuel with
      | zero => intro fw Iw Aw Rw Zw kk hfu; exact absurd hfu (Nat.not_lt_zero _)
      | succ fuel ih_LA =>
        intro fw Iw Aw Rw Zw kk hfu_LA hCw hfrw hkk hIw hAw hWw H locs ls B hl
        refine lv_iload hx hb d_RR_ofTwo_23 (lv_at hl 0 rfl) ?_
        refine x_bipush hx hb d_RR_ofTwo_25 (by decide) ?_
        refine x_icmp_ge (tgt := 113) hx hb d_RR_ofTwo_27 (by decide) (by omega) (by omega) (fun h27 => ?_) (fun h27 => ?_)
        · subst hQ hav
          exact x_vret hx hb hr hlocks B d_RR_ofTwo_113 (⟨Iw, Aw, Rw, Zw, hCw, hfrw, hIw, hAw, fun j hj => by rw [hWw j, if_pos (by omega)], fun j hj => by rw [hWw j, if_neg (by omega)]⟩)
        · refine lv_iload_n hx hb d_RR_ofTwo_30 rfl (lv_at hl 2 rfl) ?_
          refine x_iconst hx hb d_RR_ofTwo_31 ?_
          refine x_icmp_ne (tgt := 78) hx hb d_RR_ofTwo_32 (by decide) (by omega) (by omega) (fun h32 => ?_) (fun h32 => ?_)
          · refine lv_aload_n hx hb d_RR_ofTwo_78 rfl (lv_at hl 1 rfl) ?_
            refine x_get (C := RX6) (T := TX6) (N := 14) hx hb hts inX6 hown (B.foc1 (hCw.x)) (hAd.f1 (by omega)) 0 rfl rfl 5 (by decide) (hts _ w_202) (fun _ h9 => h9) rfl d_RR_ofTwo_79 ?_
            refine lv_iload hx hb d_RR_ofTwo_82 (lv_at hl 0 rfl) ?_
            refine lv_aload_n hx hb d_RR_ofTwo_84 rfl (lv_at hl 3 rfl) ?_
            refine lv_iload hx hb d_RR_ofTwo_85 (lv_at hl 0 rfl) ?_
            refine x_iald hx hb (B.foc1 (hCw.va (p := pa) (by omega))) (hAd.f1 (by omega)) 0 0 rfl rfl kk (by omega) (by omega) (by decide) d_RR_ofTwo_87 ?_
            refine lv_iload_n hx hb d_RR_ofTwo_88 rfl (lv_at hl 2 rfl) ?_
            refine x_if_ne (tgt := 99) hx hb d_RR_ofTwo_89 (by decide) (by omega) (fun h89 => ?_) (fun h89 => ?_)
            · refine lv_aload_n hx hb d_RR_ofTwo_99 rfl (lv_at hl 4 rfl) ?_
              refine lv_iload hx hb d_RR_ofTwo_100 (lv_at hl 0 rfl) ?_
              refine x_iald hx hb (B.foc1 (hCw.va (p := pb) (by omega))) (hAd.f1 (by omega)) 0 0 rfl rfl kk (by omega) (by omega) (by decide) d_RR_ofTwo_102 ?_
              refine x_ineg hx hb d_RR_ofTwo_103 ?_
              refine x_iadd hx hb d_RR_ofTwo_104 ?_
              have h1 : -1000 ≤ Aw (20 + pa) kk ∧ Aw (20 + pa) kk ≤ 1000 := by rw [hAw _ (by omega)]; exact hVa kk (by omega)
              have h2 : -1000 ≤ Aw (20 + pb) kk ∧ Aw (20 + pb) kk ≤ 1000 := by rw [hAw _ (by omega)]; exact hVb kk (by omega)
              refine x_i2l hx hb d_RR_ofTwo_105 (by omega) ?_
              refine x_last hx hb (B.foc1 (hCw.wide)) (hAd.f1 (by omega)) 0 1 rfl rfl kk (by omega) (by omega) (by decide) d_RR_ofTwo_106 (fun H locs B => ?_)
              have B : Wb D vwCl (TY cs) L (mw fw [((ad 8), .inl (cs 1, 12, .inr (.inl (al (up (Aw 0) kk ((Aw (20 + pa) kk) + (-(Aw (20 + pb) kk))))))))]) (AL L s.heap.size) s H _ := B
              obtain ⟨f_106, hf_106⟩ : ∃ f_106, f_106 = mw fw [((ad 8), .inl (cs 1, 12, .inr (.inl (al (up (Aw 0) kk ((Aw (20 + pa) kk) + (-(Aw (20 + pb) kk))))))))] := ⟨_, rfl⟩
              rw [← hf_106] at B
              obtain ⟨A_106, hA_106⟩ : ∃ A_106, A_106 = upA Aw 0 (up (Aw 0) kk ((Aw (20 + pa) kk) + (-(Aw (20 + pb) kk)))) := ⟨_, rfl⟩
              have hC_106 : CSt cs ad Qm f_106 Iw A_106 Rw Zw := by rw [hf_106, hA_106]; exact CSt.w_wide hAd hCw _
              have hfr_106 : ∀ k, Awy ad k → f_106 k = f k := fun k hk => Eq.trans (by rw [hf_106]; exact hk.mw1 (by omega)) (hfrw k hk)
              refine x_iinc (lv' := [(4, .int (iI (((kk : Int)) + 1))), (0, .ref ((ad 0))), (1, .int (iI 1)), (2, .ref ((ad (27 + pa)))), (3, .ref ((ad (27 + pb))))]) hx hb d_RR_ofTwo_107 hl (q := 0) rfl rfl (by decide) rfl (fun ls hl => ?_)
              refine lv_goto (tgt := 23) hx hb d_RR_ofTwo_110 (by decide) ?_
              exact ih_LA f_106 Iw A_106 Rw Zw (kk + 1) (by omega) hC_106 hfr_106 (by omega) hIw (fun q hq => by rw [hA_106, upA_ne _ _ hq]; exact hAw q hq) (fun j => by
          rw [hA_106, upA_self]
          by_cases c : j = kk
          · rw [c, up_self, if_pos (by omega), hAw _ (by omega), hAw _ (by omega)]
          · rw [up_ne _ _ c, hWw j]
            by_cases c2 : j < kk
            · rw [if_pos c2, if_pos (by omega)]
            · rw [if_neg c2, if_neg (by omega)]) _ _ _ B (lv_sub hl [0, 1, 2, 3, 4] rfl)
            · exfalso; omega
          · exfalso; omega
    exact LA _ f If Af Rf Zf 0 (Nat.lt_succ_self _) hC hfr (Nat.zero_le _) (fun _ => rfl) (fun _ _ => rfl) (fun j => by rw [if_neg (Nat.not_lt_zero _)]) _ _ _ B (lv_sub hl [0, 1, 2, 3, 4] rfl)
  · exfalso; omega
