theorem Inv.set {I I' : Nat → Int} {A A' : Nat → Nat → Int} {p0 : Nat} (h : Inv I A) (hI : ∀ i, i ≠ 2 → i ≠ 20 + p0 → I' i = I i) (hp : p0 < 12) (h2 : I' 2 = 0) (hs : I' (20 + p0) = 0) (hA : ∀ q, q ≠ 20 + p0 → A' q = A q) (hV : ∀ j, j < 6 → -1000 ≤ A' (20 + p0) j ∧ A' (20 + p0) j ≤ 1000) : Inv I' A' := by
  obtain ⟨⟨g1, g2, g3⟩, _⟩ := h
  refine ⟨⟨by rw [hI 0 (by decide) (by omega)]; exact g1, fun p hp j hj => ?_, fun p hp => ?_⟩, Or.inl h2⟩
  · by_cases c : p = p0
    · rw [c]; exact hV j hj
    · rw [hA _ (by omega)]; exact g2 p hp j hj
  · by_cases c : p = p0
    · rw [c]; exact Or.inl hs
    · rw [hI _ (by omega) (by omega)]
      rcases g3 p hp with g | ⟨g, gc⟩
      · exact Or.inl g
      · exact Or.inr ⟨g, gc.congr hp (hA _ (by omega)) (hA _ (by omega)) (hI _ (by omega) (by omega)) (fun i hi => ⟨hI _ (by omega) (by omega), hI _ (by omega) (by omega), hA _ (by omega)⟩)⟩
set_option maxHeartbeats 8000000 in
set_option maxRecDepth 100000 in
theorem c_RR_set_c (l : Launch) (D : va_G) (cs : Nat → ClassId) (L : List Nat) (f : Nat → va_E) (sz : Nat) (ad Qm : Nat → Nat) (If : Nat → Int) (Af : Nat → Nat → Int) (Rf : Nat → Nat) (Zf : Nat → Int) (p0 : Nat) (a2 a3 : Int) (hAd : AdOk L ad Qm) (hC : CSt cs ad Qm f If Af Rf Zf) (hInv : Inv If Af) (hpk : (p0 : Int) < If 0) (ha2 : -2147483648 ≤ a2 ∧ a2 < 2147483648) (ha3 : -2147483648 ≤ a3 ∧ a3 < 2147483648) : Met l (⟨"RealRoots", "set", "(III)I"⟩ : MethodName) (.code (⟨"RealRoots", "set", "(III)I"⟩ : MethodName) prog_1_method_3_code 5 (Option.some Jvm.ClassFile.FieldType.int) :: gw) ({ frames := 2, cells := 0, slots := 0, locals := 60 }) (va_Pc [.ref ((ad 0)), .int (iI ((p0 : Int))), .int (iI a2), .int (iI a3)] (K0 D vwCl (TY cs) L f sz)) (va_Qi (fun (r : Int32) (g : Nat → va_E) => ∃ (I' : Nat → Int) (A' : Nat → Nat → Int) (R' : Nat → Nat) (Z' : Nat → Int), CSt cs ad Qm g I' A' R' Z' ∧ (∀ k, Awy ad k → g k = f k) ∧ Inv I' A' ∧ I' 0 = If 0 ∧ ((¬ ((0 ≤ a2 ∧ a2 < 6) ∧ -1000 ≤ a3 ∧ a3 ≤ 1000) ∧ SameV If Af I' A' ∧ r = iI (-2)) ∨ (((0 ≤ a2 ∧ a2 < 6) ∧ -1000 ≤ a3 ∧ a3 ≤ 1000) ∧ r = iI (Af (20 + p0) a2.toNat + 1000) ∧ (∀ j, A' (20 + p0) j = up (Af (20 + p0)) a2.toNat a3 j) ∧ ∀ p2, p2 < 12 → p2 ≠ p0 → A' (20 + p2) = Af (20 + p2)))) (K1 D vwCl (TY cs) (AL L sz) L) (AL L sz)) 0 0 (AL L sz) := by
  refine Met.ofW (cc := prog_1_method_3_code) (maxL := 5) (ret := (Option.some Jvm.ClassFile.FieldType.int)) (by decide) rfl ?_
  intro p e s m args below meth c s₁ Bd hml hv
  obtain ⟨rfl, hk0⟩ := hv
  obtain ⟨hsz, B⟩ := hk0.start
  subst hsz
  have hx := Bd.exec
  have hb := Bd.bytes
  have hr := Bd.returns
  have hlocks := Bd.notSynchronized
  have hts0 := atoms_spec Bd.pre
  have hown : s.vm.findClass RX6 = some m.cls := findClass_of_methodNamed Bd.named
  have hA : ∀ q, s.heap.size ≤ q → AL L s.heap.size q := fun _ h => Or.inr h
  have hl := lv_entry ([.ref ((ad 0)), .int (iI ((p0 : Int))), .int (iI a2), .int (iI a3)]) (n := 5) (Nat.le_of_ble_eq_true rfl)
  rw [lg_entry_eq]
  generalize (lg_sl ([.ref ((ad 0)), .int (iI ((p0 : Int))), .int (iI a2), .int (iI a3)]) ++ List.replicate (5 - (lg_sl ([.ref ((ad 0)), .int (iI ((p0 : Int))), .int (iI a2), .int (iI a3)])).length) Slot.unset).toArray = ls at hl ⊢
  refine absQ (fun Q R av hQ hR hav => ?_)
  have hts : ∀ w ∈ gw, w.before av s = true := by rw [hav]; exact fun w h => hts0 w (List.mem_cons_of_mem _ h)
  have hRf : R.frames = 2 := by rw [hR]; rfl
  have hRl : R.locals = 60 := by rw [hR]; rfl
  have hRc : R.cells = 0 := by rw [hR]; rfl
  have hRs : R.slots = 0 := by rw [hR]; rfl
  clear hR hts0 Bd
  have hl : lv_has ls 5 [(0, .ref ((ad 0))), (1, .int (iI ((p0 : Int)))), (2, .int (iI a2)), (3, .int (iI a3))] := hl
  have hfr : ∀ k, Awy ad k → f k = f k := fun _ _ => rfl
  have hG0 := hInv.1
  have hhd := hG0.1
  have hp0 : p0 < 12 := by omega
  have hVM := hG0.2.1 p0 hp0
  refine lv_aload_n hx hb d_RR_set_0 rfl (lv_at hl 0 rfl) ?_
  refine lv_iload_n hx hb d_RR_set_1 rfl (lv_at hl 1 rfl) ?_
  refine x_calli B hA (va_runV (As := [.int (iI ((p0 : Int)))]) (rest := []) ⟨hx, hb, hml, hown, hts⟩ (c_RR_unknown l D cs _ _ _ (ad 0) (ad 1) (ad 2) (ad 5) (ad 7) (ad 8) (ad 9) (ad 10) (ad 11) (ad 12) (ad 13) (ad 14) (If 0) (If 1) (If 2) ((p0 : Int)) (hAd.f1 (by decide)) hC.x (hhd) (by omega)) (cwV 1 hts (gw_V w_261 w_263 s_3 w_1 w_264) rfl rfl rfl (by decide +kernel) ⟨by rw [hRf]; exact Nat.le_of_ble_eq_true rfl, by rw [hRl]; exact Nat.le_of_ble_eq_true rfl⟩) ⟨K0.blind, B.recv (hAd.1 _ (by omega)) (hC.x) rfl, B.pre _⟩ rfl rfl hl.1 rfl (lv_room (Nat.le_of_ble_eq_true rfl)) d_RR_set_2 ⟨by rw [hRc]; omega, by rw [hRs]; omega⟩) (fun r2 g2 H locs hw B => ?_)
  obtain ⟨rfl, hgf⟩ := hw
  rw [hgf] at B
  rw [if_neg (by omega)]
  refine x_if_eq (tgt := 10) hx hb d_RR_set_5 (by decide) (by omega) (fun h5 => ?_) (fun h5 => ?_)
  · refine lv_iload_n hx hb d_RR_set_10 rfl (lv_at hl 2 rfl) ?_
    refine x_if_lt (tgt := 34) hx hb d_RR_set_11 (by decide) (by omega) (fun h11 => ?_) (fun h11 => ?_)
    · refine x_bipush hx hb d_RR_set_34 (by decide) ?_
      subst hQ hav
      exact x_iret hx hb hr hlocks B d_RR_set_36 (⟨If, Af, Rf, Zf, hC, hfr, hInv, rfl, Or.inl ⟨by omega, ⟨rfl, fun _ _ => rfl⟩, rfl⟩⟩)
    · refine lv_iload_n hx hb d_RR_set_14 rfl (lv_at hl 2 rfl) ?_
      refine x_bipush hx hb d_RR_set_15 (by decide) ?_
      refine x_icmp_ge (tgt := 34) hx hb d_RR_set_17 (by decide) (by omega) (by omega) (fun h17 => ?_) (fun h17 => ?_)
      · refine x_bipush hx hb d_RR_set_34 (by decide) ?_
        subst hQ hav
        exact x_iret hx hb hr hlocks B d_RR_set_36 (⟨If, Af, Rf, Zf, hC, hfr, hInv, rfl, Or.inl ⟨by omega, ⟨rfl, fun _ _ => rfl⟩, rfl⟩⟩)
      · refine lv_iload_n hx hb d_RR_set_20 rfl (lv_at hl 3 rfl) ?_
        refine x_sipush hx hb d_RR_set_21 (by decide) ?_
        refine x_icmp_lt (tgt := 34) hx hb d_RR_set_24 (by decide) (by omega) (by omega) (fun h24 => ?_) (fun h24 => ?_)
        · refine x_bipush hx hb d_RR_set_34 (by decide) ?_
          subst hQ hav
          exact x_iret hx hb hr hlocks B d_RR_set_36 (⟨If, Af, Rf, Zf, hC, hfr, hInv, rfl, Or.inl ⟨by omega, ⟨rfl, fun _ _ => rfl⟩, rfl⟩⟩)
        · refine lv_iload_n hx hb d_RR_set_27 rfl (lv_at hl 3 rfl) ?_
          refine x_sipush hx hb d_RR_set_28 (by decide) ?_
          refine x_icmp_le (tgt := 37) hx hb d_RR_set_31 (by decide) (by omega) (by omega) (fun h31 => ?_) (fun h31 => ?_)
          · refine lv_aload_n hx hb d_RR_set_37 rfl (lv_at hl 0 rfl) ?_
            refine x_get (C := RX6) (T := TX6) (N := 14) hx hb hts inX6 hown (B.foc1 (hC.x)) (hAd.f1 (by omega)) 0 rfl rfl 0 (by decide) (hts _ w_197) (fun _ h9 => h9) rfl d_RR_set_38 ?_
            refine lv_iload_n hx hb d_RR_set_41 rfl (lv_at hl 1 rfl) ?_
            refine x_aald hx hb (B.foc1 (hC.c0)) (hAd.f1 (by omega)) 0 4 rfl rfl p0 (by omega) (by omega) (by decide) (rfs_at (by omega)) d_RR_set_42 ?_
            refine x_get (C := RX2) (T := TX2) (N := 5) hx hb hts inX2 hown (B.foc1 (hC.cu (p := p0) (by omega))) (hAd.f1 (by omega)) 0 rfl rfl 0 (by decide) (hts _ w_177) (fun _ h9 => h9) rfl d_RR_set_43 ?_
            refine lv_iload_n hx hb d_RR_set_46 rfl (lv_at hl 2 rfl) ?_
            obtain ⟨jj, hjj⟩ : ∃ jj : Nat, a2 = (jj : Int) := ⟨a2.toNat, by omega⟩
            subst hjj
            have hwas := hVM jj (by omega)
            refine x_iald hx hb (B.foc1 (hC.va (p := p0) (by omega))) (hAd.f1 (by omega)) 0 0 rfl rfl jj (by omega) (by omega) (by decide) d_RR_set_47 ?_
            refine lv_istore (lv' := [(4, .int (iI (Af (20 + p0) jj))), (0, .ref ((ad 0))), (1, .int (iI ((p0 : Int)))), (2, .int (iI ((jj : Int)))), (3, .int (iI a3))]) hx hb d_RR_set_48 hl (by decide) rfl (fun ls hl => ?_)
            refine lv_iload hx hb d_RR_set_50 (lv_at hl 0 rfl) ?_
            refine lv_iload_n hx hb d_RR_set_52 rfl (lv_at hl 4 rfl) ?_
            refine x_icmp_eq (tgt := 83) hx hb d_RR_set_53 (by decide) (by omega) (by omega) (fun h53 => ?_) (fun h53 => ?_)
            · refine lv_iload hx hb d_RR_set_83 (lv_at hl 0 rfl) ?_
              refine x_sipush hx hb d_RR_set_85 (by decide) ?_
              refine x_iadd hx hb d_RR_set_88 ?_
              subst hQ hav
              exact x_iret hx hb hr hlocks B d_RR_set_89 (⟨If, Af, Rf, Zf, hC, hfr, hInv, rfl, Or.inr ⟨⟨by omega, by omega⟩, by rw [Int.toNat_natCast], fun j => by rw [Int.toNat_natCast]; by_cases c : j = jj; rw [c, up_self]; omega; rw [up_ne _ _ c], fun _ _ _ => rfl⟩⟩)
            · refine lv_aload_n hx hb d_RR_set_56 rfl (lv_at hl 1 rfl) ?_
              refine x_get (C := RX6) (T := TX6) (N := 14) hx hb hts inX6 hown (B.foc1 (hC.x)) (hAd.f1 (by omega)) 0 rfl rfl 0 (by decide) (hts _ w_197) (fun _ h9 => h9) rfl d_RR_set_57 ?_
              refine lv_iload_n hx hb d_RR_set_60 rfl (lv_at hl 2 rfl) ?_
              refine x_aald hx hb (B.foc1 (hC.c0)) (hAd.f1 (by omega)) 0 4 rfl rfl p0 (by omega) (by omega) (by decide) (rfs_at (by omega)) d_RR_set_61 ?_
              refine x_get (C := RX2) (T := TX2) (N := 5) hx hb hts inX2 hown (B.foc1 (hC.cu (p := p0) (by omega))) (hAd.f1 (by omega)) 0 rfl rfl 0 (by decide) (hts _ w_177) (fun _ h9 => h9) rfl d_RR_set_62 ?_
              refine lv_iload_n hx hb d_RR_set_65 rfl (lv_at hl 3 rfl) ?_
              refine lv_iload_n hx hb d_RR_set_66 rfl (lv_at hl 4 rfl) ?_
              refine x_iast hx hb (B.foc1 (hC.va (p := p0) (by omega))) (hAd.f1 (by omega)) 0 0 rfl rfl jj (by omega) (by omega) (by decide) d_RR_set_67 (fun H locs B => ?_)
              have B : Wb D vwCl (TY cs) L (mw f [((ad (27 + p0)), .inl (cs 0, 6, .inl (ai (up (Af (20 + p0)) jj (a3)))))]) (AL L s.heap.size) s H _ := B
              obtain ⟨f_67, hf_67⟩ : ∃ f_67, f_67 = mw f [((ad (27 + p0)), .inl (cs 0, 6, .inl (ai (up (Af (20 + p0)) jj (a3)))))] := ⟨_, rfl⟩
              rw [← hf_67] at B
              obtain ⟨A_67, hA_67⟩ : ∃ A_67, A_67 = upA Af (20 + p0) (up (Af (20 + p0)) jj (a3)) := ⟨_, rfl⟩
              have hC_67 : CSt cs ad Qm f_67 If A_67 Rf Zf := by rw [hf_67, hA_67]; exact CSt.wAr hAd hC (Ar.va hp0) _
              have hfr_67 : ∀ k, Awy ad k → f_67 k = f k := fun k hk => Eq.trans (by rw [hf_67]; exact hk.mw1 (by omega)) (hfr k hk)
              refine lv_aload_n hx hb d_RR_set_68 rfl (lv_at hl 1 rfl) ?_
              refine x_get (C := RX6) (T := TX6) (N := 14) hx hb hts inX6 hown (B.foc1 (hC_67.x)) (hAd.f1 (by omega)) 0 rfl rfl 0 (by decide) (hts _ w_197) (fun _ h9 => h9) rfl d_RR_set_69 ?_
              refine lv_iload_n hx hb d_RR_set_72 rfl (lv_at hl 2 rfl) ?_
              refine x_aald hx hb (B.foc1 (hC_67.c0)) (hAd.f1 (by omega)) 0 4 rfl rfl p0 (by omega) (by omega) (by decide) (rfs_at (by omega)) d_RR_set_73 ?_
              refine x_iconst hx hb d_RR_set_74 ?_
              refine x_put (C := RX2) (T := TX2) (N := 5) hx hb hts inX2 tyX2 tyX2_ok nmX2 hown (B.foc1 (hC_67.cu (p := p0) (by omega))) (hAd.f1 (by omega)) 0 rfl rfl 3 (by decide) (hts _ w_183) (fun _ h9 => h9) rfl (tyX2_ok 3 (by decide)) rfl rfl (Nat.le_of_ble_eq_true rfl) d_RR_set_75 (fun H locs B => ?_)
              have B : Wb D vwCl (TY cs) L (mw f_67 [((ad (15 + p0)), .inr (2, [.ref (ad (27 + p0)), .ref (ad (39 + p0)), .ref (ad (51 + p0)), .int (iI (0)), .int (iI (If (40 + p0)))]))]) (AL L s.heap.size) s H _ := B
              obtain ⟨f_75, hf_75⟩ : ∃ f_75, f_75 = mw f_67 [((ad (15 + p0)), .inr (2, [.ref (ad (27 + p0)), .ref (ad (39 + p0)), .ref (ad (51 + p0)), .int (iI (0)), .int (iI (If (40 + p0)))]))] := ⟨_, rfl⟩
              rw [← hf_75] at B
              obtain ⟨I_75, hI_75⟩ : ∃ I_75, I_75 = up If (20 + p0) (0) := ⟨_, rfl⟩
              have hC_75 : CSt cs ad Qm f_75 I_75 A_67 Rf Zf := by rw [hf_75, hI_75]; exact CSt.w_settled hAd hC_67 (p := p0) (by omega) (0)
              have hfr_75 : ∀ k, Awy ad k → f_75 k = f k := fun k hk => Eq.trans (by rw [hf_75]; exact hk.mw1 (by omega)) (hfr_67 k hk)
              refine lv_aload_n hx hb d_RR_set_78 rfl (lv_at hl 1 rfl) ?_
              refine x_iconst hx hb d_RR_set_79 ?_
              refine x_put (C := RX6) (T := TX6) (N := 14) hx hb hts inX6 tyX6 tyX6_ok nmX6 hown (B.foc1 (hC_75.x)) (hAd.f1 (by omega)) 0 rfl rfl 13 (by decide) (hts _ w_210) (fun _ h9 => h9) rfl (tyX6_ok 13 (by decide)) rfl rfl (Nat.le_of_ble_eq_true rfl) d_RR_set_80 (fun H locs B => ?_)
              have B : Wb D vwCl (TY cs) L (mw f_75 [((ad 0), .inr (6, [.ref (ad 1), .int (iI (I_75 0)), .ref (ad 2), .ref (ad 5), .ref (ad 7), .ref (ad 8), .ref (ad 9), .ref (ad 10), .ref (ad 11), .ref (ad 12), .ref (ad 13), .ref (ad 14), .int (iI (I_75 1)), .int (iI (0))]))]) (AL L s.heap.size) s H _ := B
              obtain ⟨f_80, hf_80⟩ : ∃ f_80, f_80 = mw f_75 [((ad 0), .inr (6, [.ref (ad 1), .int (iI (I_75 0)), .ref (ad 2), .ref (ad 5), .ref (ad 7), .ref (ad 8), .ref (ad 9), .ref (ad 10), .ref (ad 11), .ref (ad 12), .ref (ad 13), .ref (ad 14), .int (iI (I_75 1)), .int (iI (0))]))] := ⟨_, rfl⟩
              rw [← hf_80] at B
              obtain ⟨I_80, hI_80⟩ : ∃ I_80, I_80 = up I_75 2 (0) := ⟨_, rfl⟩
              have hC_80 : CSt cs ad Qm f_80 I_80 A_67 Rf Zf := by rw [hf_80, hI_80]; exact CSt.w_lined hAd hC_75 (0)
              have hfr_80 : ∀ k, Awy ad k → f_80 k = f k := fun k hk => Eq.trans (by rw [hf_80]; exact hk.mw1 (by omega)) (hfr_75 k hk)
              refine lv_iload hx hb d_RR_set_83 (lv_at hl 0 rfl) ?_
              refine x_sipush hx hb d_RR_set_85 (by decide) ?_
              refine x_iadd hx hb d_RR_set_88 ?_
              subst hQ hav
              exact x_iret hx hb hr hlocks B d_RR_set_89 (⟨I_80, A_67, Rf, Zf, hC_80, hfr_80, hInv.set (p0 := p0) (fun i h1 h2 => by rw [hI_80, up_ne _ _ h1, hI_75, up_ne _ _ h2]) hp0 (by rw [hI_80, up_self]) (by rw [hI_80, up_ne _ _ (by omega), hI_75, up_self]) (fun q hq => by rw [hA_67, upA_ne _ _ hq]) (fun j hj => by rw [hA_67, upA_self]; by_cases c : j = jj; rw [c, up_self]; omega; rw [up_ne _ _ c]; exact hVM j hj), by rw [hI_80, up_ne _ _ (by decide), hI_75, up_ne _ _ (by omega)], Or.inr ⟨⟨by omega, by omega⟩, by rw [Int.toNat_natCast], fun j => by rw [hA_67, upA_self, Int.toNat_natCast], fun p2 _ hne => by rw [hA_67, upA_ne _ _ (by omega)]⟩⟩)
          · refine x_bipush hx hb d_RR_set_34 (by decide) ?_
            subst hQ hav
            exact x_iret hx hb hr hlocks B d_RR_set_36 (⟨If, Af, Rf, Zf, hC, hfr, hInv, rfl, Or.inl ⟨by omega, ⟨rfl, fun _ _ => rfl⟩, rfl⟩⟩)
  · exfalso; omega
set_option maxHeartbeats 8000000 in
set_option maxRecDepth 100000 in
theorem c_RR_coefficient_c (l : Launch) (D : va_G) (cs : Nat → ClassId) (L : List Nat) (f : Nat → va_E) (sz : Nat) (ad Qm : Nat → Nat) (If : Nat → Int) (Af : Nat → Nat → Int) (Rf : Nat → Nat) (Zf : Nat → Int) (p0 : Nat) (a2 : Int) (hAd : AdOk L ad Qm) (hC : CSt cs ad Qm f If Af Rf Zf) (hInv : Inv If Af) (hpk : (p0 : Int) < If 0) (ha2 : -2147483648 ≤ a2 ∧ a2 < 2147483648) : Met l (⟨"RealRoots", "coefficient", "(II)I"⟩ : MethodName) (.code (⟨"RealRoots", "coefficient", "(II)I"⟩ : MethodName) prog_1_method_4_code 3 (Option.some Jvm.ClassFile.FieldType.int) :: gw) ({ frames := 2, cells := 0, slots := 0, locals := 60 }) (va_Pc [.ref ((ad 0)), .int (iI ((p0 : Int))), .int (iI a2)] (K0 D vwCl (TY cs) L f sz)) (va_Qi (fun (r : Int32) (g : Nat → va_E) => ∃ (I' : Nat → Int) (A' : Nat → Nat → Int) (R' : Nat → Nat) (Z' : Nat → Int), CSt cs ad Qm g I' A' R' Z' ∧ (∀ k, Awy ad k → g k = f k) ∧ Inv I' A' ∧ SameV If Af I' A' ∧ ((¬ (0 ≤ a2 ∧ a2 < 6) ∧ r = iI 0) ∨ ((0 ≤ a2 ∧ a2 < 6) ∧ r = iI (Af (20 + p0) a2.toNat)))) (K1 D vwCl (TY cs) (AL L sz) L) (AL L sz)) 0 0 (AL L sz) := by
  refine Met.ofW (cc := prog_1_method_4_code) (maxL := 3) (ret := (Option.some Jvm.ClassFile.FieldType.int)) (by decide) rfl ?_
  intro p e s m args below meth c s₁ Bd hml hv
  obtain ⟨rfl, hk0⟩ := hv
  obtain ⟨hsz, B⟩ := hk0.start
  subst hsz
  have hx := Bd.exec
  have hb := Bd.bytes
  have hr := Bd.returns
  have hlocks := Bd.notSynchronized
  have hts0 := atoms_spec Bd.pre
  have hown : s.vm.findClass RX6 = some m.cls := findClass_of_methodNamed Bd.named
  have hA : ∀ q, s.heap.size ≤ q → AL L s.heap.size q := fun _ h => Or.inr h
  have hl := lv_entry ([.ref ((ad 0)), .int (iI ((p0 : Int))), .int (iI a2)]) (n := 3) (Nat.le_of_ble_eq_true rfl)
  rw [lg_entry_eq]
  generalize (lg_sl ([.ref ((ad 0)), .int (iI ((p0 : Int))), .int (iI a2)]) ++ List.replicate (3 - (lg_sl ([.ref ((ad 0)), .int (iI ((p0 : Int))), .int (iI a2)])).length) Slot.unset).toArray = ls at hl ⊢
  refine absQ (fun Q R av hQ hR hav => ?_)
  have hts : ∀ w ∈ gw, w.before av s = true := by rw [hav]; exact fun w h => hts0 w (List.mem_cons_of_mem _ h)
  have hRf : R.frames = 2 := by rw [hR]; rfl
  have hRl : R.locals = 60 := by rw [hR]; rfl
  have hRc : R.cells = 0 := by rw [hR]; rfl
  have hRs : R.slots = 0 := by rw [hR]; rfl
  clear hR hts0 Bd
  have hl : lv_has ls 3 [(0, .ref ((ad 0))), (1, .int (iI ((p0 : Int)))), (2, .int (iI a2))] := hl
  have hfr : ∀ k, Awy ad k → f k = f k := fun _ _ => rfl
  have hG0 := hInv.1
  have hhd := hG0.1
  have hp0 : p0 < 12 := by omega
  have hVM := hG0.2.1 p0 hp0
  refine lv_aload_n hx hb d_RR_coefficient_0 rfl (lv_at hl 0 rfl) ?_
  refine lv_iload_n hx hb d_RR_coefficient_1 rfl (lv_at hl 1 rfl) ?_
  refine x_calli B hA (va_runV (As := [.int (iI ((p0 : Int)))]) (rest := []) ⟨hx, hb, hml, hown, hts⟩ (c_RR_unknown l D cs _ _ _ (ad 0) (ad 1) (ad 2) (ad 5) (ad 7) (ad 8) (ad 9) (ad 10) (ad 11) (ad 12) (ad 13) (ad 14) (If 0) (If 1) (If 2) ((p0 : Int)) (hAd.f1 (by decide)) hC.x (hhd) (by omega)) (cwV 1 hts (gw_V w_261 w_263 s_3 w_1 w_264) rfl rfl rfl (by decide +kernel) ⟨by rw [hRf]; exact Nat.le_of_ble_eq_true rfl, by rw [hRl]; exact Nat.le_of_ble_eq_true rfl⟩) ⟨K0.blind, B.recv (hAd.1 _ (by omega)) (hC.x) rfl, B.pre _⟩ rfl rfl hl.1 rfl (lv_room (Nat.le_of_ble_eq_true rfl)) d_RR_coefficient_2 ⟨by rw [hRc]; omega, by rw [hRs]; omega⟩) (fun r2 g2 H locs hw B => ?_)
  obtain ⟨rfl, hgf⟩ := hw
  rw [hgf] at B
  rw [if_neg (by omega)]
  refine x_if_ne (tgt := 18) hx hb d_RR_coefficient_5 (by decide) (by omega) (fun h5 => ?_) (fun h5 => ?_)
  · exfalso; omega
  · refine lv_iload_n hx hb d_RR_coefficient_8 rfl (lv_at hl 2 rfl) ?_
    refine x_if_lt (tgt := 18) hx hb d_RR_coefficient_9 (by decide) (by omega) (fun h9 => ?_) (fun h9 => ?_)
    · refine x_iconst hx hb d_RR_coefficient_18 ?_
      refine lv_goto (tgt := 33) hx hb d_RR_coefficient_19 (by decide) ?_
      subst hQ hav
      exact x_iret hx hb hr hlocks B d_RR_coefficient_33 (⟨If, Af, Rf, Zf, hC, hfr, hInv, ⟨rfl, fun _ _ => rfl⟩, Or.inl ⟨by omega, rfl⟩⟩)
    · refine lv_iload_n hx hb d_RR_coefficient_12 rfl (lv_at hl 2 rfl) ?_
      refine x_bipush hx hb d_RR_coefficient_13 (by decide) ?_
      refine x_icmp_lt (tgt := 22) hx hb d_RR_coefficient_15 (by decide) (by omega) (by omega) (fun h15 => ?_) (fun h15 => ?_)
      · refine lv_aload_n hx hb d_RR_coefficient_22 rfl (lv_at hl 0 rfl) ?_
        refine x_get (C := RX6) (T := TX6) (N := 14) hx hb hts inX6 hown (B.foc1 (hC.x)) (hAd.f1 (by omega)) 0 rfl rfl 0 (by decide) (hts _ w_197) (fun _ h9 => h9) rfl d_RR_coefficient_23 ?_
        refine lv_iload_n hx hb d_RR_coefficient_26 rfl (lv_at hl 1 rfl) ?_
        refine x_aald hx hb (B.foc1 (hC.c0)) (hAd.f1 (by omega)) 0 4 rfl rfl p0 (by omega) (by omega) (by decide) (rfs_at (by omega)) d_RR_coefficient_27 ?_
        refine x_get (C := RX2) (T := TX2) (N := 5) hx hb hts inX2 hown (B.foc1 (hC.cu (p := p0) (by omega))) (hAd.f1 (by omega)) 0 rfl rfl 0 (by decide) (hts _ w_177) (fun _ h9 => h9) rfl d_RR_coefficient_28 ?_
        refine lv_iload_n hx hb d_RR_coefficient_31 rfl (lv_at hl 2 rfl) ?_
        obtain ⟨jj, hjj⟩ : ∃ jj : Nat, a2 = (jj : Int) := ⟨a2.toNat, by omega⟩
        subst hjj
        refine x_iald hx hb (B.foc1 (hC.va (p := p0) (by omega))) (hAd.f1 (by omega)) 0 0 rfl rfl jj (by omega) (by omega) (by decide) d_RR_coefficient_32 ?_
        subst hQ hav
        exact x_iret hx hb hr hlocks B d_RR_coefficient_33 (⟨If, Af, Rf, Zf, hC, hfr, hInv, ⟨rfl, fun _ _ => rfl⟩, Or.inr ⟨⟨by omega, by omega⟩, by rw [Int.toNat_natCast]⟩⟩)
      · refine x_iconst hx hb d_RR_coefficient_18 ?_
        refine lv_goto (tgt := 33) hx hb d_RR_coefficient_19 (by decide) ?_
        subst hQ hav
        exact x_iret hx hb hr hlocks B d_RR_coefficient_33 (⟨If, Af, Rf, Zf, hC, hfr, hInv, ⟨rfl, fun _ _ => rfl⟩, Or.inl ⟨by omega, rfl⟩⟩)
