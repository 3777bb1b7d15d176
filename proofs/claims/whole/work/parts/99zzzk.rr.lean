set_option maxHeartbeats 8000000 in
set_option maxRecDepth 100000 in
theorem c_RR_newton_x (l : Launch) (D : va_G) (cs : Nat → ClassId) (L : List Nat) (f : Nat → va_E) (sz : Nat) (ad Qm : Nat → Nat) (If : Nat → Int) (Af : Nat → Nat → Int) (Rf : Nat → Nat) (Zf : Nat → Int) (p0 : Nat) (a2 a3 a4 : Int) (hAd : AdOk L ad Qm) (hC : CSt cs ad Qm f If Af Rf Zf) (htr : l.stackTraces = false) (hInv : Inv If Af) (hpk : (p0 : Int) < If 0) (ha2 : -2147483648 ≤ a2 ∧ a2 < 2147483648) (ha3 : -2147483648 ≤ a3 ∧ a3 < 2147483648) (ha4 : -2147483648 ≤ a4 ∧ a4 < 2147483648) (hin : (((-1000000 ≤ a2 ∧ a2 ≤ 1000000) ∧ 1 ≤ a3 ∧ a3 ≤ 1000000) ∧ 0 ≤ a4 ∧ a4 ≤ 1)) (hS0 : sg (es (dva (Af (20 + p0))) 6 ((a2 : Rat) / (a3 : Rat))) = 0) : MetT l (⟨"RealRoots", "newton", "(IIII)J"⟩ : MethodName) (.code (⟨"RealRoots", "newton", "(IIII)J"⟩ : MethodName) prog_1_method_18_code 5 (Option.some Jvm.ClassFile.FieldType.long) :: gw) ({ frames := 6, cells := 1, slots := 6, locals := 300 }) (fun v U => va_Pc [.ref ((ad 0)), .int (iI ((p0 : Int))), .int (iI a2), .int (iI a3), .int (iI a4)] (K0 D vwCl (TY cs) L f sz) v U ∧ ThS U) (va_Qt "java/lang/ArithmeticException" (fun (g : Nat → va_E) => ∃ (I' : Nat → Int) (A' : Nat → Nat → Int) (R' : Nat → Nat) (Z' : Nat → Int), CSt cs ad Qm g I' A' R' Z' ∧ (∀ k, Awy ad k → g k = f k) ∧ Inv I' A' ∧ SameV If Af I' A') (K1 D vwCl (TY cs) (AL L sz) L) (AL L sz)) 1 6 (AL L sz) := by
  refine MetT.ofW (cc := prog_1_method_18_code) (maxL := 5) (ret := (Option.some Jvm.ClassFile.FieldType.long)) (by decide) rfl ?_
  intro p e s m args below meth c s₁ Bd hml hexc hv
  obtain ⟨⟨rfl, hk0⟩, hTh⟩ := hv
  obtain ⟨hsz, B⟩ := hk0.start
  subst hsz
  have hSt := AL_st B.1
  have hx := Bd.exec
  have hb := Bd.bytes
  have hr := Bd.returns
  have hlocks := Bd.notSynchronized
  have hts0 := atoms_spec Bd.pre
  have hown : s.vm.findClass RX6 = some m.cls := findClass_of_methodNamed Bd.named
  have hA : ∀ q, s.heap.size ≤ q → AL L s.heap.size q := fun _ h => Or.inr h
  have hl := lv_entry ([.ref ((ad 0)), .int (iI ((p0 : Int))), .int (iI a2), .int (iI a3), .int (iI a4)]) (n := 5) (Nat.le_of_ble_eq_true rfl)
  rw [lg_entry_eq]
  generalize (lg_sl ([.ref ((ad 0)), .int (iI ((p0 : Int))), .int (iI a2), .int (iI a3), .int (iI a4)]) ++ List.replicate (5 - (lg_sl ([.ref ((ad 0)), .int (iI ((p0 : Int))), .int (iI a2), .int (iI a3), .int (iI a4)])).length) Slot.unset).toArray = ls at hl ⊢
  refine absQ (fun Q R av hQ hR hav => ?_)
  have hts : ∀ w ∈ gw, w.before av s = true := by rw [hav]; exact fun w h => hts0 w (List.mem_cons_of_mem _ h)
  have hRf : R.frames = 6 := by rw [hR]; rfl
  have hRl : R.locals = 300 := by rw [hR]; rfl
  have hRc : R.cells = 1 := by rw [hR]; rfl
  have hRs : R.slots = 6 := by rw [hR]; rfl
  clear hR hts0 Bd
  have hl : lv_has ls 5 [(0, .ref ((ad 0))), (1, .int (iI ((p0 : Int)))), (2, .int (iI a2)), (3, .int (iI a3)), (4, .int (iI a4))] := hl
  have hfr : ∀ k, Awy ad k → f k = f k := fun _ _ => rfl
  have hG0 := hInv.1
  have hhd := hG0.1
  have hp0 : p0 < 12 := by omega
  have hVM := hG0.2.1 p0 hp0
  obtain ⟨⟨hi2, hi3⟩, hi4⟩ := hin
  refine lv_aload_n hx hb d_RR_newton_0 rfl (lv_at hl 0 rfl) ?_
  refine lv_iload_n hx hb d_RR_newton_1 rfl (lv_at hl 1 rfl) ?_
  refine x_calli B hA (va_runV (As := [.int (iI ((p0 : Int)))]) (rest := []) ⟨hx, hb, hml, hown, hts⟩ (c_RR_unknown l D cs _ _ _ (ad 0) (ad 1) (ad 2) (ad 5) (ad 7) (ad 8) (ad 9) (ad 10) (ad 11) (ad 12) (ad 13) (ad 14) (If 0) (If 1) (If 2) ((p0 : Int)) (hAd.f1 (by decide)) hC.x (hhd) (by omega)) (cwV 1 hts (gw_V w_261 w_263 s_3 w_1 w_264) rfl rfl rfl (by decide +kernel) ⟨by rw [hRf]; exact Nat.le_of_ble_eq_true rfl, by rw [hRl]; exact Nat.le_of_ble_eq_true rfl⟩) ⟨K0.blind, B.recv (hAd.1 _ (by omega)) (hC.x) rfl, B.pre _⟩ rfl rfl hl.1 rfl (lv_room (Nat.le_of_ble_eq_true rfl)) d_RR_newton_2 ⟨by rw [hRc]; omega, by rw [hRs]; omega⟩) (fun r2 g2 H locs hw B => ?_)
  obtain ⟨rfl, hgf⟩ := hw
  rw [hgf] at B
  rw [if_neg (by omega)]
  refine x_if_eq (tgt := 12) hx hb d_RR_newton_5 (by decide) (by omega) (fun h5 => ?_) (fun h5 => ?_)
  · refine lv_iload_n hx hb d_RR_newton_12 rfl (lv_at hl 2 rfl) ?_
    refine lv_iload_n hx hb d_RR_newton_13 rfl (lv_at hl 3 rfl) ?_
    refine x_calli B hA (va_runS (As := [.int (iI a2), .int (iI a3)]) (rest := []) ⟨hx, hb, hml, hown, hts⟩ (c_RR_outside l D cs _ _ _ a2 a3 (by omega) (by omega)) (va_cwS 2 hts (gw_S w_544 w_545 w_1 w_546) rfl rfl rfl (by decide +kernel) ⟨by rw [hRf]; exact Nat.le_of_ble_eq_true rfl, by rw [hRl]; exact Nat.le_of_ble_eq_true rfl⟩) ⟨K0.blind, B.pre _⟩ rfl rfl hl.1 rfl (lv_room (Nat.le_of_ble_eq_true rfl)) d_RR_newton_14 ⟨by rw [hRc]; omega, by rw [hRs]; omega⟩) (fun r14 g14 H locs hw B => ?_)
    obtain ⟨rfl, hgf⟩ := hw
    rw [hgf] at B
    obtain ⟨ou14, hou14⟩ : ∃ ou14 : Int, ou14 = if a2 < -1000000 ∨ 1000000 < a2 ∨ a3 < 1 ∨ 1000000 < a3 then 1 else 0 := ⟨_, rfl⟩
    rw [← hou14]
    have hou14c : (ou14 = 1 ∧ (a2 < -1000000 ∨ 1000000 < a2 ∨ a3 < 1 ∨ 1000000 < a3)) ∨ (ou14 = 0 ∧ ¬ (a2 < -1000000 ∨ 1000000 < a2 ∨ a3 < 1 ∨ 1000000 < a3)) := by rw [hou14]; split; exact Or.inl ⟨rfl, by assumption⟩; exact Or.inr ⟨rfl, by assumption⟩
    refine x_if_ne (tgt := 31) hx hb d_RR_newton_17 (by decide) (by omega) (fun h17 => ?_) (fun h17 => ?_)
    · exfalso; omega
    · refine lv_iload hx hb d_RR_newton_20 (lv_at hl 4 rfl) ?_
      refine x_if_lt (tgt := 31) hx hb d_RR_newton_22 (by decide) (by omega) (fun h22 => ?_) (fun h22 => ?_)
      · exfalso; omega
      · refine lv_iload hx hb d_RR_newton_25 (lv_at hl 4 rfl) ?_
        refine x_iconst hx hb d_RR_newton_27 ?_
        refine x_icmp_le (tgt := 35) hx hb d_RR_newton_28 (by decide) (by omega) (by omega) (fun h28 => ?_) (fun h28 => ?_)
        · refine lv_aload_n hx hb d_RR_newton_35 rfl (lv_at hl 0 rfl) ?_
          refine x_get (C := RX6) (T := TX6) (N := 14) hx hb hts inX6 hown (B.foc1 (hC.x)) (hAd.f1 (by omega)) 0 rfl rfl 0 (by decide) (hts _ w_197) (fun _ h9 => h9) rfl d_RR_newton_36 ?_
          refine lv_iload_n hx hb d_RR_newton_39 rfl (lv_at hl 1 rfl) ?_
          refine x_aald hx hb (B.foc1 (hC.c0)) (hAd.f1 (by omega)) 0 4 rfl rfl p0 (by omega) (by omega) (by decide) (rfs_at (by omega)) d_RR_newton_40 ?_
          refine x_get (C := RX2) (T := TX2) (N := 5) hx hb hts inX2 hown (B.foc1 (hC.cu (p := p0) (by omega))) (hAd.f1 (by omega)) 0 rfl rfl 0 (by decide) (hts _ w_177) (fun _ h9 => h9) rfl d_RR_newton_41 ?_
          refine lv_aload_n hx hb d_RR_newton_44 rfl (lv_at hl 0 rfl) ?_
          refine x_get (C := RX6) (T := TX6) (N := 14) hx hb hts inX6 hown (B.foc1 (hC.x)) (hAd.f1 (by omega)) 0 rfl rfl 6 (by decide) (hts _ w_203) (fun _ h9 => h9) rfl d_RR_newton_45 ?_
          refine x_callv B hA (va_runS (As := [.ref ((ad (27 + p0))), .ref ((ad 9))]) (rest := []) ⟨hx, hb, hml, hown, hts⟩ (c_RR_derive l D cs _ _ _ (ad 9) (ad (27 + p0)) (Af 1) (Af (20 + p0)) (hAd.fc [9, 27 + p0] (by simp; omega) (by have := ((Ar.va hp0)).lt; intro q hq; simp only [List.mem_cons, List.not_mem_nil, or_false] at hq; omega)) (hC.ar Ar.sl) (hC.ar (Ar.va hp0))) (va_cwS 2 hts (gw_S w_347 w_348 w_1 w_349) rfl rfl rfl (by decide +kernel) ⟨by rw [hRf]; exact Nat.le_of_ble_eq_true rfl, by rw [hRl]; exact Nat.le_of_ble_eq_true rfl⟩) ⟨K0.blind, B.pre _⟩ rfl rfl hl.1 rfl (lv_room (Nat.le_of_ble_eq_true rfl)) d_RR_newton_48 ⟨by rw [hRc]; omega, by rw [hRs]; omega⟩) (fun g48 H locs hw B => ?_)
          obtain ⟨xd, hxd1, hxd2, rfl⟩ := hw
          have B : Wb D vwCl (TY cs) L (mw f [((ad 9), .inl (cs 0, 6, .inl (ai xd)))]) (AL L s.heap.size) s H _ := B
          obtain ⟨f_48, hf_48⟩ : ∃ f_48, f_48 = mw f [((ad 9), .inl (cs 0, 6, .inl (ai xd)))] := ⟨_, rfl⟩
          rw [← hf_48] at B
          obtain ⟨A_48, hA_48⟩ : ∃ A_48, A_48 = upA Af 1 xd := ⟨_, rfl⟩
          have hC_48 : CSt cs ad Qm f_48 If A_48 Rf Zf := by rw [hf_48, hA_48]; exact CSt.wAr hAd hC Ar.sl _
          have hfr_48 : ∀ k, Awy ad k → f_48 k = f k := fun k hk => Eq.trans (by rw [hf_48]; exact hk.mw1 (by omega)) (hfr k hk)
          have hxd := nw_rows (V := Af (20 + p0)) (xd := xd) (fun j hj => by rw [hxd1 j hj]) hxd2
          have hA481 : A_48 1 = xd := by rw [hA_48, upA_self]
          have hA48V : A_48 (20 + p0) = Af (20 + p0) := by rw [hA_48, upA_ne _ _ (by omega)]
          have hxdb : ∀ j, j < 6 → -5000 ≤ xd j ∧ xd j ≤ 5000 := fun j hj => by rw [hxd j hj]; have := dva_bd (M := 1000) (by decide) hVM j hj; omega
          refine lv_aload_n hx hb d_RR_newton_51 rfl (lv_at hl 0 rfl) ?_
          refine x_get (C := RX6) (T := TX6) (N := 14) hx hb hts inX6 hown (B.foc1 (hC_48.x)) (hAd.f1 (by omega)) 0 rfl rfl 3 (by decide) (hts _ w_200) (fun _ h9 => h9) rfl d_RR_newton_52 ?_
          refine lv_iload_n hx hb d_RR_newton_55 rfl (lv_at hl 2 rfl) ?_
          refine x_i2l hx hb d_RR_newton_56 (by omega) ?_
          refine lv_iload_n hx hb d_RR_newton_57 rfl (lv_at hl 3 rfl) ?_
          refine x_i2l hx hb d_RR_newton_58 (by omega) ?_
          obtain ⟨sdn590, nnn590, lmn590, c1n590, c2n590, c3n590⟩ := hC_48.2.2.1 (ad 227) (Bg.pl (by decide))
          obtain ⟨sdn591, nnn591, lmn591, c1n591, c2n591, c3n591⟩ := hC_48.2.2.1 (ad 228) (Bg.pl (by decide))
          have hqan59 : Qm (ad 227) = ad 288 := hAd.2.2 44 (by decide)
          have hqbn59 : Qm (ad 228) = ad 289 := hAd.2.2 45 (by decide)
          refine x_callv B hA (va_runV (As := [.long (lI a2), .long (lI a3)]) (rest := []) ⟨hx, hb, hml, hown, hts⟩ (c_Spot_number l D cs _ _ _ (ad 5) (ad 227) (ad 228) (ad 6) (Rf 52) (Rf 53) (Rf 54) (Rf 55) (Qm (ad 227)) (Qm (ad 228)) (If 6) sdn590 sdn591 nnn590 nnn591 lmn590 lmn591 a2 a3 (by rw [hqan59, hqbn59]; exact hAd.fc [5, 227, 288, 228, 289] (by decide) (by decide)) hC_48.sp c1n590 c2n590 c1n591 c2n591 (by omega) (by omega)) (cwV 2 hts (gw_V w_401 w_402 w_403 w_4 w_404) rfl rfl rfl (by decide +kernel) ⟨by rw [hRf]; exact Nat.le_of_ble_eq_true rfl, by rw [hRl]; exact Nat.le_of_ble_eq_true rfl⟩) ⟨K0.blind, B.recv (hAd.1 _ (by omega)) (hC_48.sp) rfl, B.pre _⟩ rfl rfl hl.1 rfl (lv_room (Nat.le_of_ble_eq_true rfl)) d_RR_newton_59 ⟨by rw [hRc]; omega, by rw [hRs]; omega⟩) (fun g59 H locs hw B => ?_)
          obtain ⟨s1_59, n1_59, l1_59, s2_59, n2_59, l2_59, hz1_59, hz2_59, hg_59⟩ := hw
          obtain ⟨hC_59, hq_59⟩ := CSt.number hAd hC_48 hz1_59 hz2_59 hg_59
          obtain ⟨Z_59, hZ_59⟩ : ∃ Z_59, Z_59 = up (up Zf (ad 228) a3) (ad 227) a2 := ⟨_, rfl⟩
          rw [← hZ_59] at hC_59
          have hfr_59 : ∀ k, Awy ad k → g59 k = f k := fun k hk => (hq_59 k hk).trans (hfr_48 k hk)
          have hZu_59 : Z_59 (ad 227) = a2 := by rw [hZ_59, up_self]
          have hZl_59 : Z_59 (ad 228) = a3 := by rw [hZ_59, up_ne _ _ (hAd.ne (by decide) (by decide) (by decide)), up_self]
          have B : Wb D vwCl (TY cs) L g59 (AL L s.heap.size) s H _ := B
          refine lv_aload_n hx hb d_RR_newton_62 rfl (lv_at hl 0 rfl) ?_
          refine x_get (C := RX6) (T := TX6) (N := 14) hx hb hts inX6 hown (B.foc1 (hC_59.x)) (hAd.f1 (by omega)) 0 rfl rfl 3 (by decide) (hts _ w_200) (fun _ h9 => h9) rfl d_RR_newton_63 ?_
          refine lv_aload_n hx hb d_RR_newton_66 rfl (lv_at hl 0 rfl) ?_
          refine x_get (C := RX6) (T := TX6) (N := 14) hx hb hts inX6 hown (B.foc1 (hC_59.x)) (hAd.f1 (by omega)) 0 rfl rfl 6 (by decide) (hts _ w_203) (fun _ h9 => h9) rfl d_RR_newton_67 ?_
          refine x_callv B hA (va_runV (As := [.ref ((ad 9))]) (rest := []) ⟨hx, hb, hml, hown, hts⟩ (c_Spot_load l D cs _ _ _ (ad 5) (ad 9) (ad 227) (ad 228) (ad 6) (Rf 52) (Rf 53) (Rf 54) (Rf 55) (If 6) (Bg ad) Qm Z_59 (rfs 6 (fun j => ad (229 + j))) (fun j => ad (229 + j)) (A_48 1) (hAd.fc [5, 6, 9] (by have := (Ar.sl).lt; simp only [List.nodup_cons, List.mem_cons, List.not_mem_nil, or_false, not_or, List.nodup_nil, and_true, not_false_eq_true]; omega) (by have := (Ar.sl).lt; intro q hq; simp only [List.mem_cons, List.not_mem_nil, or_false] at hq; omega)) hC_59.sp hC_59.gs (hC_59.ar Ar.sl) hAd.sp hC_59.2.2.1 (hAd.outs [5, 6, 9] (by have := (Ar.sl).lt; intro q hq; simp only [List.mem_cons, List.not_mem_nil, or_false] at hq; omega)) (fun j hj => Bg.pl (by omega)) (fun j hj => rfs_at hj) (fun i j hi hj h => by have := hAd.2.1 _ _ (by omega) (by omega) h; omega) (fun j hj => by rw [hA481]; have := hxdb j hj; omega)) (cwV 1 hts (gw_V w_473 w_474 w_475 w_4 w_476) rfl rfl rfl (by decide +kernel) ⟨by rw [hRf]; exact Nat.le_of_ble_eq_true rfl, by rw [hRl]; exact Nat.le_of_ble_eq_true rfl⟩) ⟨K0.blind, B.recv (hAd.1 _ (by omega)) (hC_59.sp) rfl, B.pre _⟩ rfl rfl hl.1 rfl (lv_room (Nat.le_of_ble_eq_true rfl)) d_RR_newton_70 ⟨by rw [hRc]; omega, by rw [hRs]; omega⟩) (fun g70 H locs hw B => ?_)
          obtain ⟨kd, Z_70, hkd6, hkdz, hkdl, hZs_70, hZo_70, hBB_70, hq_70, hc1_70, hc2_70, hc3_70⟩ := hw
          obtain ⟨I_70, hI_70⟩ : ∃ I_70, I_70 = up If 6 ((kd : Int) - 1) := ⟨_, rfl⟩
          have hC_70 : CSt cs ad Qm g70 I_70 A_48 Rf Z_70 := by
            have h9 := CSt.spot hAd hC_59 [6, 9] hC_59.2.2.2.2.1 hC_59.2.2.2.2.2 hBB_70 hq_70 (fun k hk => by
              simp only [List.mem_cons, List.not_mem_nil, or_false] at hk
              rcases hk with h | h <;> rw [h]
              · exact ⟨by omega, hc2_70.trans hC_59.gs.symm⟩
              · exact ⟨by have := (Ar.sl).lt; omega, hc3_70.trans (hC_59.ar Ar.sl).symm⟩) hc1_70
            rw [upW_same, ← hI_70] at h9
            exact h9
          have hfr_70 : ∀ k, Awy ad k → g70 k = f k := fun k hk => (hq_70 k (hk.out hAd) (hk.nin [5, 6, 9] (by have := (Ar.sl).lt; intro q hq; simp only [List.mem_cons, List.not_mem_nil, or_false] at hq; omega))).trans (hfr_59 k hk)
          have hIo_70 : ∀ i, i ≠ 6 → I_70 i = If i := fun i hi => by rw [hI_70, up_ne _ _ hi]
          have hI6_70 : I_70 6 = (kd : Int) - 1 := by rw [hI_70, up_self]
          have B : Wb D vwCl (TY cs) L g70 (AL L s.heap.size) s H _ := B
          have hZu_70 := (hZo_70 (ad 227) (fun j hj => hAd.ne (by omega) (by omega) (by omega))).trans hZu_59
          have hZl_70 := (hZo_70 (ad 228) (fun j hj => hAd.ne (by omega) (by omega) (by omega))).trans hZl_59
          rw [hA481] at hkdz hkdl
          rcases Nat.eq_zero_or_pos kd with hk0 | hk0
          · have hI6z : I_70 6 = -1 := by rw [hI6_70]; omega
            refine lv_aload_n hx hb d_RR_newton_73 rfl (lv_at hl 0 rfl) ?_
            refine x_get (C := RX6) (T := TX6) (N := 14) hx hb hts inX6 hown (B.foc1 (hC_70.x)) (hAd.f1 (by omega)) 0 rfl rfl 3 (by decide) (hts _ w_200) (fun _ h9 => h9) rfl d_RR_newton_74 ?_
            refine lv_aload_n hx hb d_RR_newton_77 rfl (lv_at hl 0 rfl) ?_
            refine x_get (C := RX6) (T := TX6) (N := 14) hx hb hts inX6 hown (B.foc1 (hC_70.x)) (hAd.f1 (by omega)) 0 rfl rfl 3 (by decide) (hts _ w_200) (fun _ h9 => h9) rfl d_RR_newton_78 ?_
            refine x_get (C := RX5) (T := TX5) (N := 8) hx hb hts inX5 hown (B.foc1 (hC_70.sp)) (hAd.f1 (by omega)) 0 rfl rfl 2 (by decide) (hts _ w_89) (fun _ h9 => h9) rfl d_RR_newton_81 ?_
            refine x_iconst hx hb d_RR_newton_84 ?_
            refine lv_aload_n hx hb d_RR_newton_85 rfl (lv_at hl 0 rfl) ?_
            refine x_get (C := RX6) (T := TX6) (N := 14) hx hb hts inX6 hown (B.foc1 (hC_70.x)) (hAd.f1 (by omega)) 0 rfl rfl 3 (by decide) (hts _ w_200) (fun _ h9 => h9) rfl d_RR_newton_86 ?_
            refine x_get (C := RX5) (T := TX5) (N := 8) hx hb hts inX5 hown (B.foc1 (hC_70.sp)) (hAd.f1 (by omega)) 0 rfl rfl 3 (by decide) (hts _ w_91) (fun _ h9 => h9) rfl d_RR_newton_89 ?_
            rw [hI6z]
            refine x_calli B hA (va_runV (As := [.ref ((ad 6)), .int (iI 0), .int (iI (-1))]) (rest := []) ⟨hx, hb, hml, hown, hts⟩ (c_Spot_signOf_z l D cs _ _ _ (ad 5) (ad 6) (ad 227) (ad 228) (ad 6) (Rf 52) (Rf 53) (Rf 54) (Rf 55) (I_70 6) (Bg ad) (Wkk ad) Qm Z_70 (rfs 6 (fun j => ad (229 + j))) (hAd.fc [5, 6] (by simp only [List.nodup_cons, List.mem_cons, List.not_mem_nil, or_false, not_or, List.nodup_nil, and_true, not_false_eq_true]; omega) (by intro q hq; simp only [List.mem_cons, List.not_mem_nil, or_false] at hq; omega)) hC_70.sp hC_70.gs hAd.sp hC_70.2.2.1 (hAd.outs [5, 6] (by intro q hq; simp only [List.mem_cons, List.not_mem_nil, or_false] at hq; omega)) (fun b hb => Wkk.bg hb) hC_70.2.2.2.2.1 hC_70.2.2.2.2.2) (cwV 3 hts (gw_V w_478 w_411 w_412 w_4 w_413) rfl rfl rfl (by decide +kernel) ⟨by rw [hRf]; exact Nat.le_of_ble_eq_true rfl, by rw [hRl]; exact Nat.le_of_ble_eq_true rfl⟩) ⟨K0.blind, B.recv (hAd.1 _ (by omega)) (hC_70.sp) rfl, B.pre _⟩ rfl rfl hl.1 rfl (lv_room (Nat.le_of_ble_eq_true rfl)) d_RR_newton_92 ⟨by rw [hRc]; omega, by rw [hRs]; omega⟩) (fun r92 g92 H locs hw B => ?_)
            obtain ⟨gt_92, gp_92, ga_92, gb_92, Z_92, rfl, hZt_92, hWd_92, hNe_92, hZo_92, hBB_92, hq_92, hc1_92, hc2_92⟩ := hw
            obtain ⟨R_92, hR_92⟩ : ∃ R_92, R_92 = upW Rf gt_92 gp_92 ga_92 gb_92 := ⟨_, rfl⟩
            have hC_92 : CSt cs ad Qm g92 I_70 A_48 R_92 Z_92 := by
              have h9 := CSt.spot hAd hC_70 [6] hWd_92 hNe_92 hBB_92 hq_92 (fun k hk => by rw [List.mem_singleton.mp hk]; exact ⟨by decide, hc2_92.trans hC_70.gs.symm⟩) hc1_92
              rw [up_same, ← hR_92] at h9
              exact h9
            have hfr_92 : ∀ k, Awy ad k → g92 k = f k := fun k hk => (hq_92 k (hk.out hAd) (hk.nin [5, 6] (by intro q hq; simp only [List.mem_cons, List.not_mem_nil, or_false] at hq; omega))).trans (hfr_70 k hk)
            have B : Wb D vwCl (TY cs) L g92 (AL L s.heap.size) s H _ := B
            refine x_if_ne (tgt := 108) hx hb d_RR_newton_95 (by decide) (by omega) (fun h95 => ?_) (fun h95 => ?_)
            · exfalso; omega
            · subst hQ hav
              exact x_throw hx hb hlocks htr hown hts hTh hSt hexc (hl.1.trans hml.symm) B d_RR_newton_98 d_RR_newton_101 d_RR_newton_102 d_RR_newton_104 d_RR_newton_107 (by rw [hRf]; decide) (by rw [hRl]; decide) (by rw [hRc]; decide) (by rw [hRs]; decide) (⟨I_70, A_48, R_92, Z_92, hC_92, hfr_92, hInv.scr (fun i hi => hIo_70 i (by omega)) (fun q hq => by rw [hA_48, upA_ne _ _ (by omega)]), ⟨hIo_70 0 (by decide), fun p hp => by rw [hA_48, upA_ne _ _ (by omega)]⟩⟩)
          · obtain ⟨nn, hnn⟩ : ∃ nn, kd = nn + 1 := ⟨kd - 1, by omega⟩
            have hI6n : I_70 6 = (nn : Int) := by rw [hI6_70]; omega
            have hRB13 : ∀ j, j < 6 → ((A_48 1 j).natAbs : Int) < 2 ^ 13 := fun j hj => by rw [hA481]; have := hxdb j hj; rw [show (2 : Int) ^ 13 = 8192 from rfl]; omega
            have hkd5 : kd < 6 := by
              have h9 := hkdl hk0
              rcases (show kd < 6 ∨ kd = 6 by omega) with h | h
              · exact h
              · exact absurd (by rw [h]; exact hxd2) h9
            refine lv_aload_n hx hb d_RR_newton_73 rfl (lv_at hl 0 rfl) ?_
            refine x_get (C := RX6) (T := TX6) (N := 14) hx hb hts inX6 hown (B.foc1 (hC_70.x)) (hAd.f1 (by omega)) 0 rfl rfl 3 (by decide) (hts _ w_200) (fun _ h9 => h9) rfl d_RR_newton_74 ?_
            refine lv_aload_n hx hb d_RR_newton_77 rfl (lv_at hl 0 rfl) ?_
            refine x_get (C := RX6) (T := TX6) (N := 14) hx hb hts inX6 hown (B.foc1 (hC_70.x)) (hAd.f1 (by omega)) 0 rfl rfl 3 (by decide) (hts _ w_200) (fun _ h9 => h9) rfl d_RR_newton_78 ?_
            refine x_get (C := RX5) (T := TX5) (N := 8) hx hb hts inX5 hown (B.foc1 (hC_70.sp)) (hAd.f1 (by omega)) 0 rfl rfl 2 (by decide) (hts _ w_89) (fun _ h9 => h9) rfl d_RR_newton_81 ?_
            refine x_iconst hx hb d_RR_newton_84 ?_
            refine lv_aload_n hx hb d_RR_newton_85 rfl (lv_at hl 0 rfl) ?_
            refine x_get (C := RX6) (T := TX6) (N := 14) hx hb hts inX6 hown (B.foc1 (hC_70.x)) (hAd.f1 (by omega)) 0 rfl rfl 3 (by decide) (hts _ w_200) (fun _ h9 => h9) rfl d_RR_newton_86 ?_
            refine x_get (C := RX5) (T := TX5) (N := 8) hx hb hts inX5 hown (B.foc1 (hC_70.sp)) (hAd.f1 (by omega)) 0 rfl rfl 3 (by decide) (hts _ w_91) (fun _ h9 => h9) rfl d_RR_newton_89 ?_
            rw [hI6n]
            refine x_calli B hA (va_runV (As := [.ref ((ad 6)), .int (iI 0), .int (iI ((nn : Int)))]) (rest := []) ⟨hx, hb, hml, hown, hts⟩ (c_Spot_signOf_s l D cs _ _ _ (ad 5) (ad 6) (ad 227) (ad 228) (ad 6) (Rf 52) (Rf 53) (Rf 54) (Rf 55) 0 nn (I_70 6) (Bg ad) (Wkk ad) Qm Z_70 (rfs 6 (fun j => ad (229 + j))) (fun j => ad (229 + j)) (hAd.fc [5, 6] (by simp only [List.nodup_cons, List.mem_cons, List.not_mem_nil, or_false, not_or, List.nodup_nil, and_true, not_false_eq_true]; omega) (by intro q hq; simp only [List.mem_cons, List.not_mem_nil, or_false] at hq; omega)) hC_70.sp hC_70.gs hAd.sp hC_70.2.2.1 (hAd.outs [5, 6] (by intro q hq; simp only [List.mem_cons, List.not_mem_nil, or_false] at hq; omega)) (fun b hb => Wkk.bg hb) hC_70.2.2.2.2.1 hC_70.2.2.2.2.2 (Bg.pl (by decide)) (Bg.pl (by decide)) (Wkk.not hAd (by decide) (by decide)) (Wkk.not hAd (by decide) (by decide)) (by omega) (by omega) (fun j hj => by rw [Nat.zero_add]; exact rfs_at (by omega)) (fun j hj => ⟨Bg.pl (by omega), Wkk.not hAd (by omega) (by omega)⟩) (sp_room (c := (fun j => Z_70 ((fun j => ad (229 + j)) (0 + j)))) (a := 13) (fun j hj => by show ((Z_70 (ad (229 + (0 + j)))).natAbs : Int) < _; rw [Nat.zero_add, hZs_70 j hj]; exact hRB13 j hj) (by omega) (by omega) (by rw [hZu_70]; exact Int.lt_of_le_of_lt (show ((a2 : Int).natAbs : Int) ≤ 1000000 by omega) (by decide)) (by rw [hZl_70]; exact Int.lt_of_le_of_lt (show ((a3 : Int).natAbs : Int) ≤ 1000000 by omega) (by decide)))) (cwV 3 hts (gw_V w_478 w_411 w_412 w_4 w_413) rfl rfl rfl (by decide +kernel) ⟨by rw [hRf]; exact Nat.le_of_ble_eq_true rfl, by rw [hRl]; exact Nat.le_of_ble_eq_true rfl⟩) ⟨K0.blind, B.recv (hAd.1 _ (by omega)) (hC_70.sp) rfl, B.pre _⟩ rfl rfl hl.1 rfl (lv_room (Nat.le_of_ble_eq_true rfl)) d_RR_newton_92 ⟨by rw [hRc]; omega, by rw [hRs]; omega⟩) (fun r92 g92 H locs hw B => ?_)
            obtain ⟨gt_92, gp_92, ga_92, gb_92, Z_92, rfl, hZt_92, hWd_92, hNe_92, hZo_92, hBB_92, hq_92, hc1_92, hc2_92⟩ := hw
            obtain ⟨R_92, hR_92⟩ : ∃ R_92, R_92 = upW Rf gt_92 gp_92 ga_92 gb_92 := ⟨_, rfl⟩
            have hC_92 : CSt cs ad Qm g92 I_70 A_48 R_92 Z_92 := by
              have h9 := CSt.spot hAd hC_70 [6] hWd_92 hNe_92 hBB_92 hq_92 (fun k hk => by rw [List.mem_singleton.mp hk]; exact ⟨by decide, hc2_92.trans hC_70.gs.symm⟩) hc1_92
              rw [up_same, ← hR_92] at h9
              exact h9
            have hfr_92 : ∀ k, Awy ad k → g92 k = f k := fun k hk => (hq_92 k (hk.out hAd) (hk.nin [5, 6] (by intro q hq; simp only [List.mem_cons, List.not_mem_nil, or_false] at hq; omega))).trans (hfr_70 k hk)
            obtain ⟨sa, hsa⟩ : ∃ sa : Int, sa = (hsum (fun j => Z_70 ((fun j => ad (229 + j)) (0 + j))) nn (Z_70 (ad 227)) (Z_70 (ad 228)) nn).sign := ⟨_, rfl⟩
            rw [← hsa]
            have hsaS : sa = sg (es (dva (Af (20 + p0))) 6 (((a2 : Rat) / (a3 : Rat)))) := by rw [hsa, ← (show (Z_70 (ad 227) : Rat) / (Z_70 (ad 228) : Rat) = (a2 : Rat) / (a3 : Rat) by rw [hZu_70, hZl_70])]; exact sgn_row (by rw [hZl_70]; omega) (by omega) (fun j hj => by show Z_70 (ad (229 + (0 + j))) = _; rw [Nat.zero_add]; exact (hZs_70 j hj).trans (by rw [hA481]; exact hxd j hj)) (fun j h1 h2 => by rw [← hxd j h2]; exact hkdz j (by omega) h2)
            have hsar : -1 ≤ sa ∧ sa ≤ 1 := by rw [hsaS]; exact sg_rng _
            have B : Wb D vwCl (TY cs) L g92 (AL L s.heap.size) s H _ := B
            have hrw_92 : ∀ t, t < 42 → Z_92 (R_92 t) = Z_70 (Rf t) := fun t ht => by rw [hR_92, upW_lt ht]; exact hZo_92 _ (Ckk.wk hAd (hC_70.rck ht))
            have hZu_92 := (hZo_92 (ad 227) (Wkk.not hAd (by decide) (by decide))).trans hZu_70
            have hZl_92 := (hZo_92 (ad 228) (Wkk.not hAd (by decide) (by decide))).trans hZl_70
            have hZs_92 : ∀ j, j < 6 → Z_92 (ad (229 + j)) = (A_48 1) j := fun j hj => (hZo_92 (ad (229 + j)) (Wkk.not hAd (by omega) (by omega))).trans (hZs_70 j hj)
            refine x_if_ne (tgt := 108) hx hb d_RR_newton_95 (by decide) (by omega) (fun h95 => ?_) (fun h95 => ?_)
            · exfalso; rw [hsaS, hS0] at h95; exact h95 rfl
            · subst hQ hav
              exact x_throw hx hb hlocks htr hown hts hTh hSt hexc (hl.1.trans hml.symm) B d_RR_newton_98 d_RR_newton_101 d_RR_newton_102 d_RR_newton_104 d_RR_newton_107 (by rw [hRf]; decide) (by rw [hRl]; decide) (by rw [hRc]; decide) (by rw [hRs]; decide) (⟨I_70, A_48, R_92, Z_92, hC_92, hfr_92, hInv.scr (fun i hi => hIo_70 i (by omega)) (fun q hq => by rw [hA_48, upA_ne _ _ (by omega)]), ⟨hIo_70 0 (by decide), fun p hp => by rw [hA_48, upA_ne _ _ (by omega)]⟩⟩)
        · exfalso; omega
  · exfalso; omega
