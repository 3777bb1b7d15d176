set_option maxHeartbeats 8000000 in
set_option maxRecDepth 100000 in
theorem c_RR_between_k (l : Launch) (D : va_G) (cs : Nat → ClassId) (L : List Nat) (f : Nat → va_E) (sz : Nat) (ad Qm : Nat → Nat) (If : Nat → Int) (Af : Nat → Nat → Int) (Rf : Nat → Nat) (Zf : Nat → Int) (p0 : Nat) (a2 a3 a4 a5 : Int) (hAd : AdOk L ad Qm) (hC : CSt cs ad Qm f If Af Rf Zf) (hInv : Inv If Af) (hpk : (p0 : Int) < If 0) (ha2 : -2147483648 ≤ a2 ∧ a2 < 2147483648) (ha3 : -2147483648 ≤ a3 ∧ a3 < 2147483648) (ha4 : -2147483648 ≤ a4 ∧ a4 < 2147483648) (ha5 : -2147483648 ≤ a5 ∧ a5 < 2147483648) : Met l (⟨"RealRoots", "between", "(IIIII)I"⟩ : MethodName) (.code (⟨"RealRoots", "between", "(IIIII)I"⟩ : MethodName) prog_1_method_14_code 7 (Option.some Jvm.ClassFile.FieldType.int) :: gw) ({ frames := 7, cells := 0, slots := 0, locals := 340 }) (va_Pc [.ref ((ad 0)), .int (iI ((p0 : Int))), .int (iI a2), .int (iI a3), .int (iI a4), .int (iI a5)] (K0 D vwCl (TY cs) L f sz)) (va_Qi (fun (r : Int32) (g : Nat → va_E) => ∃ (I' : Nat → Int) (A' : Nat → Nat → Int) (R' : Nat → Nat) (Z' : Nat → Int), CSt cs ad Qm g I' A' R' Z' ∧ (∀ k, Awy ad k → g k = f k) ∧ Inv I' A' ∧ SameV If Af I' A' ∧ ((¬ (((-1000000 ≤ a2 ∧ a2 ≤ 1000000) ∧ 1 ≤ a3 ∧ a3 ≤ 1000000) ∧ ((-1000000 ≤ a4 ∧ a4 ≤ 1000000) ∧ 1 ≤ a5 ∧ a5 ≤ 1000000) ∧ a2 * a5 ≤ a4 * a3) ∧ r = iI (-2)) ∨ ((((-1000000 ≤ a2 ∧ a2 ≤ 1000000) ∧ 1 ≤ a3 ∧ a3 ≤ 1000000) ∧ ((-1000000 ≤ a4 ∧ a4 ≤ 1000000) ∧ 1 ≤ a5 ∧ a5 ≤ 1000000) ∧ a2 * a5 ≤ a4 * a3) ∧ (∀ j, j < 6 → Af (20 + p0) j = 0) ∧ r = iI (-3)) ∨ ((((-1000000 ≤ a2 ∧ a2 ≤ 1000000) ∧ 1 ≤ a3 ∧ a3 ≤ 1000000) ∧ ((-1000000 ≤ a4 ∧ a4 ≤ 1000000) ∧ 1 ≤ a5 ∧ a5 ≤ 1000000) ∧ a2 * a5 ≤ a4 * a3) ∧ Nz (Af (20 + p0)) ∧ ∃ (F : Nat → Int) (nm : Nat) (cc : Nat → Int), Laid (Af (20 + p0)) F (nm : Int) cc ∧ r = iI (btw cc a2 a3 a4 a5 nm)))) (K1 D vwCl (TY cs) (AL L sz) L) (AL L sz)) 0 0 (AL L sz) := by
  refine Met.ofW (cc := prog_1_method_14_code) (maxL := 7) (ret := (Option.some Jvm.ClassFile.FieldType.int)) (by decide) rfl ?_
  intro p e s m args below meth c s₁ Bd hml hv
  obtain ⟨rfl, hk0⟩ := hv
  obtain ⟨hsz, B⟩ := hk0.start
  subst hsz
  have hx := Bd.exec
  have hb := Bd.bytes
  have hr := Bd.returns
  have hlocks := Bd.notSynchronized
  have hts0 := atoms_spec Bd.pre
  have hown : s.vm.findClass RX6 = some m.cls := findClass_of_methodNamed Bd.named
  have hA : ∀ q, s.heap.size ≤ q → AL L s.heap.size q := fun _ h => Or.inr h
  have hl := lv_entry ([.ref ((ad 0)), .int (iI ((p0 : Int))), .int (iI a2), .int (iI a3), .int (iI a4), .int (iI a5)]) (n := 7) (Nat.le_of_ble_eq_true rfl)
  rw [lg_entry_eq]
  generalize (lg_sl ([.ref ((ad 0)), .int (iI ((p0 : Int))), .int (iI a2), .int (iI a3), .int (iI a4), .int (iI a5)]) ++ List.replicate (7 - (lg_sl ([.ref ((ad 0)), .int (iI ((p0 : Int))), .int (iI a2), .int (iI a3), .int (iI a4), .int (iI a5)])).length) Slot.unset).toArray = ls at hl ⊢
  refine absQ (fun Q R av hQ hR hav => ?_)
  have hts : ∀ w ∈ gw, w.before av s = true := by rw [hav]; exact fun w h => hts0 w (List.mem_cons_of_mem _ h)
  have hRf : R.frames = 7 := by rw [hR]; rfl
  have hRl : R.locals = 340 := by rw [hR]; rfl
  have hRc : R.cells = 0 := by rw [hR]; rfl
  have hRs : R.slots = 0 := by rw [hR]; rfl
  clear hR hts0 Bd
  have hl : lv_has ls 7 [(0, .ref ((ad 0))), (1, .int (iI ((p0 : Int)))), (2, .int (iI a2)), (3, .int (iI a3)), (4, .int (iI a4)), (5, .int (iI a5))] := hl
  have hfr : ∀ k, Awy ad k → f k = f k := fun _ _ => rfl
  have hG0 := hInv.1
  have hhd := hG0.1
  have hp0 : p0 < 12 := by omega
  have hVM := hG0.2.1 p0 hp0
  refine lv_aload_n hx hb d_RR_between_0 rfl (lv_at hl 0 rfl) ?_
  refine lv_iload_n hx hb d_RR_between_1 rfl (lv_at hl 1 rfl) ?_
  refine x_calli B hA (va_runV (As := [.int (iI ((p0 : Int)))]) (rest := []) ⟨hx, hb, hml, hown, hts⟩ (c_RR_unknown l D cs _ _ _ (ad 0) (ad 1) (ad 2) (ad 5) (ad 7) (ad 8) (ad 9) (ad 10) (ad 11) (ad 12) (ad 13) (ad 14) (If 0) (If 1) (If 2) ((p0 : Int)) (hAd.f1 (by decide)) hC.x (hhd) (by omega)) (cwV 1 hts (gw_V w_261 w_263 s_3 w_1 w_264) rfl rfl rfl (by decide +kernel) ⟨by rw [hRf]; exact Nat.le_of_ble_eq_true rfl, by rw [hRl]; exact Nat.le_of_ble_eq_true rfl⟩) ⟨K0.blind, B.recv (hAd.1 _ (by omega)) (hC.x) rfl, B.pre _⟩ rfl rfl hl.1 rfl (lv_room (Nat.le_of_ble_eq_true rfl)) d_RR_between_2 ⟨by rw [hRc]; omega, by rw [hRs]; omega⟩) (fun r2 g2 H locs hw B => ?_)
  obtain ⟨rfl, hgf⟩ := hw
  rw [hgf] at B
  rw [if_neg (by omega)]
  refine x_if_eq (tgt := 10) hx hb d_RR_between_5 (by decide) (by omega) (fun h5 => ?_) (fun h5 => ?_)
  · refine lv_iload_n hx hb d_RR_between_10 rfl (lv_at hl 2 rfl) ?_
    refine lv_iload_n hx hb d_RR_between_11 rfl (lv_at hl 3 rfl) ?_
    refine x_calli B hA (va_runS (As := [.int (iI a2), .int (iI a3)]) (rest := []) ⟨hx, hb, hml, hown, hts⟩ (c_RR_outside l D cs _ _ _ a2 a3 (by omega) (by omega)) (va_cwS 2 hts (gw_S w_544 w_545 w_1 w_546) rfl rfl rfl (by decide +kernel) ⟨by rw [hRf]; exact Nat.le_of_ble_eq_true rfl, by rw [hRl]; exact Nat.le_of_ble_eq_true rfl⟩) ⟨K0.blind, B.pre _⟩ rfl rfl hl.1 rfl (lv_room (Nat.le_of_ble_eq_true rfl)) d_RR_between_12 ⟨by rw [hRc]; omega, by rw [hRs]; omega⟩) (fun r12 g12 H locs hw B => ?_)
    obtain ⟨rfl, hgf⟩ := hw
    rw [hgf] at B
    obtain ⟨ou12, hou12⟩ : ∃ ou12 : Int, ou12 = if a2 < -1000000 ∨ 1000000 < a2 ∨ a3 < 1 ∨ 1000000 < a3 then 1 else 0 := ⟨_, rfl⟩
    rw [← hou12]
    have hou12c : (ou12 = 1 ∧ (a2 < -1000000 ∨ 1000000 < a2 ∨ a3 < 1 ∨ 1000000 < a3)) ∨ (ou12 = 0 ∧ ¬ (a2 < -1000000 ∨ 1000000 < a2 ∨ a3 < 1 ∨ 1000000 < a3)) := by rw [hou12]; split; exact Or.inl ⟨rfl, by assumption⟩; exact Or.inr ⟨rfl, by assumption⟩
    refine x_if_ne (tgt := 44) hx hb d_RR_between_15 (by decide) (by omega) (fun h15 => ?_) (fun h15 => ?_)
    · refine x_bipush hx hb d_RR_between_44 (by decide) ?_
      subst hQ hav
      exact x_iret hx hb hr hlocks B d_RR_between_46 (⟨If, Af, Rf, Zf, hC, hfr, hInv, ⟨rfl, fun _ _ => rfl⟩, Or.inl ⟨fun hh => by obtain ⟨h1, h2, h3⟩ := hh; omega, rfl⟩⟩)
    · refine lv_iload hx hb d_RR_between_18 (lv_at hl 4 rfl) ?_
      refine lv_iload hx hb d_RR_between_20 (lv_at hl 5 rfl) ?_
      refine x_calli B hA (va_runS (As := [.int (iI a4), .int (iI a5)]) (rest := []) ⟨hx, hb, hml, hown, hts⟩ (c_RR_outside l D cs _ _ _ a4 a5 (by omega) (by omega)) (va_cwS 2 hts (gw_S w_544 w_545 w_1 w_546) rfl rfl rfl (by decide +kernel) ⟨by rw [hRf]; exact Nat.le_of_ble_eq_true rfl, by rw [hRl]; exact Nat.le_of_ble_eq_true rfl⟩) ⟨K0.blind, B.pre _⟩ rfl rfl hl.1 rfl (lv_room (Nat.le_of_ble_eq_true rfl)) d_RR_between_22 ⟨by rw [hRc]; omega, by rw [hRs]; omega⟩) (fun r22 g22 H locs hw B => ?_)
      obtain ⟨rfl, hgf⟩ := hw
      rw [hgf] at B
      obtain ⟨ou22, hou22⟩ : ∃ ou22 : Int, ou22 = if a4 < -1000000 ∨ 1000000 < a4 ∨ a5 < 1 ∨ 1000000 < a5 then 1 else 0 := ⟨_, rfl⟩
      rw [← hou22]
      have hou22c : (ou22 = 1 ∧ (a4 < -1000000 ∨ 1000000 < a4 ∨ a5 < 1 ∨ 1000000 < a5)) ∨ (ou22 = 0 ∧ ¬ (a4 < -1000000 ∨ 1000000 < a4 ∨ a5 < 1 ∨ 1000000 < a5)) := by rw [hou22]; split; exact Or.inl ⟨rfl, by assumption⟩; exact Or.inr ⟨rfl, by assumption⟩
      refine x_if_ne (tgt := 44) hx hb d_RR_between_25 (by decide) (by omega) (fun h25 => ?_) (fun h25 => ?_)
      · refine x_bipush hx hb d_RR_between_44 (by decide) ?_
        subst hQ hav
        exact x_iret hx hb hr hlocks B d_RR_between_46 (⟨If, Af, Rf, Zf, hC, hfr, hInv, ⟨rfl, fun _ _ => rfl⟩, Or.inl ⟨fun hh => by obtain ⟨h1, h2, h3⟩ := hh; omega, rfl⟩⟩)
      · refine lv_iload hx hb d_RR_between_28 (lv_at hl 4 rfl) ?_
        refine x_i2l hx hb d_RR_between_30 (by omega) ?_
        refine lv_iload_n hx hb d_RR_between_31 rfl (lv_at hl 3 rfl) ?_
        refine x_i2l hx hb d_RR_between_32 (by omega) ?_
        refine x_lmul hx hb d_RR_between_33 ?_
        refine lv_iload_n hx hb d_RR_between_34 rfl (lv_at hl 2 rfl) ?_
        refine x_i2l hx hb d_RR_between_35 (by omega) ?_
        refine lv_iload hx hb d_RR_between_36 (lv_at hl 5 rfl) ?_
        refine x_i2l hx hb d_RR_between_38 (by omega) ?_
        refine x_lmul hx hb d_RR_between_39 ?_
        have hmm1 := mul_1m (a := a4) (b := a3) (by omega) (by omega)
        have hmm2 := mul_1m (a := a2) (b := a5) (by omega) (by omega)
        refine x_lc_ge (tgt := 47) hx hb d_RR_between_40 rfl d_RR_between_41 (by decide) (by omega) (by omega) (fun h41 => ?_) (fun h41 => ?_)
        · refine lv_aload_n hx hb d_RR_between_47 rfl (lv_at hl 0 rfl) ?_
          refine lv_iload_n hx hb d_RR_between_48 rfl (lv_at hl 1 rfl) ?_
          refine x_calli B hA (va_runV (As := [.int (iI ((p0 : Int)))]) (rest := []) ⟨hx, hb, hml, hown, hts⟩ (c_RR_ready l D cs _ _ _ ad Qm If Af Rf Zf p0 hAd hC hInv.1 (hpk)) (cwV 1 hts (gw_V w_370 w_372 s_14 w_1 w_373) rfl rfl rfl (by decide +kernel) ⟨by rw [hRf]; exact Nat.le_of_ble_eq_true rfl, by rw [hRl]; exact Nat.le_of_ble_eq_true rfl⟩) ⟨K0.blind, B.recv (hAd.1 _ (by omega)) (hC.x) rfl, B.pre _⟩ rfl rfl hl.1 rfl (lv_room (Nat.le_of_ble_eq_true rfl)) d_RR_between_49 ⟨by rw [hRc]; omega, by rw [hRs]; omega⟩) (fun r49 g49 H locs hw B => ?_)
          obtain ⟨Iy, Ay, Ry, Zy, hCy, hqy, hGyy, hOyy, hryy, hsyy⟩ := hw
          have hfry : ∀ k, Awy ad k → g49 k = f k := fun k hk => (hqy k hk).trans (hfr k hk)
          have B : Wb D vwCl (TY cs) L g49 (AL L s.heap.size) s H _ := B
          have hInvy := hInv.rdy (by omega) (hpk) hGyy hOyy hsyy
          have hsvy := hOyy.sv (by omega)
          rcases hryy with ⟨hzy, rfl⟩ | ⟨hny, hsty, rfl⟩
          · refine x_iconst hx hb d_RR_between_52 ?_
            refine x_icmp_ne (tgt := 59) hx hb d_RR_between_53 (by decide) (by omega) (by omega) (fun h53 => ?_) (fun h53 => ?_)
            · exfalso; omega
            · refine x_bipush hx hb d_RR_between_56 (by decide) ?_
              subst hQ hav
              exact x_iret hx hb hr hlocks B d_RR_between_58 (⟨Iy, Ay, Ry, Zy, hCy, hfry, hInvy, hsvy, Or.inr (Or.inl ⟨⟨by omega, by omega, by omega⟩, hzy, rfl⟩)⟩)
          · obtain ⟨nmy, Ny, dpy, vy, hcry⟩ : ∃ nm N dp v, Crv Iy Ay p0 nm N dp v := by rcases hGyy.2.2 p0 (by omega) with h | ⟨_, h⟩; omega; exact h.crv
            have hVMy := hGyy.2.1 p0 (by omega)
            have hAVy := hsvy.2 p0 (by omega)
            obtain ⟨ccy, hLy, hz6y⟩ := free_laid hcry.1 hVMy hcry.2.1 hcry.2.2.2.2.1 hcry.2.2.2.2.2.1
            rw [hAVy] at hLy
            rw [hcry.2.2.1]
            have hnm5y := hcry.2.2.2.1
            refine x_iconst hx hb d_RR_between_52 ?_
            refine x_icmp_ne (tgt := 59) hx hb d_RR_between_53 (by decide) (by omega) (by omega) (fun h53 => ?_) (fun h53 => ?_)
            · obtain ⟨⟨p1y, hPty⟩, _⟩ := hcry.part hVMy
              have hFb := fac_all hPty.1 hPty.2.1 hPty.2.2.2.choose_spec
              refine lv_aload_n hx hb d_RR_between_59 rfl (lv_at hl 0 rfl) ?_
              refine lv_aload_n hx hb d_RR_between_60 rfl (lv_at hl 0 rfl) ?_
              refine x_get (C := RX6) (T := TX6) (N := 14) hx hb hts inX6 hown (B.foc1 (hCy.x)) (hAd.f1 (by omega)) 0 rfl rfl 0 (by decide) (hts _ w_197) (fun _ h9 => h9) rfl d_RR_between_61 ?_
              refine lv_iload_n hx hb d_RR_between_64 rfl (lv_at hl 1 rfl) ?_
              refine x_aald hx hb (B.foc1 (hCy.c0)) (hAd.f1 (by omega)) 0 4 rfl rfl p0 (by omega) (by omega) (by decide) (rfs_at (by omega)) d_RR_between_65 ?_
              refine x_get (C := RX2) (T := TX2) (N := 5) hx hb hts inX2 hown (B.foc1 (hCy.cu (p := p0) (by omega))) (hAd.f1 (by omega)) 0 rfl rfl 1 (by decide) (hts _ w_179) (fun _ h9 => h9) rfl d_RR_between_66 ?_
              refine x_callv B hA (va_runV (As := [.ref ((ad (39 + p0)))]) (rest := []) ⟨hx, hb, hml, hown, hts⟩ (c_RR_signRow l D cs _ _ _ ad Qm Iy Ay Ry Zy (39 + p0) (40 + p0) hAd hCy (Ar.fr hp0) (by omega) hFb hPty.2.2.1.1) (cwV 1 hts (gw_V w_374 w_376 s_15 w_1 w_377) rfl rfl rfl (by decide +kernel) ⟨by rw [hRf]; exact Nat.le_of_ble_eq_true rfl, by rw [hRl]; exact Nat.le_of_ble_eq_true rfl⟩) ⟨K0.blind, B.recv (hAd.1 _ (by omega)) (hCy.x) rfl, B.pre _⟩ rfl rfl hl.1 rfl (lv_room (Nat.le_of_ble_eq_true rfl)) d_RR_between_69 ⟨by rw [hRc]; omega, by rw [hRs]; omega⟩) (fun g69 H locs hw B => ?_)
              obtain ⟨Is, As, Rs, Zs, hCs, hqs, hchs, hIs3, hAs1⟩ := hw
              have hfrs : ∀ k, Awy ad k → g69 k = f k := fun k hk => (hqs k hk).trans (hfry k hk)
              have B : Wb D vwCl (TY cs) L g69 (AL L s.heap.size) s H _ := B
              have hch0 : ChF (Ay (40 + p0)) Is As Rs Zs := hchs
              refine lv_aload_n hx hb d_RR_between_72 rfl (lv_at hl 0 rfl) ?_
              refine x_get (C := RX6) (T := TX6) (N := 14) hx hb hts inX6 hown (B.foc1 (hCs.x)) (hAd.f1 (by omega)) 0 rfl rfl 3 (by decide) (hts _ w_200) (fun _ h9 => h9) rfl d_RR_between_73 ?_
              refine lv_iload_n hx hb d_RR_between_76 rfl (lv_at hl 2 rfl) ?_
              refine x_i2l hx hb d_RR_between_77 (by omega) ?_
              refine lv_iload_n hx hb d_RR_between_78 rfl (lv_at hl 3 rfl) ?_
              refine x_i2l hx hb d_RR_between_79 (by omega) ?_
              obtain ⟨sdn800, nnn800, lmn800, c1n800, c2n800, c3n800⟩ := hCs.2.2.1 (ad 227) (Bg.pl (by decide))
              obtain ⟨sdn801, nnn801, lmn801, c1n801, c2n801, c3n801⟩ := hCs.2.2.1 (ad 228) (Bg.pl (by decide))
              have hqan80 : Qm (ad 227) = ad 288 := hAd.2.2 44 (by decide)
              have hqbn80 : Qm (ad 228) = ad 289 := hAd.2.2 45 (by decide)
              refine x_callv B hA (va_runV (As := [.long (lI a2), .long (lI a3)]) (rest := []) ⟨hx, hb, hml, hown, hts⟩ (c_Spot_number l D cs _ _ _ (ad 5) (ad 227) (ad 228) (ad 6) (Rs 52) (Rs 53) (Rs 54) (Rs 55) (Qm (ad 227)) (Qm (ad 228)) (Is 6) sdn800 sdn801 nnn800 nnn801 lmn800 lmn801 a2 a3 (by rw [hqan80, hqbn80]; exact hAd.fc [5, 227, 288, 228, 289] (by decide) (by decide)) hCs.sp c1n800 c2n800 c1n801 c2n801 (by omega) (by omega)) (cwV 2 hts (gw_V w_401 w_402 w_403 w_4 w_404) rfl rfl rfl (by decide +kernel) ⟨by rw [hRf]; exact Nat.le_of_ble_eq_true rfl, by rw [hRl]; exact Nat.le_of_ble_eq_true rfl⟩) ⟨K0.blind, B.recv (hAd.1 _ (by omega)) (hCs.sp) rfl, B.pre _⟩ rfl rfl hl.1 rfl (lv_room (Nat.le_of_ble_eq_true rfl)) d_RR_between_80 ⟨by rw [hRc]; omega, by rw [hRs]; omega⟩) (fun g80 H locs hw B => ?_)
              obtain ⟨s1_80, n1_80, l1_80, s2_80, n2_80, l2_80, hz1_80, hz2_80, hg_80⟩ := hw
              obtain ⟨hC_80, hq_80⟩ := CSt.number hAd hCs hz1_80 hz2_80 hg_80
              obtain ⟨Z_80, hZ_80⟩ : ∃ Z_80, Z_80 = up (up Zs (ad 228) a3) (ad 227) a2 := ⟨_, rfl⟩
              rw [← hZ_80] at hC_80
              have hfr_80 : ∀ k, Awy ad k → g80 k = f k := fun k hk => (hq_80 k hk).trans (hfrs k hk)
              have hZu_80 : Z_80 (ad 227) = a2 := by rw [hZ_80, up_self]
              have hZl_80 : Z_80 (ad 228) = a3 := by rw [hZ_80, up_ne _ _ (hAd.ne (by decide) (by decide) (by decide)), up_self]
              have B : Wb D vwCl (TY cs) L g80 (AL L s.heap.size) s H _ := B
              have hch_80 := hch0.keep (I' := Is) (A' := As) (R' := Rs) (Z' := Z_80) (rfl) (rfl) (fun t ht => by rw [hZ_80, up_ne _ _ (ckk_ne hAd (hCs.rck ht) (by decide)), up_ne _ _ (ckk_ne hAd (hCs.rck ht) (by decide))])
              refine lv_aload_n hx hb d_RR_between_83 rfl (lv_at hl 0 rfl) ?_
              refine x_get (C := RX6) (T := TX6) (N := 14) hx hb hts inX6 hown (B.foc1 (hC_80.x)) (hAd.f1 (by omega)) 0 rfl rfl 2 (by decide) (hts _ w_199) (fun _ h9 => h9) rfl d_RR_between_84 ?_
              refine lv_aload_n hx hb d_RR_between_87 rfl (lv_at hl 0 rfl) ?_
              refine x_get (C := RX6) (T := TX6) (N := 14) hx hb hts inX6 hown (B.foc1 (hC_80.x)) (hAd.f1 (by omega)) 0 rfl rfl 3 (by decide) (hts _ w_200) (fun _ h9 => h9) rfl d_RR_between_88 ?_
              obtain ⟨Gk91, hG1k91, hG2k91⟩ := hC_80.2.1
              have hcxk91 := hch_80
              obtain ⟨nk91, hI3k91, hSsk91, hTpk91, hBtk91⟩ := hcxk91
              have hn6k91 := hSsk91.2.1
              refine x_callv B hA (va_runV (As := [.ref ((ad 5))]) (rest := []) ⟨hx, hb, hml, hown, hts⟩ (c_Chain_look l D cs _ _ _ (ad 2) (ad 3) (ad 4) (Rs 42) (ad 226) nk91 (Is 4) (Is 5) (As 7) (fun k => (As 7 k).toNat) Gk91 Rs (ad 5) (ad 227) (ad 228) (ad 6) (Rs 52) (Rs 53) (Rs 54) (Rs 55) (Is 6) (Wkk ad) (Bg ad) Qm Z_80 (hAd.fc [2, 3, 4, 5] (by simp only [List.nodup_cons, List.mem_cons, List.not_mem_nil, or_false, not_or, List.nodup_nil, and_true, not_false_eq_true]; omega) (by intro q hq; simp only [List.mem_cons, List.not_mem_nil, or_false] at hq; omega)) (by rw [← hI3k91]; exact hC_80.ch) hG2k91 hC_80.tq ⟨hSsk91.1, hSsk91.2.1⟩ (fun k hk => (tops_dg hTpk91 k hk).1) hG1k91 (fun t ht => (hC_80.rck ht).bg) (fun k hk => (tops_dg hTpk91 k hk).2) hC_80.sp hAd.sp hC_80.2.2.1 (hAd.outs [2, 3, 4, 5] (by intro q hq; simp only [List.mem_cons, List.not_mem_nil, or_false] at hq; omega)) (fun b hb => Wkk.bg hb) hC_80.2.2.2.2.1 hC_80.2.2.2.2.2 (Bg.pl (by decide)) (Bg.pl (by decide)) (Wkk.not hAd (by decide) (by decide)) (Wkk.not hAd (by decide) (by decide)) (fun t ht => Ckk.wk hAd (hC_80.rck ht)) (by rw [hZl_80]; omega) (fun Z2 hZ2 => by have hh : ∀ k, k < nk91 → ∀ j, j < 6 → ChRow Rs Z2 k j = ChRow Rs Z_80 k j := fun k hk j hj => hZ2 _ (Ckk.wk hAd (hC_80.rck (by omega))); exact bt_room (r := ChRow Rs Z2) (hTpk91.congr hh (fun _ _ => rfl)) (hBtk91.congr hh) (by rw [hZ2 _ (Wkk.not hAd (by decide) (by decide))]; exact (by rw [hZu_80]; exact Int.lt_of_le_of_lt (show ((a2 : Int).natAbs : Int) ≤ 1000000 by omega) (by decide))) (by rw [hZ2 _ (Wkk.not hAd (by decide) (by decide))]; exact (by rw [hZl_80]; exact Int.lt_of_le_of_lt (show ((a3 : Int).natAbs : Int) ≤ 1000000 by omega) (by decide))))) (cwV 1 hts (gw_V w_406 w_407 w_408 w_2 w_409) rfl rfl rfl (by decide +kernel) ⟨by rw [hRf]; exact Nat.le_of_ble_eq_true rfl, by rw [hRl]; exact Nat.le_of_ble_eq_true rfl⟩) ⟨K0.blind, B.recv (hAd.1 _ (by omega)) (hC_80.ch) rfl, B.pre _⟩ rfl rfl hl.1 rfl (lv_room (Nat.le_of_ble_eq_true rfl)) d_RR_between_91 ⟨by rw [hRc]; omega, by rw [hRs]; omega⟩) (fun g91 H locs hw B => ?_)
              obtain ⟨gtk91, gpk91, gak91, gbk91, Zk91, hWdk91, hNek91, hZZk91, hBBk91, hqk91, hcck91, httk91, htqk91, hspk91⟩ := hw
              obtain ⟨Ik91, hIk91⟩ : ∃ Ik91, Ik91 = up (up Is 4 (tn (fun k => sg (es (fun j => Z_80 (Rs (6 * k + j))) 6 ((Z_80 (ad 227) : Rat) / (Z_80 (ad 228) : Rat)))) nk91)) 5 ((fun k => sg (es (fun j => Z_80 (Rs (6 * k + j))) 6 ((Z_80 (ad 227) : Rat) / (Z_80 (ad 228) : Rat)))) 0) := ⟨_, rfl⟩
              obtain ⟨Rk91, hRk91⟩ : ∃ Rk91, Rk91 = upW Rs gtk91 gpk91 gak91 gbk91 := ⟨_, rfl⟩
              have hCk91 : CSt cs ad Qm g91 Ik91 As Rk91 Zk91 := by rw [hIk91, hRk91]; exact CSt.look hAd hC_80 hG1k91 hWdk91 hNek91 hBBk91 hqk91 (by rw [hI3k91]; exact hcck91) httk91 htqk91 hspk91
              have hfrk91 : ∀ k, Awy ad k → g91 k = f k := fun k hk => (hqk91 k (hk.out hAd) (hk.nin [2, 3, 4, 5] (by intro q hq; simp only [List.mem_cons, List.not_mem_nil, or_false] at hq; omega))).trans (hfr_80 k hk)
              have hIok91 : ∀ i, i ≠ 4 → i ≠ 5 → Ik91 i = Is i := fun i h1 h2 => by rw [hIk91, up_ne _ _ h2, up_ne _ _ h1]
              have hrwk91 : ∀ t, t < 42 → Zk91 (Rk91 t) = Z_80 (Rs t) := fun t ht => by rw [hRk91, upW_lt ht]; exact hZZk91 _ (Ckk.wk hAd (hC_80.rck ht))
              have hI4k91 : Ik91 4 = tn (fun k => sg (es (fun j => Z_80 (Rs (6 * k + j))) 6 ((Z_80 (ad 227) : Rat) / (Z_80 (ad 228) : Rat)))) nk91 := by rw [hIk91, up_ne _ _ (by decide), up_self]
              have hI5k91 : Ik91 5 = (fun k => sg (es (fun j => Z_80 (Rs (6 * k + j))) 6 ((Z_80 (ad 227) : Rat) / (Z_80 (ad 228) : Rat)))) 0 := by rw [hIk91, up_self]
              have B : Wb D vwCl (TY cs) L g91 (AL L s.heap.size) s H _ := B
              have hchk91 := hch_80.keep (I' := Ik91) (A' := As) (R' := Rk91) (Z' := Zk91) (hIok91 3 (by decide) (by decide)) (rfl) (hrwk91)
              refine lv_aload_n hx hb d_RR_between_94 rfl (lv_at hl 0 rfl) ?_
              refine x_get (C := RX6) (T := TX6) (N := 14) hx hb hts inX6 hown (B.foc1 (hCk91.x)) (hAd.f1 (by omega)) 0 rfl rfl 2 (by decide) (hts _ w_199) (fun _ h9 => h9) rfl d_RR_between_95 ?_
              refine x_get (C := RX1) (T := TX1) (N := 7) hx hb hts inX1 hown (B.foc1 (hCk91.ch)) (hAd.f1 (by omega)) 0 rfl rfl 3 (by decide) (hts _ w_57) (fun _ h9 => h9) rfl d_RR_between_98 ?_
              refine lv_istore (lv' := [(6, .int (iI (Ik91 4))), (0, .ref ((ad 0))), (1, .int (iI ((p0 : Int)))), (2, .int (iI a2)), (3, .int (iI a3)), (4, .int (iI a4)), (5, .int (iI a5))]) hx hb d_RR_between_101 hl (by decide) rfl (fun ls hl => ?_)
              refine lv_aload_n hx hb d_RR_between_103 rfl (lv_at hl 1 rfl) ?_
              refine x_get (C := RX6) (T := TX6) (N := 14) hx hb hts inX6 hown (B.foc1 (hCk91.x)) (hAd.f1 (by omega)) 0 rfl rfl 3 (by decide) (hts _ w_200) (fun _ h9 => h9) rfl d_RR_between_104 ?_
              refine lv_iload hx hb d_RR_between_107 (lv_at hl 5 rfl) ?_
              refine x_i2l hx hb d_RR_between_109 (by omega) ?_
              refine lv_iload hx hb d_RR_between_110 (lv_at hl 6 rfl) ?_
              refine x_i2l hx hb d_RR_between_112 (by omega) ?_
              obtain ⟨sdn1130, nnn1130, lmn1130, c1n1130, c2n1130, c3n1130⟩ := hCk91.2.2.1 (ad 227) (Bg.pl (by decide))
              obtain ⟨sdn1131, nnn1131, lmn1131, c1n1131, c2n1131, c3n1131⟩ := hCk91.2.2.1 (ad 228) (Bg.pl (by decide))
              have hqan113 : Qm (ad 227) = ad 288 := hAd.2.2 44 (by decide)
              have hqbn113 : Qm (ad 228) = ad 289 := hAd.2.2 45 (by decide)
              refine x_callv B hA (va_runV (As := [.long (lI a4), .long (lI a5)]) (rest := []) ⟨hx, hb, hml, hown, hts⟩ (c_Spot_number l D cs _ _ _ (ad 5) (ad 227) (ad 228) (ad 6) (Rk91 52) (Rk91 53) (Rk91 54) (Rk91 55) (Qm (ad 227)) (Qm (ad 228)) (Ik91 6) sdn1130 sdn1131 nnn1130 nnn1131 lmn1130 lmn1131 a4 a5 (by rw [hqan113, hqbn113]; exact hAd.fc [5, 227, 288, 228, 289] (by decide) (by decide)) hCk91.sp c1n1130 c2n1130 c1n1131 c2n1131 (by omega) (by omega)) (cwV 2 hts (gw_V w_401 w_402 w_403 w_4 w_404) rfl rfl rfl (by decide +kernel) ⟨by rw [hRf]; exact Nat.le_of_ble_eq_true rfl, by rw [hRl]; exact Nat.le_of_ble_eq_true rfl⟩) ⟨K0.blind, B.recv (hAd.1 _ (by omega)) (hCk91.sp) rfl, B.pre _⟩ rfl rfl hl.1 rfl (lv_room (Nat.le_of_ble_eq_true rfl)) d_RR_between_113 ⟨by rw [hRc]; omega, by rw [hRs]; omega⟩) (fun g113 H locs hw B => ?_)
              obtain ⟨s1_113, n1_113, l1_113, s2_113, n2_113, l2_113, hz1_113, hz2_113, hg_113⟩ := hw
              obtain ⟨hC_113, hq_113⟩ := CSt.number hAd hCk91 hz1_113 hz2_113 hg_113
              obtain ⟨Z_113, hZ_113⟩ : ∃ Z_113, Z_113 = up (up Zk91 (ad 228) a5) (ad 227) a4 := ⟨_, rfl⟩
              rw [← hZ_113] at hC_113
              have hfr_113 : ∀ k, Awy ad k → g113 k = f k := fun k hk => (hq_113 k hk).trans (hfrk91 k hk)
              have hZu_113 : Z_113 (ad 227) = a4 := by rw [hZ_113, up_self]
              have hZl_113 : Z_113 (ad 228) = a5 := by rw [hZ_113, up_ne _ _ (hAd.ne (by decide) (by decide) (by decide)), up_self]
              have B : Wb D vwCl (TY cs) L g113 (AL L s.heap.size) s H _ := B
              have hch_113 := hchk91.keep (I' := Ik91) (A' := As) (R' := Rk91) (Z' := Z_113) (rfl) (rfl) (fun t ht => by rw [hZ_113, up_ne _ _ (ckk_ne hAd (hCk91.rck ht) (by decide)), up_ne _ _ (ckk_ne hAd (hCk91.rck ht) (by decide))])
              refine lv_aload_n hx hb d_RR_between_116 rfl (lv_at hl 1 rfl) ?_
              refine x_get (C := RX6) (T := TX6) (N := 14) hx hb hts inX6 hown (B.foc1 (hC_113.x)) (hAd.f1 (by omega)) 0 rfl rfl 2 (by decide) (hts _ w_199) (fun _ h9 => h9) rfl d_RR_between_117 ?_
              refine lv_aload_n hx hb d_RR_between_120 rfl (lv_at hl 1 rfl) ?_
              refine x_get (C := RX6) (T := TX6) (N := 14) hx hb hts inX6 hown (B.foc1 (hC_113.x)) (hAd.f1 (by omega)) 0 rfl rfl 3 (by decide) (hts _ w_200) (fun _ h9 => h9) rfl d_RR_between_121 ?_
              obtain ⟨Gk124, hG1k124, hG2k124⟩ := hC_113.2.1
              have hcxk124 := hch_113
              obtain ⟨nk124, hI3k124, hSsk124, hTpk124, hBtk124⟩ := hcxk124
              have hn6k124 := hSsk124.2.1
              refine x_callv B hA (va_runV (As := [.ref ((ad 5))]) (rest := []) ⟨hx, hb, hml, hown, hts⟩ (c_Chain_look l D cs _ _ _ (ad 2) (ad 3) (ad 4) (Rk91 42) (ad 226) nk124 (Ik91 4) (Ik91 5) (As 7) (fun k => (As 7 k).toNat) Gk124 Rk91 (ad 5) (ad 227) (ad 228) (ad 6) (Rk91 52) (Rk91 53) (Rk91 54) (Rk91 55) (Ik91 6) (Wkk ad) (Bg ad) Qm Z_113 (hAd.fc [2, 3, 4, 5] (by simp only [List.nodup_cons, List.mem_cons, List.not_mem_nil, or_false, not_or, List.nodup_nil, and_true, not_false_eq_true]; omega) (by intro q hq; simp only [List.mem_cons, List.not_mem_nil, or_false] at hq; omega)) (by rw [← hI3k124]; exact hC_113.ch) hG2k124 hC_113.tq ⟨hSsk124.1, hSsk124.2.1⟩ (fun k hk => (tops_dg hTpk124 k hk).1) hG1k124 (fun t ht => (hC_113.rck ht).bg) (fun k hk => (tops_dg hTpk124 k hk).2) hC_113.sp hAd.sp hC_113.2.2.1 (hAd.outs [2, 3, 4, 5] (by intro q hq; simp only [List.mem_cons, List.not_mem_nil, or_false] at hq; omega)) (fun b hb => Wkk.bg hb) hC_113.2.2.2.2.1 hC_113.2.2.2.2.2 (Bg.pl (by decide)) (Bg.pl (by decide)) (Wkk.not hAd (by decide) (by decide)) (Wkk.not hAd (by decide) (by decide)) (fun t ht => Ckk.wk hAd (hC_113.rck ht)) (by rw [hZl_113]; omega) (fun Z2 hZ2 => by have hh : ∀ k, k < nk124 → ∀ j, j < 6 → ChRow Rk91 Z2 k j = ChRow Rk91 Z_113 k j := fun k hk j hj => hZ2 _ (Ckk.wk hAd (hC_113.rck (by omega))); exact bt_room (r := ChRow Rk91 Z2) (hTpk124.congr hh (fun _ _ => rfl)) (hBtk124.congr hh) (by rw [hZ2 _ (Wkk.not hAd (by decide) (by decide))]; exact (by rw [hZu_113]; exact Int.lt_of_le_of_lt (show ((a4 : Int).natAbs : Int) ≤ 1000000 by omega) (by decide))) (by rw [hZ2 _ (Wkk.not hAd (by decide) (by decide))]; exact (by rw [hZl_113]; exact Int.lt_of_le_of_lt (show ((a5 : Int).natAbs : Int) ≤ 1000000 by omega) (by decide))))) (cwV 1 hts (gw_V w_406 w_407 w_408 w_2 w_409) rfl rfl rfl (by decide +kernel) ⟨by rw [hRf]; exact Nat.le_of_ble_eq_true rfl, by rw [hRl]; exact Nat.le_of_ble_eq_true rfl⟩) ⟨K0.blind, B.recv (hAd.1 _ (by omega)) (hC_113.ch) rfl, B.pre _⟩ rfl rfl hl.1 rfl (lv_room (Nat.le_of_ble_eq_true rfl)) d_RR_between_124 ⟨by rw [hRc]; omega, by rw [hRs]; omega⟩) (fun g124 H locs hw B => ?_)
              obtain ⟨gtk124, gpk124, gak124, gbk124, Zk124, hWdk124, hNek124, hZZk124, hBBk124, hqk124, hcck124, httk124, htqk124, hspk124⟩ := hw
              obtain ⟨Ik124, hIk124⟩ : ∃ Ik124, Ik124 = up (up Ik91 4 (tn (fun k => sg (es (fun j => Z_113 (Rk91 (6 * k + j))) 6 ((Z_113 (ad 227) : Rat) / (Z_113 (ad 228) : Rat)))) nk124)) 5 ((fun k => sg (es (fun j => Z_113 (Rk91 (6 * k + j))) 6 ((Z_113 (ad 227) : Rat) / (Z_113 (ad 228) : Rat)))) 0) := ⟨_, rfl⟩
              obtain ⟨Rk124, hRk124⟩ : ∃ Rk124, Rk124 = upW Rk91 gtk124 gpk124 gak124 gbk124 := ⟨_, rfl⟩
              have hCk124 : CSt cs ad Qm g124 Ik124 As Rk124 Zk124 := by rw [hIk124, hRk124]; exact CSt.look hAd hC_113 hG1k124 hWdk124 hNek124 hBBk124 hqk124 (by rw [hI3k124]; exact hcck124) httk124 htqk124 hspk124
              have hfrk124 : ∀ k, Awy ad k → g124 k = f k := fun k hk => (hqk124 k (hk.out hAd) (hk.nin [2, 3, 4, 5] (by intro q hq; simp only [List.mem_cons, List.not_mem_nil, or_false] at hq; omega))).trans (hfr_113 k hk)
              have hIok124 : ∀ i, i ≠ 4 → i ≠ 5 → Ik124 i = Ik91 i := fun i h1 h2 => by rw [hIk124, up_ne _ _ h2, up_ne _ _ h1]
              have hrwk124 : ∀ t, t < 42 → Zk124 (Rk124 t) = Z_113 (Rk91 t) := fun t ht => by rw [hRk124, upW_lt ht]; exact hZZk124 _ (Ckk.wk hAd (hC_113.rck ht))
              have hI4k124 : Ik124 4 = tn (fun k => sg (es (fun j => Z_113 (Rk91 (6 * k + j))) 6 ((Z_113 (ad 227) : Rat) / (Z_113 (ad 228) : Rat)))) nk124 := by rw [hIk124, up_ne _ _ (by decide), up_self]
              have hI5k124 : Ik124 5 = (fun k => sg (es (fun j => Z_113 (Rk91 (6 * k + j))) 6 ((Z_113 (ad 227) : Rat) / (Z_113 (ad 228) : Rat)))) 0 := by rw [hIk124, up_self]
              have B : Wb D vwCl (TY cs) L g124 (AL L s.heap.size) s H _ := B
              have hchk124 := hch_113.keep (I' := Ik124) (A' := As) (R' := Rk124) (Z' := Zk124) (hIok124 3 (by decide) (by decide)) (rfl) (hrwk124)
              refine lv_iload hx hb d_RR_between_127 (lv_at hl 0 rfl) ?_
              refine lv_aload_n hx hb d_RR_between_129 rfl (lv_at hl 1 rfl) ?_
              refine x_get (C := RX6) (T := TX6) (N := 14) hx hb hts inX6 hown (B.foc1 (hCk124.x)) (hAd.f1 (by omega)) 0 rfl rfl 2 (by decide) (hts _ w_199) (fun _ h9 => h9) rfl d_RR_between_130 ?_
              refine x_get (C := RX1) (T := TX1) (N := 7) hx hb hts inX1 hown (B.foc1 (hCk124.ch)) (hAd.f1 (by omega)) 0 rfl rfl 3 (by decide) (hts _ w_57) (fun _ h9 => h9) rfl d_RR_between_133 ?_
              refine x_isub hx hb d_RR_between_136 ?_
              subst hQ hav
              exact x_iret hx hb hr hlocks B d_RR_between_137 (⟨Ik124, As, Rk124, Zk124, hCk124, hfrk124, hInvy.scr (fun i hi => by rw [hIok124 i (by omega) (by omega), hIok91 i (by omega) (by omega)]; exact hIs3 i (by omega)) (fun q hq => hAs1 q (by omega) (by omega)), hsvy.trans ⟨by rw [hIok124 0 (by decide) (by decide), hIok91 0 (by decide) (by decide)]; exact hIs3 0 (by decide), fun p hp => hAs1 _ (by omega) (by omega)⟩, Or.inr (Or.inr ⟨⟨by omega, by omega, by omega⟩, hny, Ay (40 + p0), nmy, ccy, hLy, by rw [hI4k91, hI4k124, hZu_80, hZl_80, hZu_113, hZl_113]; exact congrArg iI (btw_eq hcry.1 hVMy hcry.2.1 hcry.2.2.2.2.1 hcry.2.2.2.2.2.1 hz6y (by omega) (by omega) (by omega) hSsk91 hSsk124 (fun k hk j hj => by show Z_113 (Rk91 (6 * k + j)) = Z_80 (Rs (6 * k + j)); rw [hZ_113, up_ne _ _ (ckk_ne hAd (hCk91.rck (by omega)) (by decide)), up_ne _ _ (ckk_ne hAd (hCk91.rck (by omega)) (by decide))]; exact hrwk91 _ (by omega)))⟩)⟩)
            · refine x_bipush hx hb d_RR_between_56 (by decide) ?_
              subst hQ hav
              exact x_iret hx hb hr hlocks B d_RR_between_58 (by exfalso; omega)
        · refine x_bipush hx hb d_RR_between_44 (by decide) ?_
          subst hQ hav
          exact x_iret hx hb hr hlocks B d_RR_between_46 (⟨If, Af, Rf, Zf, hC, hfr, hInv, ⟨rfl, fun _ _ => rfl⟩, Or.inl ⟨fun hh => by obtain ⟨h1, h2, h3⟩ := hh; omega, rfl⟩⟩)
  · exfalso; omega
