set_option maxHeartbeats 8000000 in
set_option maxRecDepth 100000 in
theorem c_RR_roots_k (l : Launch) (D : va_G) (cs : Nat → ClassId) (L : List Nat) (f : Nat → va_E) (sz : Nat) (ad Qm : Nat → Nat) (If : Nat → Int) (Af : Nat → Nat → Int) (Rf : Nat → Nat) (Zf : Nat → Int) (p0 : Nat) (hAd : AdOk L ad Qm) (hC : CSt cs ad Qm f If Af Rf Zf) (hInv : Inv If Af) (hpk : (p0 : Int) < If 0) : Met l (⟨"RealRoots", "roots", "(I)I"⟩ : MethodName) (.code (⟨"RealRoots", "roots", "(I)I"⟩ : MethodName) prog_1_method_7_code 3 (Option.some Jvm.ClassFile.FieldType.int) :: gw) ({ frames := 7, cells := 0, slots := 0, locals := 340 }) (va_Pc [.ref ((ad 0)), .int (iI ((p0 : Int)))] (K0 D vwCl (TY cs) L f sz)) (va_Qi (fun (r : Int32) (g : Nat → va_E) => ∃ (I' : Nat → Int) (A' : Nat → Nat → Int) (R' : Nat → Nat) (Z' : Nat → Int), CSt cs ad Qm g I' A' R' Z' ∧ (∀ k, Awy ad k → g k = f k) ∧ Inv I' A' ∧ SameV If Af I' A' ∧ (((∀ j, j < 6 → Af (20 + p0) j = 0) ∧ r = iI (-3)) ∨ (Nz (Af (20 + p0)) ∧ ∃ (F : Nat → Int) (nm : Nat) (cc : Nat → Int), Laid (Af (20 + p0)) F (nm : Int) cc ∧ r = iI (nm : Int)))) (K1 D vwCl (TY cs) (AL L sz) L) (AL L sz)) 0 0 (AL L sz) := by
  refine Met.ofW (cc := prog_1_method_7_code) (maxL := 3) (ret := (Option.some Jvm.ClassFile.FieldType.int)) (by decide) rfl ?_
  intro p e s m args below meth c s₁ Bd hml hv
  obtain ⟨rfl, hk0⟩ := hv
  obtain ⟨hsz, B⟩ := hk0.start
  subst hsz
  have hx := Bd.exec
  have hb := Bd.bytes
  have hr := Bd.returns
  have hlocks := Bd.notSynchronized
  have hts0 := atoms_spec Bd.pre
  have hown : s.vm.findClass RX6 = some m.cls := findClass_of_methodNamed Bd.named
  have hA : ∀ q, s.heap.size ≤ q → AL L s.heap.size q := fun _ h => Or.inr h
  have hl := lv_entry ([.ref ((ad 0)), .int (iI ((p0 : Int)))]) (n := 3) (Nat.le_of_ble_eq_true rfl)
  rw [lg_entry_eq]
  generalize (lg_sl ([.ref ((ad 0)), .int (iI ((p0 : Int)))]) ++ List.replicate (3 - (lg_sl ([.ref ((ad 0)), .int (iI ((p0 : Int)))])).length) Slot.unset).toArray = ls at hl ⊢
  refine absQ (fun Q R av hQ hR hav => ?_)
  have hts : ∀ w ∈ gw, w.before av s = true := by rw [hav]; exact fun w h => hts0 w (List.mem_cons_of_mem _ h)
  have hRf : R.frames = 7 := by rw [hR]; rfl
  have hRl : R.locals = 340 := by rw [hR]; rfl
  have hRc : R.cells = 0 := by rw [hR]; rfl
  have hRs : R.slots = 0 := by rw [hR]; rfl
  clear hR hts0 Bd
  have hl : lv_has ls 3 [(0, .ref ((ad 0))), (1, .int (iI ((p0 : Int))))] := hl
  have hfr : ∀ k, Awy ad k → f k = f k := fun _ _ => rfl
  have hG0 := hInv.1
  have hhd := hG0.1
  have hp0 : p0 < 12 := by omega
  have hVM := hG0.2.1 p0 hp0
  refine lv_aload_n hx hb d_RR_roots_0 rfl (lv_at hl 0 rfl) ?_
  refine lv_iload_n hx hb d_RR_roots_1 rfl (lv_at hl 1 rfl) ?_
  refine x_calli B hA (va_runV (As := [.int (iI ((p0 : Int)))]) (rest := []) ⟨hx, hb, hml, hown, hts⟩ (c_RR_unknown l D cs _ _ _ (ad 0) (ad 1) (ad 2) (ad 5) (ad 7) (ad 8) (ad 9) (ad 10) (ad 11) (ad 12) (ad 13) (ad 14) (If 0) (If 1) (If 2) ((p0 : Int)) (hAd.f1 (by decide)) hC.x (hhd) (by omega)) (cwV 1 hts (gw_V w_261 w_263 s_3 w_1 w_264) rfl rfl rfl (by decide +kernel) ⟨by rw [hRf]; exact Nat.le_of_ble_eq_true rfl, by rw [hRl]; exact Nat.le_of_ble_eq_true rfl⟩) ⟨K0.blind, B.recv (hAd.1 _ (by omega)) (hC.x) rfl, B.pre _⟩ rfl rfl hl.1 rfl (lv_room (Nat.le_of_ble_eq_true rfl)) d_RR_roots_2 ⟨by rw [hRc]; omega, by rw [hRs]; omega⟩) (fun r2 g2 H locs hw B => ?_)
  obtain ⟨rfl, hgf⟩ := hw
  rw [hgf] at B
  rw [if_neg (by omega)]
  refine x_if_eq (tgt := 10) hx hb d_RR_roots_5 (by decide) (by omega) (fun h5 => ?_) (fun h5 => ?_)
  · refine lv_aload_n hx hb d_RR_roots_10 rfl (lv_at hl 0 rfl) ?_
    refine lv_iload_n hx hb d_RR_roots_11 rfl (lv_at hl 1 rfl) ?_
    refine x_calli B hA (va_runV (As := [.int (iI ((p0 : Int)))]) (rest := []) ⟨hx, hb, hml, hown, hts⟩ (c_RR_ready l D cs _ _ _ ad Qm If Af Rf Zf p0 hAd hC hInv.1 (hpk)) (cwV 1 hts (gw_V w_370 w_372 s_14 w_1 w_373) rfl rfl rfl (by decide +kernel) ⟨by rw [hRf]; exact Nat.le_of_ble_eq_true rfl, by rw [hRl]; exact Nat.le_of_ble_eq_true rfl⟩) ⟨K0.blind, B.recv (hAd.1 _ (by omega)) (hC.x) rfl, B.pre _⟩ rfl rfl hl.1 rfl (lv_room (Nat.le_of_ble_eq_true rfl)) d_RR_roots_12 ⟨by rw [hRc]; omega, by rw [hRs]; omega⟩) (fun r12 g12 H locs hw B => ?_)
    obtain ⟨Iy, Ay, Ry, Zy, hCy, hqy, hGyy, hOyy, hryy, hsyy⟩ := hw
    have hfry : ∀ k, Awy ad k → g12 k = f k := fun k hk => (hqy k hk).trans (hfr k hk)
    have B : Wb D vwCl (TY cs) L g12 (AL L s.heap.size) s H _ := B
    have hInvy := hInv.rdy (by omega) (hpk) hGyy hOyy hsyy
    have hsvy := hOyy.sv (by omega)
    rcases hryy with ⟨hzy, rfl⟩ | ⟨hny, hsty, rfl⟩
    · refine lv_istore_n (lv' := [(2, .int (iI (-1))), (0, .ref ((ad 0))), (1, .int (iI ((p0 : Int))))]) hx hb d_RR_roots_15 rfl hl (by decide) rfl (fun ls hl => ?_)
      refine lv_iload_n hx hb d_RR_roots_16 rfl (lv_at hl 0 rfl) ?_
      refine x_iconst hx hb d_RR_roots_17 ?_
      refine x_icmp_ne (tgt := 26) hx hb d_RR_roots_18 (by decide) (by omega) (by omega) (fun h18 => ?_) (fun h18 => ?_)
      · exfalso; omega
      · refine x_bipush hx hb d_RR_roots_21 (by decide) ?_
        refine lv_goto (tgt := 27) hx hb d_RR_roots_23 (by decide) ?_
        subst hQ hav
        exact x_iret hx hb hr hlocks B d_RR_roots_27 (⟨Iy, Ay, Ry, Zy, hCy, hfry, hInvy, hsvy, Or.inl ⟨hzy, rfl⟩⟩)
    · obtain ⟨nmy, Ny, dpy, vy, hcry⟩ : ∃ nm N dp v, Crv Iy Ay p0 nm N dp v := by rcases hGyy.2.2 p0 (by omega) with h | ⟨_, h⟩; omega; exact h.crv
      have hVMy := hGyy.2.1 p0 (by omega)
      have hAVy := hsvy.2 p0 (by omega)
      obtain ⟨ccy, hLy, hz6y⟩ := free_laid hcry.1 hVMy hcry.2.1 hcry.2.2.2.2.1 hcry.2.2.2.2.2.1
      rw [hAVy] at hLy
      rw [hcry.2.2.1]
      have hnm5y := hcry.2.2.2.1
      refine lv_istore_n (lv' := [(2, .int (iI ((nmy : Int)))), (0, .ref ((ad 0))), (1, .int (iI ((p0 : Int))))]) hx hb d_RR_roots_15 rfl hl (by decide) rfl (fun ls hl => ?_)
      refine lv_iload_n hx hb d_RR_roots_16 rfl (lv_at hl 0 rfl) ?_
      refine x_iconst hx hb d_RR_roots_17 ?_
      refine x_icmp_ne (tgt := 26) hx hb d_RR_roots_18 (by decide) (by omega) (by omega) (fun h18 => ?_) (fun h18 => ?_)
      · refine lv_iload_n hx hb d_RR_roots_26 rfl (lv_at hl 0 rfl) ?_
        subst hQ hav
        exact x_iret hx hb hr hlocks B d_RR_roots_27 (⟨Iy, Ay, Ry, Zy, hCy, hfry, hInvy, hsvy, Or.inr ⟨hny, Ay (40 + p0), nmy, ccy, hLy, rfl⟩⟩)
      · refine x_bipush hx hb d_RR_roots_21 (by decide) ?_
        refine lv_goto (tgt := 27) hx hb d_RR_roots_23 (by decide) ?_
        subst hQ hav
        exact x_iret hx hb hr hlocks B d_RR_roots_27 (by exfalso; omega)
  · exfalso; omega
set_option maxHeartbeats 8000000 in
set_option maxRecDepth 100000 in
theorem c_RR_row_k (l : Launch) (D : va_G) (cs : Nat → ClassId) (L : List Nat) (f : Nat → va_E) (sz : Nat) (ad Qm : Nat → Nat) (If : Nat → Int) (Af : Nat → Nat → Int) (Rf : Nat → Nat) (Zf : Nat → Int) (p0 : Nat) (hAd : AdOk L ad Qm) (hC : CSt cs ad Qm f If Af Rf Zf) (hInv : Inv If Af) (hpk : (p0 : Int) < If 0) : Met l (⟨"RealRoots", "row", "(I)I"⟩ : MethodName) (.code (⟨"RealRoots", "row", "(I)I"⟩ : MethodName) prog_1_method_16_code 2 (Option.some Jvm.ClassFile.FieldType.int) :: gw) ({ frames := 6, cells := 0, slots := 0, locals := 300 }) (va_Pc [.ref ((ad 0)), .int (iI ((p0 : Int)))] (K0 D vwCl (TY cs) L f sz)) (va_Qi (fun (r : Int32) (g : Nat → va_E) => ∃ (I' : Nat → Int) (A' : Nat → Nat → Int) (R' : Nat → Nat) (Z' : Nat → Int), CSt cs ad Qm g I' A' R' Z' ∧ (∀ k, Awy ad k → g k = f k) ∧ Inv I' A' ∧ SameV If Af I' A' ∧ (((∀ j, j < 6 → Af (20 + p0) j = 0) ∧ r = iI (-3)) ∨ (Nz (Af (20 + p0)) ∧ ∃ (rr : Nat → Nat → Int) (n : Nat), Sseq (Af (20 + p0)) rr n ∧ r = iI (n : Int)))) (K1 D vwCl (TY cs) (AL L sz) L) (AL L sz)) 0 0 (AL L sz) := by
  refine Met.ofW (cc := prog_1_method_16_code) (maxL := 2) (ret := (Option.some Jvm.ClassFile.FieldType.int)) (by decide) rfl ?_
  intro p e s m args below meth c s₁ Bd hml hv
  obtain ⟨rfl, hk0⟩ := hv
  obtain ⟨hsz, B⟩ := hk0.start
  subst hsz
  have hx := Bd.exec
  have hb := Bd.bytes
  have hr := Bd.returns
  have hlocks := Bd.notSynchronized
  have hts0 := atoms_spec Bd.pre
  have hown : s.vm.findClass RX6 = some m.cls := findClass_of_methodNamed Bd.named
  have hA : ∀ q, s.heap.size ≤ q → AL L s.heap.size q := fun _ h => Or.inr h
  have hl := lv_entry ([.ref ((ad 0)), .int (iI ((p0 : Int)))]) (n := 2) (Nat.le_of_ble_eq_true rfl)
  rw [lg_entry_eq]
  generalize (lg_sl ([.ref ((ad 0)), .int (iI ((p0 : Int)))]) ++ List.replicate (2 - (lg_sl ([.ref ((ad 0)), .int (iI ((p0 : Int)))])).length) Slot.unset).toArray = ls at hl ⊢
  refine absQ (fun Q R av hQ hR hav => ?_)
  have hts : ∀ w ∈ gw, w.before av s = true := by rw [hav]; exact fun w h => hts0 w (List.mem_cons_of_mem _ h)
  have hRf : R.frames = 6 := by rw [hR]; rfl
  have hRl : R.locals = 300 := by rw [hR]; rfl
  have hRc : R.cells = 0 := by rw [hR]; rfl
  have hRs : R.slots = 0 := by rw [hR]; rfl
  clear hR hts0 Bd
  have hl : lv_has ls 2 [(0, .ref ((ad 0))), (1, .int (iI ((p0 : Int))))] := hl
  have hfr : ∀ k, Awy ad k → f k = f k := fun _ _ => rfl
  have hG0 := hInv.1
  have hhd := hG0.1
  have hp0 : p0 < 12 := by omega
  have hVM := hG0.2.1 p0 hp0
  refine lv_aload_n hx hb d_RR_row_0 rfl (lv_at hl 0 rfl) ?_
  refine lv_iload_n hx hb d_RR_row_1 rfl (lv_at hl 1 rfl) ?_
  refine x_calli B hA (va_runV (As := [.int (iI ((p0 : Int)))]) (rest := []) ⟨hx, hb, hml, hown, hts⟩ (c_RR_unknown l D cs _ _ _ (ad 0) (ad 1) (ad 2) (ad 5) (ad 7) (ad 8) (ad 9) (ad 10) (ad 11) (ad 12) (ad 13) (ad 14) (If 0) (If 1) (If 2) ((p0 : Int)) (hAd.f1 (by decide)) hC.x (hhd) (by omega)) (cwV 1 hts (gw_V w_261 w_263 s_3 w_1 w_264) rfl rfl rfl (by decide +kernel) ⟨by rw [hRf]; exact Nat.le_of_ble_eq_true rfl, by rw [hRl]; exact Nat.le_of_ble_eq_true rfl⟩) ⟨K0.blind, B.recv (hAd.1 _ (by omega)) (hC.x) rfl, B.pre _⟩ rfl rfl hl.1 rfl (lv_room (Nat.le_of_ble_eq_true rfl)) d_RR_row_2 ⟨by rw [hRc]; omega, by rw [hRs]; omega⟩) (fun r2 g2 H locs hw B => ?_)
  obtain ⟨rfl, hgf⟩ := hw
  rw [hgf] at B
  rw [if_neg (by omega)]
  refine x_if_eq (tgt := 10) hx hb d_RR_row_5 (by decide) (by omega) (fun h5 => ?_) (fun h5 => ?_)
  · refine lv_aload_n hx hb d_RR_row_10 rfl (lv_at hl 0 rfl) ?_
    refine x_get (C := RX6) (T := TX6) (N := 14) hx hb hts inX6 hown (B.foc1 (hC.x)) (hAd.f1 (by omega)) 0 rfl rfl 0 (by decide) (hts _ w_197) (fun _ h9 => h9) rfl d_RR_row_11 ?_
    refine lv_iload_n hx hb d_RR_row_14 rfl (lv_at hl 1 rfl) ?_
    refine x_aald hx hb (B.foc1 (hC.c0)) (hAd.f1 (by omega)) 0 4 rfl rfl p0 (by omega) (by omega) (by decide) (rfs_at (by omega)) d_RR_row_15 ?_
    refine x_get (C := RX2) (T := TX2) (N := 5) hx hb hts inX2 hown (B.foc1 (hC.cu (p := p0) (by omega))) (hAd.f1 (by omega)) 0 rfl rfl 0 (by decide) (hts _ w_177) (fun _ h9 => h9) rfl d_RR_row_16 ?_
    refine x_calli B hA (va_runS (As := [.ref ((ad (27 + p0)))]) (rest := []) ⟨hx, hb, hml, hown, hts⟩ (c_RR_topOf l D cs _ _ _ (ad (27 + p0)) (Af (20 + p0)) (hAd.f1 (by have := ((Ar.va hp0)).lt; omega)) (hC.ar (Ar.va hp0)) (fun j hj => by have := hVM j hj; omega)) (va_cwS 1 hts (gw_S w_273 w_274 w_1 w_275) rfl rfl rfl (by decide +kernel) ⟨by rw [hRf]; exact Nat.le_of_ble_eq_true rfl, by rw [hRl]; exact Nat.le_of_ble_eq_true rfl⟩) ⟨K0.blind, B.pre _⟩ rfl rfl hl.1 rfl (lv_room (Nat.le_of_ble_eq_true rfl)) d_RR_row_19 ⟨by rw [hRc]; omega, by rw [hRs]; omega⟩) (fun r19 g19 H locs hw B => ?_)
    obtain ⟨kt, rfl, hkt6, hktz, hktl, hgf⟩ := hw
    rw [hgf] at B
    refine x_iconst hx hb d_RR_row_22 ?_
    refine x_icmp_ne (tgt := 29) hx hb d_RR_row_23 (by decide) (by omega) (by omega) (fun h23 => ?_) (fun h23 => ?_)
    · have hVN : Nz (Af (20 + p0)) := by rcases Nat.eq_zero_or_pos kt with h | h; omega; exact ⟨kt - 1, by omega, hktl h⟩
      refine lv_aload_n hx hb d_RR_row_29 rfl (lv_at hl 0 rfl) ?_
      refine lv_aload_n hx hb d_RR_row_30 rfl (lv_at hl 0 rfl) ?_
      refine x_get (C := RX6) (T := TX6) (N := 14) hx hb hts inX6 hown (B.foc1 (hC.x)) (hAd.f1 (by omega)) 0 rfl rfl 0 (by decide) (hts _ w_197) (fun _ h9 => h9) rfl d_RR_row_31 ?_
      refine lv_iload_n hx hb d_RR_row_34 rfl (lv_at hl 1 rfl) ?_
      refine x_aald hx hb (B.foc1 (hC.c0)) (hAd.f1 (by omega)) 0 4 rfl rfl p0 (by omega) (by omega) (by decide) (rfs_at (by omega)) d_RR_row_35 ?_
      refine x_get (C := RX2) (T := TX2) (N := 5) hx hb hts inX2 hown (B.foc1 (hC.cu (p := p0) (by omega))) (hAd.f1 (by omega)) 0 rfl rfl 0 (by decide) (hts _ w_177) (fun _ h9 => h9) rfl d_RR_row_36 ?_
      refine x_callv B hA (va_runV (As := [.ref ((ad (27 + p0)))]) (rest := []) ⟨hx, hb, hml, hown, hts⟩ (c_RR_signRow l D cs _ _ _ ad Qm If Af Rf Zf (27 + p0) (20 + p0) hAd hC (Ar.va hp0) (by omega) (fun j hj => by have := hVM j hj; omega) hVN) (cwV 1 hts (gw_V w_374 w_376 s_15 w_1 w_377) rfl rfl rfl (by decide +kernel) ⟨by rw [hRf]; exact Nat.le_of_ble_eq_true rfl, by rw [hRl]; exact Nat.le_of_ble_eq_true rfl⟩) ⟨K0.blind, B.recv (hAd.1 _ (by omega)) (hC.x) rfl, B.pre _⟩ rfl rfl hl.1 rfl (lv_room (Nat.le_of_ble_eq_true rfl)) d_RR_row_39 ⟨by rw [hRc]; omega, by rw [hRs]; omega⟩) (fun g39 H locs hw B => ?_)
      obtain ⟨Is, As, Rs, Zs, hCs, hqs, hchs, hIs3, hAs1⟩ := hw
      have hfrs : ∀ k, Awy ad k → g39 k = f k := fun k hk => (hqs k hk).trans (hfr k hk)
      have B : Wb D vwCl (TY cs) L g39 (AL L s.heap.size) s H _ := B
      have hInvs : Inv Is As := hInv.scr (fun i hi => hIs3 i (by omega)) (fun q hq => hAs1 q (by omega) (by omega))
      have hsvs : SameV If Af Is As := ⟨hIs3 0 (by decide), fun p hp => hAs1 _ (by omega) (by omega)⟩
      refine lv_aload_n hx hb d_RR_row_42 rfl (lv_at hl 0 rfl) ?_
      refine x_get (C := RX6) (T := TX6) (N := 14) hx hb hts inX6 hown (B.foc1 (hCs.x)) (hAd.f1 (by omega)) 0 rfl rfl 2 (by decide) (hts _ w_199) (fun _ h9 => h9) rfl d_RR_row_43 ?_
      refine x_get (C := RX1) (T := TX1) (N := 7) hx hb hts inX1 hown (B.foc1 (hCs.ch)) (hAd.f1 (by omega)) 0 rfl rfl 2 (by decide) (hts _ w_55) (fun _ h9 => h9) rfl d_RR_row_46 ?_
      obtain ⟨nr, hnr, hSr, _, _⟩ := hchs
      rw [hnr]
      subst hQ hav
      exact x_iret hx hb hr hlocks B d_RR_row_49 (⟨Is, As, Rs, Zs, hCs, hfrs, hInvs, hsvs, Or.inr ⟨hVN, _, nr, hSr, rfl⟩⟩)
    · refine x_bipush hx hb d_RR_row_26 (by decide) ?_
      subst hQ hav
      exact x_iret hx hb hr hlocks B d_RR_row_28 (⟨If, Af, Rf, Zf, hC, hfr, hInv, ⟨rfl, fun _ _ => rfl⟩, Or.inl ⟨fun j hj => hktz j (by omega) hj, rfl⟩⟩)
  · exfalso; omega
set_option maxHeartbeats 8000000 in
set_option maxRecDepth 100000 in
theorem c_RR_changes_k (l : Launch) (D : va_G) (cs : Nat → ClassId) (L : List Nat) (f : Nat → va_E) (sz : Nat) (ad Qm : Nat → Nat) (If : Nat → Int) (Af : Nat → Nat → Int) (Rf : Nat → Nat) (Zf : Nat → Int) (p0 : Nat) (a2 a3 : Int) (hAd : AdOk L ad Qm) (hC : CSt cs ad Qm f If Af Rf Zf) (hInv : Inv If Af) (hpk : (p0 : Int) < If 0) (ha2 : -2147483648 ≤ a2 ∧ a2 < 2147483648) (ha3 : -2147483648 ≤ a3 ∧ a3 < 2147483648) : Met l (⟨"RealRoots", "changes", "(III)I"⟩ : MethodName) (.code (⟨"RealRoots", "changes", "(III)I"⟩ : MethodName) prog_1_method_15_code 4 (Option.some Jvm.ClassFile.FieldType.int) :: gw) ({ frames := 6, cells := 0, slots := 0, locals := 300 }) (va_Pc [.ref ((ad 0)), .int (iI ((p0 : Int))), .int (iI a2), .int (iI a3)] (K0 D vwCl (TY cs) L f sz)) (va_Qi (fun (r : Int32) (g : Nat → va_E) => ∃ (I' : Nat → Int) (A' : Nat → Nat → Int) (R' : Nat → Nat) (Z' : Nat → Int), CSt cs ad Qm g I' A' R' Z' ∧ (∀ k, Awy ad k → g k = f k) ∧ Inv I' A' ∧ SameV If Af I' A' ∧ ((¬ ((-1000000 ≤ a2 ∧ a2 ≤ 1000000) ∧ 1 ≤ a3 ∧ a3 ≤ 1000000) ∧ r = iI (-2)) ∨ (((-1000000 ≤ a2 ∧ a2 ≤ 1000000) ∧ 1 ≤ a3 ∧ a3 ≤ 1000000) ∧ (∀ j, j < 6 → Af (20 + p0) j = 0) ∧ r = iI (-3)) ∨ (((-1000000 ≤ a2 ∧ a2 ≤ 1000000) ∧ 1 ≤ a3 ∧ a3 ≤ 1000000) ∧ Nz (Af (20 + p0)) ∧ ∃ (rr : Nat → Nat → Int) (n : Nat), Sseq (Af (20 + p0)) rr n ∧ r = iI (tn (fun k => sg (es (rr k) 6 ((a2 : Rat) / (a3 : Rat)))) n)))) (K1 D vwCl (TY cs) (AL L sz) L) (AL L sz)) 0 0 (AL L sz) := by
  refine Met.ofW (cc := prog_1_method_15_code) (maxL := 4) (ret := (Option.some Jvm.ClassFile.FieldType.int)) (by decide) rfl ?_
  intro p e s m args below meth c s₁ Bd hml hv
  obtain ⟨rfl, hk0⟩ := hv
  obtain ⟨hsz, B⟩ := hk0.start
  subst hsz
  have hx := Bd.exec
  have hb := Bd.bytes
  have hr := Bd.returns
  have hlocks := Bd.notSynchronized
  have hts0 := atoms_spec Bd.pre
  have hown : s.vm.findClass RX6 = some m.cls := findClass_of_methodNamed Bd.named
  have hA : ∀ q, s.heap.size ≤ q → AL L s.heap.size q := fun _ h => Or.inr h
  have hl := lv_entry ([.ref ((ad 0)), .int (iI ((p0 : Int))), .int (iI a2), .int (iI a3)]) (n := 4) (Nat.le_of_ble_eq_true rfl)
  rw [lg_entry_eq]
  generalize (lg_sl ([.ref ((ad 0)), .int (iI ((p0 : Int))), .int (iI a2), .int (iI a3)]) ++ List.replicate (4 - (lg_sl ([.ref ((ad 0)), .int (iI ((p0 : Int))), .int (iI a2), .int (iI a3)])).length) Slot.unset).toArray = ls at hl ⊢
  refine absQ (fun Q R av hQ hR hav => ?_)
  have hts : ∀ w ∈ gw, w.before av s = true := by rw [hav]; exact fun w h => hts0 w (List.mem_cons_of_mem _ h)
  have hRf : R.frames = 6 := by rw [hR]; rfl
  have hRl : R.locals = 300 := by rw [hR]; rfl
  have hRc : R.cells = 0 := by rw [hR]; rfl
  have hRs : R.slots = 0 := by rw [hR]; rfl
  clear hR hts0 Bd
  have hl : lv_has ls 4 [(0, .ref ((ad 0))), (1, .int (iI ((p0 : Int)))), (2, .int (iI a2)), (3, .int (iI a3))] := hl
  have hfr : ∀ k, Awy ad k → f k = f k := fun _ _ => rfl
  have hG0 := hInv.1
  have hhd := hG0.1
  have hp0 : p0 < 12 := by omega
  have hVM := hG0.2.1 p0 hp0
  refine lv_aload_n hx hb d_RR_changes_0 rfl (lv_at hl 0 rfl) ?_
  refine lv_iload_n hx hb d_RR_changes_1 rfl (lv_at hl 1 rfl) ?_
  refine x_calli B hA (va_runV (As := [.int (iI ((p0 : Int)))]) (rest := []) ⟨hx, hb, hml, hown, hts⟩ (c_RR_unknown l D cs _ _ _ (ad 0) (ad 1) (ad 2) (ad 5) (ad 7) (ad 8) (ad 9) (ad 10) (ad 11) (ad 12) (ad 13) (ad 14) (If 0) (If 1) (If 2) ((p0 : Int)) (hAd.f1 (by decide)) hC.x (hhd) (by omega)) (cwV 1 hts (gw_V w_261 w_263 s_3 w_1 w_264) rfl rfl rfl (by decide +kernel) ⟨by rw [hRf]; exact Nat.le_of_ble_eq_true rfl, by rw [hRl]; exact Nat.le_of_ble_eq_true rfl⟩) ⟨K0.blind, B.recv (hAd.1 _ (by omega)) (hC.x) rfl, B.pre _⟩ rfl rfl hl.1 rfl (lv_room (Nat.le_of_ble_eq_true rfl)) d_RR_changes_2 ⟨by rw [hRc]; omega, by rw [hRs]; omega⟩) (fun r2 g2 H locs hw B => ?_)
  obtain ⟨rfl, hgf⟩ := hw
  rw [hgf] at B
  rw [if_neg (by omega)]
  refine x_if_eq (tgt := 10) hx hb d_RR_changes_5 (by decide) (by omega) (fun h5 => ?_) (fun h5 => ?_)
  · refine lv_iload_n hx hb d_RR_changes_10 rfl (lv_at hl 2 rfl) ?_
    refine lv_iload_n hx hb d_RR_changes_11 rfl (lv_at hl 3 rfl) ?_
    refine x_calli B hA (va_runS (As := [.int (iI a2), .int (iI a3)]) (rest := []) ⟨hx, hb, hml, hown, hts⟩ (c_RR_outside l D cs _ _ _ a2 a3 (by omega) (by omega)) (va_cwS 2 hts (gw_S w_544 w_545 w_1 w_546) rfl rfl rfl (by decide +kernel) ⟨by rw [hRf]; exact Nat.le_of_ble_eq_true rfl, by rw [hRl]; exact Nat.le_of_ble_eq_true rfl⟩) ⟨K0.blind, B.pre _⟩ rfl rfl hl.1 rfl (lv_room (Nat.le_of_ble_eq_true rfl)) d_RR_changes_12 ⟨by rw [hRc]; omega, by rw [hRs]; omega⟩) (fun r12 g12 H locs hw B => ?_)
    obtain ⟨rfl, hgf⟩ := hw
    rw [hgf] at B
    obtain ⟨ou12, hou12⟩ : ∃ ou12 : Int, ou12 = if a2 < -1000000 ∨ 1000000 < a2 ∨ a3 < 1 ∨ 1000000 < a3 then 1 else 0 := ⟨_, rfl⟩
    rw [← hou12]
    have hou12c : (ou12 = 1 ∧ (a2 < -1000000 ∨ 1000000 < a2 ∨ a3 < 1 ∨ 1000000 < a3)) ∨ (ou12 = 0 ∧ ¬ (a2 < -1000000 ∨ 1000000 < a2 ∨ a3 < 1 ∨ 1000000 < a3)) := by rw [hou12]; split; exact Or.inl ⟨rfl, by assumption⟩; exact Or.inr ⟨rfl, by assumption⟩
    refine x_if_eq (tgt := 21) hx hb d_RR_changes_15 (by decide) (by omega) (fun h15 => ?_) (fun h15 => ?_)
    · refine lv_aload_n hx hb d_RR_changes_21 rfl (lv_at hl 0 rfl) ?_
      refine x_get (C := RX6) (T := TX6) (N := 14) hx hb hts inX6 hown (B.foc1 (hC.x)) (hAd.f1 (by omega)) 0 rfl rfl 0 (by decide) (hts _ w_197) (fun _ h9 => h9) rfl d_RR_changes_22 ?_
      refine lv_iload_n hx hb d_RR_changes_25 rfl (lv_at hl 1 rfl) ?_
      refine x_aald hx hb (B.foc1 (hC.c0)) (hAd.f1 (by omega)) 0 4 rfl rfl p0 (by omega) (by omega) (by decide) (rfs_at (by omega)) d_RR_changes_26 ?_
      refine x_get (C := RX2) (T := TX2) (N := 5) hx hb hts inX2 hown (B.foc1 (hC.cu (p := p0) (by omega))) (hAd.f1 (by omega)) 0 rfl rfl 0 (by decide) (hts _ w_177) (fun _ h9 => h9) rfl d_RR_changes_27 ?_
      refine x_calli B hA (va_runS (As := [.ref ((ad (27 + p0)))]) (rest := []) ⟨hx, hb, hml, hown, hts⟩ (c_RR_topOf l D cs _ _ _ (ad (27 + p0)) (Af (20 + p0)) (hAd.f1 (by have := ((Ar.va hp0)).lt; omega)) (hC.ar (Ar.va hp0)) (fun j hj => by have := hVM j hj; omega)) (va_cwS 1 hts (gw_S w_273 w_274 w_1 w_275) rfl rfl rfl (by decide +kernel) ⟨by rw [hRf]; exact Nat.le_of_ble_eq_true rfl, by rw [hRl]; exact Nat.le_of_ble_eq_true rfl⟩) ⟨K0.blind, B.pre _⟩ rfl rfl hl.1 rfl (lv_room (Nat.le_of_ble_eq_true rfl)) d_RR_changes_30 ⟨by rw [hRc]; omega, by rw [hRs]; omega⟩) (fun r30 g30 H locs hw B => ?_)
      obtain ⟨kt, rfl, hkt6, hktz, hktl, hgf⟩ := hw
      rw [hgf] at B
      refine x_iconst hx hb d_RR_changes_33 ?_
      refine x_icmp_ne (tgt := 40) hx hb d_RR_changes_34 (by decide) (by omega) (by omega) (fun h34 => ?_) (fun h34 => ?_)
      · have hVN : Nz (Af (20 + p0)) := by rcases Nat.eq_zero_or_pos kt with h | h; omega; exact ⟨kt - 1, by omega, hktl h⟩
        refine lv_aload_n hx hb d_RR_changes_40 rfl (lv_at hl 0 rfl) ?_
        refine lv_aload_n hx hb d_RR_changes_41 rfl (lv_at hl 0 rfl) ?_
        refine x_get (C := RX6) (T := TX6) (N := 14) hx hb hts inX6 hown (B.foc1 (hC.x)) (hAd.f1 (by omega)) 0 rfl rfl 0 (by decide) (hts _ w_197) (fun _ h9 => h9) rfl d_RR_changes_42 ?_
        refine lv_iload_n hx hb d_RR_changes_45 rfl (lv_at hl 1 rfl) ?_
        refine x_aald hx hb (B.foc1 (hC.c0)) (hAd.f1 (by omega)) 0 4 rfl rfl p0 (by omega) (by omega) (by decide) (rfs_at (by omega)) d_RR_changes_46 ?_
        refine x_get (C := RX2) (T := TX2) (N := 5) hx hb hts inX2 hown (B.foc1 (hC.cu (p := p0) (by omega))) (hAd.f1 (by omega)) 0 rfl rfl 0 (by decide) (hts _ w_177) (fun _ h9 => h9) rfl d_RR_changes_47 ?_
        refine x_callv B hA (va_runV (As := [.ref ((ad (27 + p0)))]) (rest := []) ⟨hx, hb, hml, hown, hts⟩ (c_RR_signRow l D cs _ _ _ ad Qm If Af Rf Zf (27 + p0) (20 + p0) hAd hC (Ar.va hp0) (by omega) (fun j hj => by have := hVM j hj; omega) hVN) (cwV 1 hts (gw_V w_374 w_376 s_15 w_1 w_377) rfl rfl rfl (by decide +kernel) ⟨by rw [hRf]; exact Nat.le_of_ble_eq_true rfl, by rw [hRl]; exact Nat.le_of_ble_eq_true rfl⟩) ⟨K0.blind, B.recv (hAd.1 _ (by omega)) (hC.x) rfl, B.pre _⟩ rfl rfl hl.1 rfl (lv_room (Nat.le_of_ble_eq_true rfl)) d_RR_changes_50 ⟨by rw [hRc]; omega, by rw [hRs]; omega⟩) (fun g50 H locs hw B => ?_)
        obtain ⟨Is, As, Rs, Zs, hCs, hqs, hchs, hIs3, hAs1⟩ := hw
        have hfrs : ∀ k, Awy ad k → g50 k = f k := fun k hk => (hqs k hk).trans (hfr k hk)
        have B : Wb D vwCl (TY cs) L g50 (AL L s.heap.size) s H _ := B
        have hch0 : ChF (Af (20 + p0)) Is As Rs Zs := hchs
        refine lv_aload_n hx hb d_RR_changes_53 rfl (lv_at hl 0 rfl) ?_
        refine x_get (C := RX6) (T := TX6) (N := 14) hx hb hts inX6 hown (B.foc1 (hCs.x)) (hAd.f1 (by omega)) 0 rfl rfl 3 (by decide) (hts _ w_200) (fun _ h9 => h9) rfl d_RR_changes_54 ?_
        refine lv_iload_n hx hb d_RR_changes_57 rfl (lv_at hl 2 rfl) ?_
        refine x_i2l hx hb d_RR_changes_58 (by omega) ?_
        refine lv_iload_n hx hb d_RR_changes_59 rfl (lv_at hl 3 rfl) ?_
        refine x_i2l hx hb d_RR_changes_60 (by omega) ?_
        obtain ⟨sdn610, nnn610, lmn610, c1n610, c2n610, c3n610⟩ := hCs.2.2.1 (ad 227) (Bg.pl (by decide))
        obtain ⟨sdn611, nnn611, lmn611, c1n611, c2n611, c3n611⟩ := hCs.2.2.1 (ad 228) (Bg.pl (by decide))
        have hqan61 : Qm (ad 227) = ad 288 := hAd.2.2 44 (by decide)
        have hqbn61 : Qm (ad 228) = ad 289 := hAd.2.2 45 (by decide)
        refine x_callv B hA (va_runV (As := [.long (lI a2), .long (lI a3)]) (rest := []) ⟨hx, hb, hml, hown, hts⟩ (c_Spot_number l D cs _ _ _ (ad 5) (ad 227) (ad 228) (ad 6) (Rs 52) (Rs 53) (Rs 54) (Rs 55) (Qm (ad 227)) (Qm (ad 228)) (Is 6) sdn610 sdn611 nnn610 nnn611 lmn610 lmn611 a2 a3 (by rw [hqan61, hqbn61]; exact hAd.fc [5, 227, 288, 228, 289] (by decide) (by decide)) hCs.sp c1n610 c2n610 c1n611 c2n611 (by omega) (by omega)) (cwV 2 hts (gw_V w_401 w_402 w_403 w_4 w_404) rfl rfl rfl (by decide +kernel) ⟨by rw [hRf]; exact Nat.le_of_ble_eq_true rfl, by rw [hRl]; exact Nat.le_of_ble_eq_true rfl⟩) ⟨K0.blind, B.recv (hAd.1 _ (by omega)) (hCs.sp) rfl, B.pre _⟩ rfl rfl hl.1 rfl (lv_room (Nat.le_of_ble_eq_true rfl)) d_RR_changes_61 ⟨by rw [hRc]; omega, by rw [hRs]; omega⟩) (fun g61 H locs hw B => ?_)
        obtain ⟨s1_61, n1_61, l1_61, s2_61, n2_61, l2_61, hz1_61, hz2_61, hg_61⟩ := hw
        obtain ⟨hC_61, hq_61⟩ := CSt.number hAd hCs hz1_61 hz2_61 hg_61
        obtain ⟨Z_61, hZ_61⟩ : ∃ Z_61, Z_61 = up (up Zs (ad 228) a3) (ad 227) a2 := ⟨_, rfl⟩
        rw [← hZ_61] at hC_61
        have hfr_61 : ∀ k, Awy ad k → g61 k = f k := fun k hk => (hq_61 k hk).trans (hfrs k hk)
        have hZu_61 : Z_61 (ad 227) = a2 := by rw [hZ_61, up_self]
        have hZl_61 : Z_61 (ad 228) = a3 := by rw [hZ_61, up_ne _ _ (hAd.ne (by decide) (by decide) (by decide)), up_self]
        have B : Wb D vwCl (TY cs) L g61 (AL L s.heap.size) s H _ := B
        have hch_61 := hch0.keep (I' := Is) (A' := As) (R' := Rs) (Z' := Z_61) (rfl) (rfl) (fun t ht => by rw [hZ_61, up_ne _ _ (ckk_ne hAd (hCs.rck ht) (by decide)), up_ne _ _ (ckk_ne hAd (hCs.rck ht) (by decide))])
        refine lv_aload_n hx hb d_RR_changes_64 rfl (lv_at hl 0 rfl) ?_
        refine x_get (C := RX6) (T := TX6) (N := 14) hx hb hts inX6 hown (B.foc1 (hC_61.x)) (hAd.f1 (by omega)) 0 rfl rfl 2 (by decide) (hts _ w_199) (fun _ h9 => h9) rfl d_RR_changes_65 ?_
        refine lv_aload_n hx hb d_RR_changes_68 rfl (lv_at hl 0 rfl) ?_
        refine x_get (C := RX6) (T := TX6) (N := 14) hx hb hts inX6 hown (B.foc1 (hC_61.x)) (hAd.f1 (by omega)) 0 rfl rfl 3 (by decide) (hts _ w_200) (fun _ h9 => h9) rfl d_RR_changes_69 ?_
        obtain ⟨Gk72, hG1k72, hG2k72⟩ := hC_61.2.1
        have hcxk72 := hch_61
        obtain ⟨nk72, hI3k72, hSsk72, hTpk72, hBtk72⟩ := hcxk72
        have hn6k72 := hSsk72.2.1
        refine x_callv B hA (va_runV (As := [.ref ((ad 5))]) (rest := []) ⟨hx, hb, hml, hown, hts⟩ (c_Chain_look l D cs _ _ _ (ad 2) (ad 3) (ad 4) (Rs 42) (ad 226) nk72 (Is 4) (Is 5) (As 7) (fun k => (As 7 k).toNat) Gk72 Rs (ad 5) (ad 227) (ad 228) (ad 6) (Rs 52) (Rs 53) (Rs 54) (Rs 55) (Is 6) (Wkk ad) (Bg ad) Qm Z_61 (hAd.fc [2, 3, 4, 5] (by simp only [List.nodup_cons, List.mem_cons, List.not_mem_nil, or_false, not_or, List.nodup_nil, and_true, not_false_eq_true]; omega) (by intro q hq; simp only [List.mem_cons, List.not_mem_nil, or_false] at hq; omega)) (by rw [← hI3k72]; exact hC_61.ch) hG2k72 hC_61.tq ⟨hSsk72.1, hSsk72.2.1⟩ (fun k hk => (tops_dg hTpk72 k hk).1) hG1k72 (fun t ht => (hC_61.rck ht).bg) (fun k hk => (tops_dg hTpk72 k hk).2) hC_61.sp hAd.sp hC_61.2.2.1 (hAd.outs [2, 3, 4, 5] (by intro q hq; simp only [List.mem_cons, List.not_mem_nil, or_false] at hq; omega)) (fun b hb => Wkk.bg hb) hC_61.2.2.2.2.1 hC_61.2.2.2.2.2 (Bg.pl (by decide)) (Bg.pl (by decide)) (Wkk.not hAd (by decide) (by decide)) (Wkk.not hAd (by decide) (by decide)) (fun t ht => Ckk.wk hAd (hC_61.rck ht)) (by rw [hZl_61]; omega) (fun Z2 hZ2 => by have hh : ∀ k, k < nk72 → ∀ j, j < 6 → ChRow Rs Z2 k j = ChRow Rs Z_61 k j := fun k hk j hj => hZ2 _ (Ckk.wk hAd (hC_61.rck (by omega))); exact bt_room (r := ChRow Rs Z2) (hTpk72.congr hh (fun _ _ => rfl)) (hBtk72.congr hh) (by rw [hZ2 _ (Wkk.not hAd (by decide) (by decide))]; exact (by rw [hZu_61]; exact Int.lt_of_le_of_lt (show ((a2 : Int).natAbs : Int) ≤ 1000000 by omega) (by decide))) (by rw [hZ2 _ (Wkk.not hAd (by decide) (by decide))]; exact (by rw [hZl_61]; exact Int.lt_of_le_of_lt (show ((a3 : Int).natAbs : Int) ≤ 1000000 by omega) (by decide))))) (cwV 1 hts (gw_V w_406 w_407 w_408 w_2 w_409) rfl rfl rfl (by decide +kernel) ⟨by rw [hRf]; exact Nat.le_of_ble_eq_true rfl, by rw [hRl]; exact Nat.le_of_ble_eq_true rfl⟩) ⟨K0.blind, B.recv (hAd.1 _ (by omega)) (hC_61.ch) rfl, B.pre _⟩ rfl rfl hl.1 rfl (lv_room (Nat.le_of_ble_eq_true rfl)) d_RR_changes_72 ⟨by rw [hRc]; omega, by rw [hRs]; omega⟩) (fun g72 H locs hw B => ?_)
        obtain ⟨gtk72, gpk72, gak72, gbk72, Zk72, hWdk72, hNek72, hZZk72, hBBk72, hqk72, hcck72, httk72, htqk72, hspk72⟩ := hw
        obtain ⟨Ik72, hIk72⟩ : ∃ Ik72, Ik72 = up (up Is 4 (tn (fun k => sg (es (fun j => Z_61 (Rs (6 * k + j))) 6 ((Z_61 (ad 227) : Rat) / (Z_61 (ad 228) : Rat)))) nk72)) 5 ((fun k => sg (es (fun j => Z_61 (Rs (6 * k + j))) 6 ((Z_61 (ad 227) : Rat) / (Z_61 (ad 228) : Rat)))) 0) := ⟨_, rfl⟩
        obtain ⟨Rk72, hRk72⟩ : ∃ Rk72, Rk72 = upW Rs gtk72 gpk72 gak72 gbk72 := ⟨_, rfl⟩
        have hCk72 : CSt cs ad Qm g72 Ik72 As Rk72 Zk72 := by rw [hIk72, hRk72]; exact CSt.look hAd hC_61 hG1k72 hWdk72 hNek72 hBBk72 hqk72 (by rw [hI3k72]; exact hcck72) httk72 htqk72 hspk72
        have hfrk72 : ∀ k, Awy ad k → g72 k = f k := fun k hk => (hqk72 k (hk.out hAd) (hk.nin [2, 3, 4, 5] (by intro q hq; simp only [List.mem_cons, List.not_mem_nil, or_false] at hq; omega))).trans (hfr_61 k hk)
        have hIok72 : ∀ i, i ≠ 4 → i ≠ 5 → Ik72 i = Is i := fun i h1 h2 => by rw [hIk72, up_ne _ _ h2, up_ne _ _ h1]
        have hrwk72 : ∀ t, t < 42 → Zk72 (Rk72 t) = Z_61 (Rs t) := fun t ht => by rw [hRk72, upW_lt ht]; exact hZZk72 _ (Ckk.wk hAd (hC_61.rck ht))
        have hI4k72 : Ik72 4 = tn (fun k => sg (es (fun j => Z_61 (Rs (6 * k + j))) 6 ((Z_61 (ad 227) : Rat) / (Z_61 (ad 228) : Rat)))) nk72 := by rw [hIk72, up_ne _ _ (by decide), up_self]
        have hI5k72 : Ik72 5 = (fun k => sg (es (fun j => Z_61 (Rs (6 * k + j))) 6 ((Z_61 (ad 227) : Rat) / (Z_61 (ad 228) : Rat)))) 0 := by rw [hIk72, up_self]
        have B : Wb D vwCl (TY cs) L g72 (AL L s.heap.size) s H _ := B
        have hchk72 := hch_61.keep (I' := Ik72) (A' := As) (R' := Rk72) (Z' := Zk72) (hIok72 3 (by decide) (by decide)) (rfl) (hrwk72)
        refine lv_aload_n hx hb d_RR_changes_75 rfl (lv_at hl 0 rfl) ?_
        refine x_get (C := RX6) (T := TX6) (N := 14) hx hb hts inX6 hown (B.foc1 (hCk72.x)) (hAd.f1 (by omega)) 0 rfl rfl 2 (by decide) (hts _ w_199) (fun _ h9 => h9) rfl d_RR_changes_76 ?_
        refine x_get (C := RX1) (T := TX1) (N := 7) hx hb hts inX1 hown (B.foc1 (hCk72.ch)) (hAd.f1 (by omega)) 0 rfl rfl 3 (by decide) (hts _ w_57) (fun _ h9 => h9) rfl d_RR_changes_79 ?_
        subst hQ hav
        exact x_iret hx hb hr hlocks B d_RR_changes_82 (⟨Ik72, As, Rk72, Zk72, hCk72, hfrk72, hInv.scr (fun i hi => by rw [hIok72 i (by omega) (by omega)]; exact hIs3 i (by omega)) (fun q hq => hAs1 q (by omega) (by omega)), ⟨by rw [hIok72 0 (by decide) (by decide)]; exact hIs3 0 (by decide), fun p hp => hAs1 _ (by omega) (by omega)⟩, Or.inr (Or.inr ⟨by omega, hVN, _, nk72, hSsk72, by rw [hI4k72, hZu_61, hZl_61]; rfl⟩)⟩)
      · refine x_bipush hx hb d_RR_changes_37 (by decide) ?_
        subst hQ hav
        exact x_iret hx hb hr hlocks B d_RR_changes_39 (⟨If, Af, Rf, Zf, hC, hfr, hInv, ⟨rfl, fun _ _ => rfl⟩, Or.inr (Or.inl ⟨by omega, fun j hj => hktz j (by omega) hj, rfl⟩)⟩)
    · refine x_bipush hx hb d_RR_changes_18 (by decide) ?_
      subst hQ hav
      exact x_iret hx hb hr hlocks B d_RR_changes_20 (⟨If, Af, Rf, Zf, hC, hfr, hInv, ⟨rfl, fun _ _ => rfl⟩, Or.inl ⟨by omega, rfl⟩⟩)
  · exfalso; omega
set_option maxHeartbeats 8000000 in
set_option maxRecDepth 100000 in
theorem c_RR_floor_k (l : Launch) (D : va_G) (cs : Nat → ClassId) (L : List Nat) (f : Nat → va_E) (sz : Nat) (ad Qm : Nat → Nat) (If : Nat → Int) (Af : Nat → Nat → Int) (Rf : Nat → Nat) (Zf : Nat → Int) (p0 : Nat) (a2 a3 : Int) (hAd : AdOk L ad Qm) (hC : CSt cs ad Qm f If Af Rf Zf) (hInv : Inv If Af) (hpk : (p0 : Int) < If 0) (ha2 : -2147483648 ≤ a2 ∧ a2 < 2147483648) (ha3 : -2147483648 ≤ a3 ∧ a3 < 2147483648) : Met l (⟨"RealRoots", "floor", "(III)J"⟩ : MethodName) (.code (⟨"RealRoots", "floor", "(III)J"⟩ : MethodName) prog_1_method_9_code 4 (Option.some Jvm.ClassFile.FieldType.long) :: gw) ({ frames := 7, cells := 0, slots := 0, locals := 340 }) (va_Pc [.ref ((ad 0)), .int (iI ((p0 : Int))), .int (iI a2), .int (iI a3)] (K0 D vwCl (TY cs) L f sz)) (va_Ql (fun (r : Int64) (g : Nat → va_E) => ∃ (I' : Nat → Int) (A' : Nat → Nat → Int) (R' : Nat → Nat) (Z' : Nat → Int), CSt cs ad Qm g I' A' R' Z' ∧ (∀ k, Awy ad k → g k = f k) ∧ Inv I' A' ∧ SameV If Af I' A' ∧ ((a2 < 0 ∧ r = lI (-4000000000000000000)) ∨ ((∀ j, j < 6 → Af (20 + p0) j = 0) ∧ r = lI (-4000000000000000000)) ∨ (Nz (Af (20 + p0)) ∧ ∃ (F : Nat → Int) (nm : Nat) (cc : Nat → Int), Laid (Af (20 + p0)) F (nm : Int) cc ∧ (((nm : Int) ≤ a2 ∧ r = lI (-4000000000000000000)) ∨ ((0 ≤ a2 ∧ a2 < (nm : Int)) ∧ (a3 < 0 ∨ 40 < a3) ∧ r = lI (-4000000000000000001)) ∨ ((0 ≤ a2 ∧ a2 < (nm : Int)) ∧ (0 ≤ a3 ∧ a3 ≤ 40) ∧ r = lI (cc a2.toNat / 2 ^ (256 - a3.toNat))))))) (K1 D vwCl (TY cs) (AL L sz) L) (AL L sz)) 0 0 (AL L sz) := by
  refine Met.ofW (cc := prog_1_method_9_code) (maxL := 4) (ret := (Option.some Jvm.ClassFile.FieldType.long)) (by decide) rfl ?_
  intro p e s m args below meth c s₁ Bd hml hv
  obtain ⟨rfl, hk0⟩ := hv
  obtain ⟨hsz, B⟩ := hk0.start
  subst hsz
  have hx := Bd.exec
  have hb := Bd.bytes
  have hr := Bd.returns
  have hlocks := Bd.notSynchronized
  have hts0 := atoms_spec Bd.pre
  have hown : s.vm.findClass RX6 = some m.cls := findClass_of_methodNamed Bd.named
  have hA : ∀ q, s.heap.size ≤ q → AL L s.heap.size q := fun _ h => Or.inr h
  have hl := lv_entry ([.ref ((ad 0)), .int (iI ((p0 : Int))), .int (iI a2), .int (iI a3)]) (n := 4) (Nat.le_of_ble_eq_true rfl)
  rw [lg_entry_eq]
  generalize (lg_sl ([.ref ((ad 0)), .int (iI ((p0 : Int))), .int (iI a2), .int (iI a3)]) ++ List.replicate (4 - (lg_sl ([.ref ((ad 0)), .int (iI ((p0 : Int))), .int (iI a2), .int (iI a3)])).length) Slot.unset).toArray = ls at hl ⊢
  refine absQ (fun Q R av hQ hR hav => ?_)
  have hts : ∀ w ∈ gw, w.before av s = true := by rw [hav]; exact fun w h => hts0 w (List.mem_cons_of_mem _ h)
  have hRf : R.frames = 7 := by rw [hR]; rfl
  have hRl : R.locals = 340 := by rw [hR]; rfl
  have hRc : R.cells = 0 := by rw [hR]; rfl
  have hRs : R.slots = 0 := by rw [hR]; rfl
  clear hR hts0 Bd
  have hl : lv_has ls 4 [(0, .ref ((ad 0))), (1, .int (iI ((p0 : Int)))), (2, .int (iI a2)), (3, .int (iI a3))] := hl
  have hfr : ∀ k, Awy ad k → f k = f k := fun _ _ => rfl
  have hG0 := hInv.1
  have hhd := hG0.1
  have hp0 : p0 < 12 := by omega
  have hVM := hG0.2.1 p0 hp0
  refine lv_iload_n hx hb d_RR_floor_0 rfl (lv_at hl 2 rfl) ?_
  refine x_if_lt (tgt := 13) hx hb d_RR_floor_1 (by decide) (by omega) (fun h1 => ?_) (fun h1 => ?_)
  · refine x_ldc2 (z := -4000000000000000000) hx hb hown (hts _ w_491) (by decide) d_RR_floor_13 ?_
    subst hQ hav
    exact x_lret hx hb hr hlocks B d_RR_floor_16 (⟨If, Af, Rf, Zf, hC, hfr, hInv, ⟨rfl, fun _ _ => rfl⟩, Or.inl ⟨by omega, rfl⟩⟩)
  · refine lv_iload_n hx hb d_RR_floor_4 rfl (lv_at hl 2 rfl) ?_
    refine lv_aload_n hx hb d_RR_floor_5 rfl (lv_at hl 0 rfl) ?_
    refine lv_iload_n hx hb d_RR_floor_6 rfl (lv_at hl 1 rfl) ?_
    refine x_calli B hA (va_runV (As := [.int (iI ((p0 : Int)))]) (rest := [.int (iI a2)]) ⟨hx, hb, hml, hown, hts⟩ (c_RR_ready l D cs _ _ _ ad Qm If Af Rf Zf p0 hAd hC hInv.1 (hpk)) (cwV 1 hts (gw_V w_370 w_372 s_14 w_1 w_373) rfl rfl rfl (by decide +kernel) ⟨by rw [hRf]; exact Nat.le_of_ble_eq_true rfl, by rw [hRl]; exact Nat.le_of_ble_eq_true rfl⟩) ⟨K0.blind, B.recv (hAd.1 _ (by omega)) (hC.x) rfl, B.pre _⟩ rfl rfl hl.1 rfl (lv_room (Nat.le_of_ble_eq_true rfl)) d_RR_floor_7 ⟨by rw [hRc]; omega, by rw [hRs]; omega⟩) (fun r7 g7 H locs hw B => ?_)
    obtain ⟨Iy, Ay, Ry, Zy, hCy, hqy, hGyy, hOyy, hryy, hsyy⟩ := hw
    have hfry : ∀ k, Awy ad k → g7 k = f k := fun k hk => (hqy k hk).trans (hfr k hk)
    have B : Wb D vwCl (TY cs) L g7 (AL L s.heap.size) s H _ := B
    have hInvy := hInv.rdy (by omega) (hpk) hGyy hOyy hsyy
    have hsvy := hOyy.sv (by omega)
    rcases hryy with ⟨hzy, rfl⟩ | ⟨hny, hsty, rfl⟩
    · refine x_icmp_lt (tgt := 17) hx hb d_RR_floor_10 (by decide) (by omega) (by omega) (fun h10 => ?_) (fun h10 => ?_)
      · exfalso; omega
      · refine x_ldc2 (z := -4000000000000000000) hx hb hown (hts _ w_491) (by decide) d_RR_floor_13 ?_
        subst hQ hav
        exact x_lret hx hb hr hlocks B d_RR_floor_16 (⟨Iy, Ay, Ry, Zy, hCy, hfry, hInvy, hsvy, Or.inr (Or.inl ⟨hzy, rfl⟩)⟩)
    · obtain ⟨nmy, Ny, dpy, vy, hcry⟩ : ∃ nm N dp v, Crv Iy Ay p0 nm N dp v := by rcases hGyy.2.2 p0 (by omega) with h | ⟨_, h⟩; omega; exact h.crv
      have hVMy := hGyy.2.1 p0 (by omega)
      have hAVy := hsvy.2 p0 (by omega)
      obtain ⟨ccy, hLy, hz6y⟩ := free_laid hcry.1 hVMy hcry.2.1 hcry.2.2.2.2.1 hcry.2.2.2.2.2.1
      rw [hAVy] at hLy
      rw [hcry.2.2.1]
      have hnm5y := hcry.2.2.2.1
      refine x_icmp_lt (tgt := 17) hx hb d_RR_floor_10 (by decide) (by omega) (by omega) (fun h10 => ?_) (fun h10 => ?_)
      · obtain ⟨⟨p1y, hPty⟩, _⟩ := hcry.part hVMy
        have hSqy := hPty.2.2.1
        refine lv_iload_n hx hb d_RR_floor_17 rfl (lv_at hl 3 rfl) ?_
        refine x_if_lt (tgt := 27) hx hb d_RR_floor_18 (by decide) (by omega) (fun h18 => ?_) (fun h18 => ?_)
        · refine x_ldc2 (z := -4000000000000000001) hx hb hown (hts _ w_492) (by decide) d_RR_floor_27 ?_
          subst hQ hav
          exact x_lret hx hb hr hlocks B d_RR_floor_30 (⟨Iy, Ay, Ry, Zy, hCy, hfry, hInvy, hsvy, Or.inr (Or.inr ⟨hny, Ay (40 + p0), nmy, ccy, hLy, Or.inr (Or.inl ⟨by omega, by omega, rfl⟩)⟩)⟩)
        · refine lv_iload_n hx hb d_RR_floor_21 rfl (lv_at hl 3 rfl) ?_
          refine x_bipush hx hb d_RR_floor_22 (by decide) ?_
          refine x_icmp_le (tgt := 31) hx hb d_RR_floor_24 (by decide) (by omega) (by omega) (fun h24 => ?_) (fun h24 => ?_)
          · obtain ⟨ii, hii⟩ : ∃ ii : Nat, a2 = (ii : Int) := ⟨a2.toNat, by omega⟩
            obtain ⟨bt, hbt⟩ : ∃ bt : Nat, a3 = (bt : Int) := ⟨a3.toNat, by omega⟩
            subst hii hbt
            refine lv_aload_n hx hb d_RR_floor_31 rfl (lv_at hl 0 rfl) ?_
            refine lv_aload_n hx hb d_RR_floor_32 rfl (lv_at hl 0 rfl) ?_
            refine x_get (C := RX6) (T := TX6) (N := 14) hx hb hts inX6 hown (B.foc1 (hCy.x)) (hAd.f1 (by omega)) 0 rfl rfl 0 (by decide) (hts _ w_197) (fun _ h9 => h9) rfl d_RR_floor_33 ?_
            refine lv_iload_n hx hb d_RR_floor_36 rfl (lv_at hl 1 rfl) ?_
            refine x_aald hx hb (B.foc1 (hCy.c0)) (hAd.f1 (by omega)) 0 4 rfl rfl p0 (by omega) (by omega) (by decide) (rfs_at (by omega)) d_RR_floor_37 ?_
            refine lv_iload_n hx hb d_RR_floor_38 rfl (lv_at hl 2 rfl) ?_
            refine lv_iload_n hx hb d_RR_floor_39 rfl (lv_at hl 3 rfl) ?_
            refine x_callv B hA (va_runV (As := [.ref ((ad (15 + p0))), .int (iI ((ii : Int))), .int (iI ((bt : Int)))]) (rest := []) ⟨hx, hb, hml, hown, hts⟩ (c_RR_deepenTo l D cs _ _ _ ad Qm Iy Ay Ry Zy p0 nmy ii Ny dpy vy bt hAd hCy hp0 (by omega) hVMy hcry (by omega)) (cwV 3 hts (gw_V w_493 w_495 s_21 w_1 w_496) rfl rfl rfl (by decide +kernel) ⟨by rw [hRf]; exact Nat.le_of_ble_eq_true rfl, by rw [hRl]; exact Nat.le_of_ble_eq_true rfl⟩) ⟨K0.blind, B.recv (hAd.1 _ (by omega)) (hCy.x) rfl, B.pre _⟩ rfl rfl hl.1 rfl (lv_room (Nat.le_of_ble_eq_true rfl)) d_RR_floor_40 ⟨by rw [hRc]; omega, by rw [hRs]; omega⟩) (fun g40 H locs hw B => ?_)
            obtain ⟨Id, Ad, Rd, Zd, hCd, hqd, ⟨dd, vd, hcrd, hdd1, hdd2, hdd3⟩, hId6, hAdo⟩ := hw
            have hfrd : ∀ k, Awy ad k → g40 k = f k := fun k hk => (hqd k hk).trans (hfry k hk)
            have B : Wb D vwCl (TY cs) L g40 (AL L s.heap.size) s H _ := B
            have hpld := hcrd.2.2.2.2.2.2.1 ii (by omega)
            rw [va_up_self, up_self] at hpld
            have hwhd := hpld.2.1.whr hpld.2.2.1
            have hd8 := hpld.2.1.1
            have hKp : Kp Iy Ay Id Ad := ⟨fun i hi => hId6 i (by omega) (by omega), fun q hq => hAdo q (by omega)⟩
            have hInvd : Inv Id Ad := hInvy.kp hKp (fun p hp _ hc => by
                by_cases c : p = p0
                · rw [c]; exact hcrd.ok
                · exact hc.congr hp (hAdo _ (by omega)) (hAdo _ (by omega)) (hId6 _ (by omega) (by omega)) (fun i hi => ⟨hId6 _ (by omega) (by omega), hId6 _ (by omega) (by omega), hAdo _ (by omega)⟩))
            refine lv_aload_n hx hb d_RR_floor_43 rfl (lv_at hl 0 rfl) ?_
            refine x_get (C := RX6) (T := TX6) (N := 14) hx hb hts inX6 hown (B.foc1 (hCd.x)) (hAd.f1 (by omega)) 0 rfl rfl 0 (by decide) (hts _ w_197) (fun _ h9 => h9) rfl d_RR_floor_44 ?_
            refine lv_iload_n hx hb d_RR_floor_47 rfl (lv_at hl 1 rfl) ?_
            refine x_aald hx hb (B.foc1 (hCd.c0)) (hAd.f1 (by omega)) 0 4 rfl rfl p0 (by omega) (by omega) (by decide) (rfs_at (by omega)) d_RR_floor_48 ?_
            refine x_get (C := RX2) (T := TX2) (N := 5) hx hb hts inX2 hown (B.foc1 (hCd.cu (p := p0) (by omega))) (hAd.f1 (by omega)) 0 rfl rfl 2 (by decide) (hts _ w_181) (fun _ h9 => h9) rfl d_RR_floor_49 ?_
            refine lv_iload_n hx hb d_RR_floor_52 rfl (lv_at hl 2 rfl) ?_
            refine x_aald hx hb (B.foc1 (hCd.pa (p := p0) (by omega))) (hAd.f1 (by omega)) 0 5 rfl rfl ii (by omega) (by omega) (by decide) (rfs_at (by omega)) d_RR_floor_53 ?_
            refine lv_iload_n hx hb d_RR_floor_54 rfl (lv_at hl 3 rfl) ?_
            refine x_calll B hA (va_runV (As := [.int (iI ((bt : Int)))]) (rest := []) ⟨hx, hb, hml, hown, hts⟩ (c_Place_scaled l D cs _ _ _ (ad (63 + (5 * p0 + ii))) (ad (123 + (5 * p0 + ii))) (Id (100 + (5 * p0 + ii))) (Id (200 + (5 * p0 + ii))) (Ad (100 + (5 * p0 + ii))) bt (hAd.fc [63 + (5 * p0 + ii), 123 + (5 * p0 + ii)] (by simp only [List.nodup_cons, List.mem_cons, List.not_mem_nil, or_false, not_or, List.nodup_nil, and_true, not_false_eq_true]; omega) (by intro q hq; simp only [List.mem_cons, List.not_mem_nil, or_false] at hq; omega)) (hCd.pl (m := (5 * p0 + ii)) (by omega)) (hCd.wq (m := (5 * p0 + ii)) (by omega)) (by omega) (by omega) (hpld.2.1.2.1 0 (by decide)) (hpld.2.1.2.1 1 (by decide))) (cwV 1 hts (gw_V w_497 w_498 w_499 w_7 w_500) rfl rfl rfl (by decide +kernel) ⟨by rw [hRf]; exact Nat.le_of_ble_eq_true rfl, by rw [hRl]; exact Nat.le_of_ble_eq_true rfl⟩) ⟨K0.blind, B.recv (hAd.1 _ (by omega)) (hCd.pl (m := (5 * p0 + ii)) (by omega)) rfl, B.pre _⟩ rfl rfl hl.1 rfl (lv_room (Nat.le_of_ble_eq_true rfl)) d_RR_floor_55 ⟨by rw [hRc]; omega, by rw [hRs]; omega⟩) (fun r55 g55 H locs hw B => ?_)
            obtain ⟨rfl, hgf⟩ := hw
            rw [hgf] at B
            rw [hpld.2.1.scl (by omega) (by omega)]
            subst hQ hav
            exact x_lret hx hb hr hlocks B d_RR_floor_58 (⟨Id, Ad, Rd, Zd, hCd, hfrd, hInvd, hsvy.trans hKp.sv, Or.inr (Or.inr ⟨hny, Ay (40 + p0), nmy, ccy, hLy, Or.inr (Or.inr ⟨by omega, by omega, by have h9 := Cell.pre hcry.2.2.2.2.1 hSqy (hz6y ii (by omega)) hd8 hpld.2.2; rw [Int.toNat_natCast, Int.toNat_natCast, h9, ← div_pow_add, show 256 - dd + (dd - bt) = 256 - bt by omega]⟩)⟩)⟩)
          · refine x_ldc2 (z := -4000000000000000001) hx hb hown (hts _ w_492) (by decide) d_RR_floor_27 ?_
            subst hQ hav
            exact x_lret hx hb hr hlocks B d_RR_floor_30 (⟨Iy, Ay, Ry, Zy, hCy, hfry, hInvy, hsvy, Or.inr (Or.inr ⟨hny, Ay (40 + p0), nmy, ccy, hLy, Or.inr (Or.inl ⟨by omega, by omega, rfl⟩)⟩)⟩)
      · refine x_ldc2 (z := -4000000000000000000) hx hb hown (hts _ w_491) (by decide) d_RR_floor_13 ?_
        subst hQ hav
        exact x_lret hx hb hr hlocks B d_RR_floor_16 (⟨Iy, Ay, Ry, Zy, hCy, hfry, hInvy, hsvy, Or.inr (Or.inr ⟨hny, Ay (40 + p0), nmy, ccy, hLy, Or.inl ⟨by omega, rfl⟩⟩)⟩)
