set_option maxHeartbeats 8000000 in
set_option maxRecDepth 100000 in
theorem c_RR_make_n (l : Launch) (D : va_G) (cs : Nat → ClassId) (L : List Nat) (f : Nat → va_E) (sz : Nat) (ad Qm : Nat → Nat) (If : Nat → Int) (Af : Nat → Nat → Int) (Rf : Nat → Nat) (Zf : Nat → Int) (p0 : Nat) (b : Int) (kd : Int) (hAd : AdOk L ad Qm) (hC : CSt cs ad Qm f If Af Rf Zf) (hInv : Inv If Af) (hpk : (p0 : Int) < If 0) (hbr : -2147483648 ≤ b ∧ b < 2147483648) (hkd : kd < 0 ∨ 9 < kd) (hkr : -2147483648 ≤ kd ∧ kd < 2147483648) : Met l (⟨"RealRoots", "make", "(III)I"⟩ : MethodName) (.code (⟨"RealRoots", "make", "(III)I"⟩ : MethodName) prog_1_method_5_code 5 (Option.some Jvm.ClassFile.FieldType.int) :: gw) ({ frames := 7, cells := 0, slots := 0, locals := 330 }) (va_Pc [.ref ((ad 0)), .int (iI kd), .int (iI ((p0 : Int))), .int (iI b)] (K0 D vwCl (TY cs) L f sz)) (va_Qi (fun (r : Int32) (g : Nat → va_E) => ∃ (I' : Nat → Int) (A' : Nat → Nat → Int) (R' : Nat → Nat) (Z' : Nat → Int), CSt cs ad Qm g I' A' R' Z' ∧ (∀ k, Awy ad k → g k = f k) ∧ Inv I' A' ∧ SameV If Af I' A' ∧ r = iI (-1)) (K1 D vwCl (TY cs) (AL L sz) L) (AL L sz)) 0 0 (AL L sz) := by
  refine Met.ofW (cc := prog_1_method_5_code) (maxL := 5) (ret := (Option.some Jvm.ClassFile.FieldType.int)) (by decide) rfl ?_
  intro p e s m args below meth c s₁ Bd hml hv
  obtain ⟨rfl, hk0⟩ := hv
  obtain ⟨hsz, B⟩ := hk0.start
  subst hsz
  have hx := Bd.exec
  have hb := Bd.bytes
  have hr := Bd.returns
  have hlocks := Bd.notSynchronized
  have hts0 := atoms_spec Bd.pre
  have hown : s.vm.findClass RX6 = some m.cls := findClass_of_methodNamed Bd.named
  have hA : ∀ q, s.heap.size ≤ q → AL L s.heap.size q := fun _ h => Or.inr h
  have hl := lv_entry ([.ref ((ad 0)), .int (iI kd), .int (iI ((p0 : Int))), .int (iI b)]) (n := 5) (Nat.le_of_ble_eq_true rfl)
  rw [lg_entry_eq]
  generalize (lg_sl ([.ref ((ad 0)), .int (iI kd), .int (iI ((p0 : Int))), .int (iI b)]) ++ List.replicate (5 - (lg_sl ([.ref ((ad 0)), .int (iI kd), .int (iI ((p0 : Int))), .int (iI b)])).length) Slot.unset).toArray = ls at hl ⊢
  refine absQ (fun Q R av hQ hR hav => ?_)
  have hts : ∀ w ∈ gw, w.before av s = true := by rw [hav]; exact fun w h => hts0 w (List.mem_cons_of_mem _ h)
  have hRf : R.frames = 7 := by rw [hR]; rfl
  have hRl : R.locals = 330 := by rw [hR]; rfl
  have hRc : R.cells = 0 := by rw [hR]; rfl
  have hRs : R.slots = 0 := by rw [hR]; rfl
  clear hR hts0 Bd
  have hl : lv_has ls 5 [(0, .ref ((ad 0))), (1, .int (iI kd)), (2, .int (iI ((p0 : Int)))), (3, .int (iI b))] := hl
  have hfr : ∀ k, Awy ad k → f k = f k := fun _ _ => rfl
  have hG0 := hInv.1
  have hhd := hG0.1
  have hp0 : p0 < 12 := by omega
  have hVM := hG0.2.1 p0 hp0
  refine lv_iload_n hx hb d_RR_make_0 rfl (lv_at hl 1 rfl) ?_
  refine x_if_eq (tgt := 19) hx hb d_RR_make_1 (by decide) (by omega) (fun h1 => ?_) (fun h1 => ?_)
  · refine x_iconst hx hb d_RR_make_19 ?_
    refine lv_goto (tgt := 24) hx hb d_RR_make_20 (by decide) ?_
    refine lv_istore (lv' := [(4, .int (iI 1)), (0, .ref ((ad 0))), (1, .int (iI kd)), (2, .int (iI ((p0 : Int)))), (3, .int (iI b))]) hx hb d_RR_make_24 hl (by decide) rfl (fun ls hl => ?_)
    refine lv_iload_n hx hb d_RR_make_26 rfl (lv_at hl 2 rfl) ?_
    refine x_if_lt (tgt := 57) hx hb d_RR_make_27 (by decide) (by omega) (fun h27 => ?_) (fun h27 => ?_)
    · refine x_iconst hx hb d_RR_make_57 ?_
      subst hQ hav
      exact x_iret hx hb hr hlocks B d_RR_make_58 (⟨If, Af, Rf, Zf, hC, hfr, hInv, ⟨rfl, fun _ _ => rfl⟩, rfl⟩)
    · refine lv_iload_n hx hb d_RR_make_30 rfl (lv_at hl 2 rfl) ?_
      refine x_bipush hx hb d_RR_make_31 (by decide) ?_
      refine x_icmp_gt (tgt := 57) hx hb d_RR_make_33 (by decide) (by omega) (by omega) (fun h33 => ?_) (fun h33 => ?_)
      · refine x_iconst hx hb d_RR_make_57 ?_
        subst hQ hav
        exact x_iret hx hb hr hlocks B d_RR_make_58 (⟨If, Af, Rf, Zf, hC, hfr, hInv, ⟨rfl, fun _ _ => rfl⟩, rfl⟩)
      · exfalso; omega
  · refine lv_iload_n hx hb d_RR_make_4 rfl (lv_at hl 1 rfl) ?_
    refine x_iconst hx hb d_RR_make_5 ?_
    refine x_icmp_eq (tgt := 19) hx hb d_RR_make_6 (by decide) (by omega) (by omega) (fun h6 => ?_) (fun h6 => ?_)
    · refine x_iconst hx hb d_RR_make_19 ?_
      refine lv_goto (tgt := 24) hx hb d_RR_make_20 (by decide) ?_
      refine lv_istore (lv' := [(4, .int (iI 1)), (0, .ref ((ad 0))), (1, .int (iI kd)), (2, .int (iI ((p0 : Int)))), (3, .int (iI b))]) hx hb d_RR_make_24 hl (by decide) rfl (fun ls hl => ?_)
      refine lv_iload_n hx hb d_RR_make_26 rfl (lv_at hl 2 rfl) ?_
      refine x_if_lt (tgt := 57) hx hb d_RR_make_27 (by decide) (by omega) (fun h27 => ?_) (fun h27 => ?_)
      · refine x_iconst hx hb d_RR_make_57 ?_
        subst hQ hav
        exact x_iret hx hb hr hlocks B d_RR_make_58 (⟨If, Af, Rf, Zf, hC, hfr, hInv, ⟨rfl, fun _ _ => rfl⟩, rfl⟩)
      · refine lv_iload_n hx hb d_RR_make_30 rfl (lv_at hl 2 rfl) ?_
        refine x_bipush hx hb d_RR_make_31 (by decide) ?_
        refine x_icmp_gt (tgt := 57) hx hb d_RR_make_33 (by decide) (by omega) (by omega) (fun h33 => ?_) (fun h33 => ?_)
        · refine x_iconst hx hb d_RR_make_57 ?_
          subst hQ hav
          exact x_iret hx hb hr hlocks B d_RR_make_58 (⟨If, Af, Rf, Zf, hC, hfr, hInv, ⟨rfl, fun _ _ => rfl⟩, rfl⟩)
        · exfalso; omega
    · refine lv_iload_n hx hb d_RR_make_9 rfl (lv_at hl 1 rfl) ?_
      refine x_iconst hx hb d_RR_make_10 ?_
      refine x_icmp_eq (tgt := 19) hx hb d_RR_make_11 (by decide) (by omega) (by omega) (fun h11 => ?_) (fun h11 => ?_)
      · refine x_iconst hx hb d_RR_make_19 ?_
        refine lv_goto (tgt := 24) hx hb d_RR_make_20 (by decide) ?_
        refine lv_istore (lv' := [(4, .int (iI 1)), (0, .ref ((ad 0))), (1, .int (iI kd)), (2, .int (iI ((p0 : Int)))), (3, .int (iI b))]) hx hb d_RR_make_24 hl (by decide) rfl (fun ls hl => ?_)
        refine lv_iload_n hx hb d_RR_make_26 rfl (lv_at hl 2 rfl) ?_
        refine x_if_lt (tgt := 57) hx hb d_RR_make_27 (by decide) (by omega) (fun h27 => ?_) (fun h27 => ?_)
        · refine x_iconst hx hb d_RR_make_57 ?_
          subst hQ hav
          exact x_iret hx hb hr hlocks B d_RR_make_58 (⟨If, Af, Rf, Zf, hC, hfr, hInv, ⟨rfl, fun _ _ => rfl⟩, rfl⟩)
        · refine lv_iload_n hx hb d_RR_make_30 rfl (lv_at hl 2 rfl) ?_
          refine x_bipush hx hb d_RR_make_31 (by decide) ?_
          refine x_icmp_gt (tgt := 57) hx hb d_RR_make_33 (by decide) (by omega) (by omega) (fun h33 => ?_) (fun h33 => ?_)
          · refine x_iconst hx hb d_RR_make_57 ?_
            subst hQ hav
            exact x_iret hx hb hr hlocks B d_RR_make_58 (⟨If, Af, Rf, Zf, hC, hfr, hInv, ⟨rfl, fun _ _ => rfl⟩, rfl⟩)
          · exfalso; omega
      · refine lv_iload_n hx hb d_RR_make_14 rfl (lv_at hl 1 rfl) ?_
        refine x_iconst hx hb d_RR_make_15 ?_
        refine x_icmp_ne (tgt := 23) hx hb d_RR_make_16 (by decide) (by omega) (by omega) (fun h16 => ?_) (fun h16 => ?_)
        · refine x_iconst hx hb d_RR_make_23 ?_
          refine lv_istore (lv' := [(4, .int (iI 0)), (0, .ref ((ad 0))), (1, .int (iI kd)), (2, .int (iI ((p0 : Int)))), (3, .int (iI b))]) hx hb d_RR_make_24 hl (by decide) rfl (fun ls hl => ?_)
          refine lv_iload_n hx hb d_RR_make_26 rfl (lv_at hl 2 rfl) ?_
          refine x_if_lt (tgt := 57) hx hb d_RR_make_27 (by decide) (by omega) (fun h27 => ?_) (fun h27 => ?_)
          · refine x_iconst hx hb d_RR_make_57 ?_
            subst hQ hav
            exact x_iret hx hb hr hlocks B d_RR_make_58 (⟨If, Af, Rf, Zf, hC, hfr, hInv, ⟨rfl, fun _ _ => rfl⟩, rfl⟩)
          · refine lv_iload_n hx hb d_RR_make_30 rfl (lv_at hl 2 rfl) ?_
            refine x_bipush hx hb d_RR_make_31 (by decide) ?_
            refine x_icmp_gt (tgt := 57) hx hb d_RR_make_33 (by decide) (by omega) (by omega) (fun h33 => ?_) (fun h33 => ?_)
            · refine x_iconst hx hb d_RR_make_57 ?_
              subst hQ hav
              exact x_iret hx hb hr hlocks B d_RR_make_58 (⟨If, Af, Rf, Zf, hC, hfr, hInv, ⟨rfl, fun _ _ => rfl⟩, rfl⟩)
            · exfalso; omega
        · refine x_iconst hx hb d_RR_make_19 ?_
          refine lv_goto (tgt := 24) hx hb d_RR_make_20 (by decide) ?_
          refine lv_istore (lv' := [(4, .int (iI 1)), (0, .ref ((ad 0))), (1, .int (iI kd)), (2, .int (iI ((p0 : Int)))), (3, .int (iI b))]) hx hb d_RR_make_24 hl (by decide) rfl (fun ls hl => ?_)
          refine lv_iload_n hx hb d_RR_make_26 rfl (lv_at hl 2 rfl) ?_
          refine x_if_lt (tgt := 57) hx hb d_RR_make_27 (by decide) (by omega) (fun h27 => ?_) (fun h27 => ?_)
          · refine x_iconst hx hb d_RR_make_57 ?_
            subst hQ hav
            exact x_iret hx hb hr hlocks B d_RR_make_58 (⟨If, Af, Rf, Zf, hC, hfr, hInv, ⟨rfl, fun _ _ => rfl⟩, rfl⟩)
          · refine lv_iload_n hx hb d_RR_make_30 rfl (lv_at hl 2 rfl) ?_
            refine x_bipush hx hb d_RR_make_31 (by decide) ?_
            refine x_icmp_gt (tgt := 57) hx hb d_RR_make_33 (by decide) (by omega) (by omega) (fun h33 => ?_) (fun h33 => ?_)
            · refine x_iconst hx hb d_RR_make_57 ?_
              subst hQ hav
              exact x_iret hx hb hr hlocks B d_RR_make_58 (⟨If, Af, Rf, Zf, hC, hfr, hInv, ⟨rfl, fun _ _ => rfl⟩, rfl⟩)
            · exfalso; omega
set_option maxHeartbeats 8000000 in
set_option maxRecDepth 100000 in
theorem c_RR_make_u0 (l : Launch) (D : va_G) (cs : Nat → ClassId) (L : List Nat) (f : Nat → va_E) (sz : Nat) (ad Qm : Nat → Nat) (If : Nat → Int) (Af : Nat → Nat → Int) (Rf : Nat → Nat) (Zf : Nat → Int) (p0 : Nat) (b : Int) (hAd : AdOk L ad Qm) (hC : CSt cs ad Qm f If Af Rf Zf) (hInv : Inv If Af) (hpk : (p0 : Int) < If 0) (hbr : -2147483648 ≤ b ∧ b < 2147483648) (hun : b < 0 ∨ If 0 ≤ b) : Met l (⟨"RealRoots", "make", "(III)I"⟩ : MethodName) (.code (⟨"RealRoots", "make", "(III)I"⟩ : MethodName) prog_1_method_5_code 5 (Option.some Jvm.ClassFile.FieldType.int) :: gw) ({ frames := 7, cells := 0, slots := 0, locals := 330 }) (va_Pc [.ref ((ad 0)), .int (iI 0), .int (iI ((p0 : Int))), .int (iI b)] (K0 D vwCl (TY cs) L f sz)) (va_Qi (fun (r : Int32) (g : Nat → va_E) => ∃ (I' : Nat → Int) (A' : Nat → Nat → Int) (R' : Nat → Nat) (Z' : Nat → Int), CSt cs ad Qm g I' A' R' Z' ∧ (∀ k, Awy ad k → g k = f k) ∧ Inv I' A' ∧ SameV If Af I' A' ∧ r = iI (-1)) (K1 D vwCl (TY cs) (AL L sz) L) (AL L sz)) 0 0 (AL L sz) := by
  refine Met.ofW (cc := prog_1_method_5_code) (maxL := 5) (ret := (Option.some Jvm.ClassFile.FieldType.int)) (by decide) rfl ?_
  intro p e s m args below meth c s₁ Bd hml hv
  obtain ⟨rfl, hk0⟩ := hv
  obtain ⟨hsz, B⟩ := hk0.start
  subst hsz
  have hx := Bd.exec
  have hb := Bd.bytes
  have hr := Bd.returns
  have hlocks := Bd.notSynchronized
  have hts0 := atoms_spec Bd.pre
  have hown : s.vm.findClass RX6 = some m.cls := findClass_of_methodNamed Bd.named
  have hA : ∀ q, s.heap.size ≤ q → AL L s.heap.size q := fun _ h => Or.inr h
  have hl := lv_entry ([.ref ((ad 0)), .int (iI 0), .int (iI ((p0 : Int))), .int (iI b)]) (n := 5) (Nat.le_of_ble_eq_true rfl)
  rw [lg_entry_eq]
  generalize (lg_sl ([.ref ((ad 0)), .int (iI 0), .int (iI ((p0 : Int))), .int (iI b)]) ++ List.replicate (5 - (lg_sl ([.ref ((ad 0)), .int (iI 0), .int (iI ((p0 : Int))), .int (iI b)])).length) Slot.unset).toArray = ls at hl ⊢
  refine absQ (fun Q R av hQ hR hav => ?_)
  have hts : ∀ w ∈ gw, w.before av s = true := by rw [hav]; exact fun w h => hts0 w (List.mem_cons_of_mem _ h)
  have hRf : R.frames = 7 := by rw [hR]; rfl
  have hRl : R.locals = 330 := by rw [hR]; rfl
  have hRc : R.cells = 0 := by rw [hR]; rfl
  have hRs : R.slots = 0 := by rw [hR]; rfl
  clear hR hts0 Bd
  have hl : lv_has ls 5 [(0, .ref ((ad 0))), (1, .int (iI 0)), (2, .int (iI ((p0 : Int)))), (3, .int (iI b))] := hl
  have hfr : ∀ k, Awy ad k → f k = f k := fun _ _ => rfl
  have hG0 := hInv.1
  have hhd := hG0.1
  have hp0 : p0 < 12 := by omega
  have hVM := hG0.2.1 p0 hp0
  refine lv_iload_n hx hb d_RR_make_0 rfl (lv_at hl 1 rfl) ?_
  refine x_if_eq (tgt := 19) hx hb d_RR_make_1 (by decide) (by omega) (fun h1 => ?_) (fun h1 => ?_)
  · refine x_iconst hx hb d_RR_make_19 ?_
    refine lv_goto (tgt := 24) hx hb d_RR_make_20 (by decide) ?_
    refine lv_istore (lv' := [(4, .int (iI 1)), (0, .ref ((ad 0))), (1, .int (iI 0)), (2, .int (iI ((p0 : Int)))), (3, .int (iI b))]) hx hb d_RR_make_24 hl (by decide) rfl (fun ls hl => ?_)
    refine lv_iload_n hx hb d_RR_make_26 rfl (lv_at hl 2 rfl) ?_
    refine x_if_lt (tgt := 57) hx hb d_RR_make_27 (by decide) (by omega) (fun h27 => ?_) (fun h27 => ?_)
    · exfalso; omega
    · refine lv_iload_n hx hb d_RR_make_30 rfl (lv_at hl 2 rfl) ?_
      refine x_bipush hx hb d_RR_make_31 (by decide) ?_
      refine x_icmp_gt (tgt := 57) hx hb d_RR_make_33 (by decide) (by omega) (by omega) (fun h33 => ?_) (fun h33 => ?_)
      · exfalso; omega
      · refine lv_aload_n hx hb d_RR_make_36 rfl (lv_at hl 1 rfl) ?_
        refine lv_iload_n hx hb d_RR_make_37 rfl (lv_at hl 3 rfl) ?_
        refine x_calli B hA (va_runV (As := [.int (iI ((p0 : Int)))]) (rest := []) ⟨hx, hb, hml, hown, hts⟩ (c_RR_unknown l D cs _ _ _ (ad 0) (ad 1) (ad 2) (ad 5) (ad 7) (ad 8) (ad 9) (ad 10) (ad 11) (ad 12) (ad 13) (ad 14) (If 0) (If 1) (If 2) ((p0 : Int)) (hAd.f1 (by decide)) hC.x (hhd) (by omega)) (cwV 1 hts (gw_V w_261 w_263 s_3 w_1 w_264) rfl rfl rfl (by decide +kernel) ⟨by rw [hRf]; exact Nat.le_of_ble_eq_true rfl, by rw [hRl]; exact Nat.le_of_ble_eq_true rfl⟩) ⟨K0.blind, B.recv (hAd.1 _ (by omega)) (hC.x) rfl, B.pre _⟩ rfl rfl hl.1 rfl (lv_room (Nat.le_of_ble_eq_true rfl)) d_RR_make_38 ⟨by rw [hRc]; omega, by rw [hRs]; omega⟩) (fun r38 g38 H locs hw B => ?_)
        obtain ⟨rfl, hgf⟩ := hw
        rw [hgf] at B
        rw [if_neg (by omega)]
        refine x_if_ne (tgt := 57) hx hb d_RR_make_41 (by decide) (by omega) (fun h41 => ?_) (fun h41 => ?_)
        · exfalso; omega
        · refine lv_iload hx hb d_RR_make_44 (lv_at hl 0 rfl) ?_
          refine x_if_eq (tgt := 59) hx hb d_RR_make_46 (by decide) (by omega) (fun h46 => ?_) (fun h46 => ?_)
          · exfalso; omega
          · refine lv_aload_n hx hb d_RR_make_49 rfl (lv_at hl 1 rfl) ?_
            refine lv_iload_n hx hb d_RR_make_50 rfl (lv_at hl 4 rfl) ?_
            refine x_calli B hA (va_runV (As := [.int (iI b)]) (rest := []) ⟨hx, hb, hml, hown, hts⟩ (c_RR_unknown l D cs _ _ _ (ad 0) (ad 1) (ad 2) (ad 5) (ad 7) (ad 8) (ad 9) (ad 10) (ad 11) (ad 12) (ad 13) (ad 14) (If 0) (If 1) (If 2) b (hAd.f1 (by decide)) hC.x (hhd) (by omega)) (cwV 1 hts (gw_V w_261 w_263 s_3 w_1 w_264) rfl rfl rfl (by decide +kernel) ⟨by rw [hRf]; exact Nat.le_of_ble_eq_true rfl, by rw [hRl]; exact Nat.le_of_ble_eq_true rfl⟩) ⟨K0.blind, B.recv (hAd.1 _ (by omega)) (hC.x) rfl, B.pre _⟩ rfl rfl hl.1 rfl (lv_room (Nat.le_of_ble_eq_true rfl)) d_RR_make_51 ⟨by rw [hRc]; omega, by rw [hRs]; omega⟩) (fun r51 g51 H locs hw B => ?_)
            obtain ⟨rfl, hgf⟩ := hw
            rw [hgf] at B
            rw [if_pos (by omega)]
            refine x_if_eq (tgt := 59) hx hb d_RR_make_54 (by decide) (by omega) (fun h54 => ?_) (fun h54 => ?_)
            · exfalso; omega
            · refine x_iconst hx hb d_RR_make_57 ?_
              subst hQ hav
              exact x_iret hx hb hr hlocks B d_RR_make_58 (⟨If, Af, Rf, Zf, hC, hfr, hInv, ⟨rfl, fun _ _ => rfl⟩, rfl⟩)
  · exfalso; omega
set_option maxHeartbeats 8000000 in
set_option maxRecDepth 100000 in
theorem c_RR_make_u1 (l : Launch) (D : va_G) (cs : Nat → ClassId) (L : List Nat) (f : Nat → va_E) (sz : Nat) (ad Qm : Nat → Nat) (If : Nat → Int) (Af : Nat → Nat → Int) (Rf : Nat → Nat) (Zf : Nat → Int) (p0 : Nat) (b : Int) (hAd : AdOk L ad Qm) (hC : CSt cs ad Qm f If Af Rf Zf) (hInv : Inv If Af) (hpk : (p0 : Int) < If 0) (hbr : -2147483648 ≤ b ∧ b < 2147483648) (hun : b < 0 ∨ If 0 ≤ b) : Met l (⟨"RealRoots", "make", "(III)I"⟩ : MethodName) (.code (⟨"RealRoots", "make", "(III)I"⟩ : MethodName) prog_1_method_5_code 5 (Option.some Jvm.ClassFile.FieldType.int) :: gw) ({ frames := 7, cells := 0, slots := 0, locals := 330 }) (va_Pc [.ref ((ad 0)), .int (iI 1), .int (iI ((p0 : Int))), .int (iI b)] (K0 D vwCl (TY cs) L f sz)) (va_Qi (fun (r : Int32) (g : Nat → va_E) => ∃ (I' : Nat → Int) (A' : Nat → Nat → Int) (R' : Nat → Nat) (Z' : Nat → Int), CSt cs ad Qm g I' A' R' Z' ∧ (∀ k, Awy ad k → g k = f k) ∧ Inv I' A' ∧ SameV If Af I' A' ∧ r = iI (-1)) (K1 D vwCl (TY cs) (AL L sz) L) (AL L sz)) 0 0 (AL L sz) := by
  refine Met.ofW (cc := prog_1_method_5_code) (maxL := 5) (ret := (Option.some Jvm.ClassFile.FieldType.int)) (by decide) rfl ?_
  intro p e s m args below meth c s₁ Bd hml hv
  obtain ⟨rfl, hk0⟩ := hv
  obtain ⟨hsz, B⟩ := hk0.start
  subst hsz
  have hx := Bd.exec
  have hb := Bd.bytes
  have hr := Bd.returns
  have hlocks := Bd.notSynchronized
  have hts0 := atoms_spec Bd.pre
  have hown : s.vm.findClass RX6 = some m.cls := findClass_of_methodNamed Bd.named
  have hA : ∀ q, s.heap.size ≤ q → AL L s.heap.size q := fun _ h => Or.inr h
  have hl := lv_entry ([.ref ((ad 0)), .int (iI 1), .int (iI ((p0 : Int))), .int (iI b)]) (n := 5) (Nat.le_of_ble_eq_true rfl)
  rw [lg_entry_eq]
  generalize (lg_sl ([.ref ((ad 0)), .int (iI 1), .int (iI ((p0 : Int))), .int (iI b)]) ++ List.replicate (5 - (lg_sl ([.ref ((ad 0)), .int (iI 1), .int (iI ((p0 : Int))), .int (iI b)])).length) Slot.unset).toArray = ls at hl ⊢
  refine absQ (fun Q R av hQ hR hav => ?_)
  have hts : ∀ w ∈ gw, w.before av s = true := by rw [hav]; exact fun w h => hts0 w (List.mem_cons_of_mem _ h)
  have hRf : R.frames = 7 := by rw [hR]; rfl
  have hRl : R.locals = 330 := by rw [hR]; rfl
  have hRc : R.cells = 0 := by rw [hR]; rfl
  have hRs : R.slots = 0 := by rw [hR]; rfl
  clear hR hts0 Bd
  have hl : lv_has ls 5 [(0, .ref ((ad 0))), (1, .int (iI 1)), (2, .int (iI ((p0 : Int)))), (3, .int (iI b))] := hl
  have hfr : ∀ k, Awy ad k → f k = f k := fun _ _ => rfl
  have hG0 := hInv.1
  have hhd := hG0.1
  have hp0 : p0 < 12 := by omega
  have hVM := hG0.2.1 p0 hp0
  refine lv_iload_n hx hb d_RR_make_0 rfl (lv_at hl 1 rfl) ?_
  refine x_if_eq (tgt := 19) hx hb d_RR_make_1 (by decide) (by omega) (fun h1 => ?_) (fun h1 => ?_)
  · exfalso; omega
  · refine lv_iload_n hx hb d_RR_make_4 rfl (lv_at hl 1 rfl) ?_
    refine x_iconst hx hb d_RR_make_5 ?_
    refine x_icmp_eq (tgt := 19) hx hb d_RR_make_6 (by decide) (by omega) (by omega) (fun h6 => ?_) (fun h6 => ?_)
    · refine x_iconst hx hb d_RR_make_19 ?_
      refine lv_goto (tgt := 24) hx hb d_RR_make_20 (by decide) ?_
      refine lv_istore (lv' := [(4, .int (iI 1)), (0, .ref ((ad 0))), (1, .int (iI 1)), (2, .int (iI ((p0 : Int)))), (3, .int (iI b))]) hx hb d_RR_make_24 hl (by decide) rfl (fun ls hl => ?_)
      refine lv_iload_n hx hb d_RR_make_26 rfl (lv_at hl 2 rfl) ?_
      refine x_if_lt (tgt := 57) hx hb d_RR_make_27 (by decide) (by omega) (fun h27 => ?_) (fun h27 => ?_)
      · exfalso; omega
      · refine lv_iload_n hx hb d_RR_make_30 rfl (lv_at hl 2 rfl) ?_
        refine x_bipush hx hb d_RR_make_31 (by decide) ?_
        refine x_icmp_gt (tgt := 57) hx hb d_RR_make_33 (by decide) (by omega) (by omega) (fun h33 => ?_) (fun h33 => ?_)
        · exfalso; omega
        · refine lv_aload_n hx hb d_RR_make_36 rfl (lv_at hl 1 rfl) ?_
          refine lv_iload_n hx hb d_RR_make_37 rfl (lv_at hl 3 rfl) ?_
          refine x_calli B hA (va_runV (As := [.int (iI ((p0 : Int)))]) (rest := []) ⟨hx, hb, hml, hown, hts⟩ (c_RR_unknown l D cs _ _ _ (ad 0) (ad 1) (ad 2) (ad 5) (ad 7) (ad 8) (ad 9) (ad 10) (ad 11) (ad 12) (ad 13) (ad 14) (If 0) (If 1) (If 2) ((p0 : Int)) (hAd.f1 (by decide)) hC.x (hhd) (by omega)) (cwV 1 hts (gw_V w_261 w_263 s_3 w_1 w_264) rfl rfl rfl (by decide +kernel) ⟨by rw [hRf]; exact Nat.le_of_ble_eq_true rfl, by rw [hRl]; exact Nat.le_of_ble_eq_true rfl⟩) ⟨K0.blind, B.recv (hAd.1 _ (by omega)) (hC.x) rfl, B.pre _⟩ rfl rfl hl.1 rfl (lv_room (Nat.le_of_ble_eq_true rfl)) d_RR_make_38 ⟨by rw [hRc]; omega, by rw [hRs]; omega⟩) (fun r38 g38 H locs hw B => ?_)
          obtain ⟨rfl, hgf⟩ := hw
          rw [hgf] at B
          rw [if_neg (by omega)]
          refine x_if_ne (tgt := 57) hx hb d_RR_make_41 (by decide) (by omega) (fun h41 => ?_) (fun h41 => ?_)
          · exfalso; omega
          · refine lv_iload hx hb d_RR_make_44 (lv_at hl 0 rfl) ?_
            refine x_if_eq (tgt := 59) hx hb d_RR_make_46 (by decide) (by omega) (fun h46 => ?_) (fun h46 => ?_)
            · exfalso; omega
            · refine lv_aload_n hx hb d_RR_make_49 rfl (lv_at hl 1 rfl) ?_
              refine lv_iload_n hx hb d_RR_make_50 rfl (lv_at hl 4 rfl) ?_
              refine x_calli B hA (va_runV (As := [.int (iI b)]) (rest := []) ⟨hx, hb, hml, hown, hts⟩ (c_RR_unknown l D cs _ _ _ (ad 0) (ad 1) (ad 2) (ad 5) (ad 7) (ad 8) (ad 9) (ad 10) (ad 11) (ad 12) (ad 13) (ad 14) (If 0) (If 1) (If 2) b (hAd.f1 (by decide)) hC.x (hhd) (by omega)) (cwV 1 hts (gw_V w_261 w_263 s_3 w_1 w_264) rfl rfl rfl (by decide +kernel) ⟨by rw [hRf]; exact Nat.le_of_ble_eq_true rfl, by rw [hRl]; exact Nat.le_of_ble_eq_true rfl⟩) ⟨K0.blind, B.recv (hAd.1 _ (by omega)) (hC.x) rfl, B.pre _⟩ rfl rfl hl.1 rfl (lv_room (Nat.le_of_ble_eq_true rfl)) d_RR_make_51 ⟨by rw [hRc]; omega, by rw [hRs]; omega⟩) (fun r51 g51 H locs hw B => ?_)
              obtain ⟨rfl, hgf⟩ := hw
              rw [hgf] at B
              rw [if_pos (by omega)]
              refine x_if_eq (tgt := 59) hx hb d_RR_make_54 (by decide) (by omega) (fun h54 => ?_) (fun h54 => ?_)
              · exfalso; omega
              · refine x_iconst hx hb d_RR_make_57 ?_
                subst hQ hav
                exact x_iret hx hb hr hlocks B d_RR_make_58 (⟨If, Af, Rf, Zf, hC, hfr, hInv, ⟨rfl, fun _ _ => rfl⟩, rfl⟩)
    · exfalso; omega
set_option maxHeartbeats 8000000 in
set_option maxRecDepth 100000 in
theorem c_RR_make_u2 (l : Launch) (D : va_G) (cs : Nat → ClassId) (L : List Nat) (f : Nat → va_E) (sz : Nat) (ad Qm : Nat → Nat) (If : Nat → Int) (Af : Nat → Nat → Int) (Rf : Nat → Nat) (Zf : Nat → Int) (p0 : Nat) (b : Int) (hAd : AdOk L ad Qm) (hC : CSt cs ad Qm f If Af Rf Zf) (hInv : Inv If Af) (hpk : (p0 : Int) < If 0) (hbr : -2147483648 ≤ b ∧ b < 2147483648) (hun : b < 0 ∨ If 0 ≤ b) : Met l (⟨"RealRoots", "make", "(III)I"⟩ : MethodName) (.code (⟨"RealRoots", "make", "(III)I"⟩ : MethodName) prog_1_method_5_code 5 (Option.some Jvm.ClassFile.FieldType.int) :: gw) ({ frames := 7, cells := 0, slots := 0, locals := 330 }) (va_Pc [.ref ((ad 0)), .int (iI 2), .int (iI ((p0 : Int))), .int (iI b)] (K0 D vwCl (TY cs) L f sz)) (va_Qi (fun (r : Int32) (g : Nat → va_E) => ∃ (I' : Nat → Int) (A' : Nat → Nat → Int) (R' : Nat → Nat) (Z' : Nat → Int), CSt cs ad Qm g I' A' R' Z' ∧ (∀ k, Awy ad k → g k = f k) ∧ Inv I' A' ∧ SameV If Af I' A' ∧ r = iI (-1)) (K1 D vwCl (TY cs) (AL L sz) L) (AL L sz)) 0 0 (AL L sz) := by
  refine Met.ofW (cc := prog_1_method_5_code) (maxL := 5) (ret := (Option.some Jvm.ClassFile.FieldType.int)) (by decide) rfl ?_
  intro p e s m args below meth c s₁ Bd hml hv
  obtain ⟨rfl, hk0⟩ := hv
  obtain ⟨hsz, B⟩ := hk0.start
  subst hsz
  have hx := Bd.exec
  have hb := Bd.bytes
  have hr := Bd.returns
  have hlocks := Bd.notSynchronized
  have hts0 := atoms_spec Bd.pre
  have hown : s.vm.findClass RX6 = some m.cls := findClass_of_methodNamed Bd.named
  have hA : ∀ q, s.heap.size ≤ q → AL L s.heap.size q := fun _ h => Or.inr h
  have hl := lv_entry ([.ref ((ad 0)), .int (iI 2), .int (iI ((p0 : Int))), .int (iI b)]) (n := 5) (Nat.le_of_ble_eq_true rfl)
  rw [lg_entry_eq]
  generalize (lg_sl ([.ref ((ad 0)), .int (iI 2), .int (iI ((p0 : Int))), .int (iI b)]) ++ List.replicate (5 - (lg_sl ([.ref ((ad 0)), .int (iI 2), .int (iI ((p0 : Int))), .int (iI b)])).length) Slot.unset).toArray = ls at hl ⊢
  refine absQ (fun Q R av hQ hR hav => ?_)
  have hts : ∀ w ∈ gw, w.before av s = true := by rw [hav]; exact fun w h => hts0 w (List.mem_cons_of_mem _ h)
  have hRf : R.frames = 7 := by rw [hR]; rfl
  have hRl : R.locals = 330 := by rw [hR]; rfl
  have hRc : R.cells = 0 := by rw [hR]; rfl
  have hRs : R.slots = 0 := by rw [hR]; rfl
  clear hR hts0 Bd
  have hl : lv_has ls 5 [(0, .ref ((ad 0))), (1, .int (iI 2)), (2, .int (iI ((p0 : Int)))), (3, .int (iI b))] := hl
  have hfr : ∀ k, Awy ad k → f k = f k := fun _ _ => rfl
  have hG0 := hInv.1
  have hhd := hG0.1
  have hp0 : p0 < 12 := by omega
  have hVM := hG0.2.1 p0 hp0
  refine lv_iload_n hx hb d_RR_make_0 rfl (lv_at hl 1 rfl) ?_
  refine x_if_eq (tgt := 19) hx hb d_RR_make_1 (by decide) (by omega) (fun h1 => ?_) (fun h1 => ?_)
  · exfalso; omega
  · refine lv_iload_n hx hb d_RR_make_4 rfl (lv_at hl 1 rfl) ?_
    refine x_iconst hx hb d_RR_make_5 ?_
    refine x_icmp_eq (tgt := 19) hx hb d_RR_make_6 (by decide) (by omega) (by omega) (fun h6 => ?_) (fun h6 => ?_)
    · exfalso; omega
    · refine lv_iload_n hx hb d_RR_make_9 rfl (lv_at hl 1 rfl) ?_
      refine x_iconst hx hb d_RR_make_10 ?_
      refine x_icmp_eq (tgt := 19) hx hb d_RR_make_11 (by decide) (by omega) (by omega) (fun h11 => ?_) (fun h11 => ?_)
      · refine x_iconst hx hb d_RR_make_19 ?_
        refine lv_goto (tgt := 24) hx hb d_RR_make_20 (by decide) ?_
        refine lv_istore (lv' := [(4, .int (iI 1)), (0, .ref ((ad 0))), (1, .int (iI 2)), (2, .int (iI ((p0 : Int)))), (3, .int (iI b))]) hx hb d_RR_make_24 hl (by decide) rfl (fun ls hl => ?_)
        refine lv_iload_n hx hb d_RR_make_26 rfl (lv_at hl 2 rfl) ?_
        refine x_if_lt (tgt := 57) hx hb d_RR_make_27 (by decide) (by omega) (fun h27 => ?_) (fun h27 => ?_)
        · exfalso; omega
        · refine lv_iload_n hx hb d_RR_make_30 rfl (lv_at hl 2 rfl) ?_
          refine x_bipush hx hb d_RR_make_31 (by decide) ?_
          refine x_icmp_gt (tgt := 57) hx hb d_RR_make_33 (by decide) (by omega) (by omega) (fun h33 => ?_) (fun h33 => ?_)
          · exfalso; omega
          · refine lv_aload_n hx hb d_RR_make_36 rfl (lv_at hl 1 rfl) ?_
            refine lv_iload_n hx hb d_RR_make_37 rfl (lv_at hl 3 rfl) ?_
            refine x_calli B hA (va_runV (As := [.int (iI ((p0 : Int)))]) (rest := []) ⟨hx, hb, hml, hown, hts⟩ (c_RR_unknown l D cs _ _ _ (ad 0) (ad 1) (ad 2) (ad 5) (ad 7) (ad 8) (ad 9) (ad 10) (ad 11) (ad 12) (ad 13) (ad 14) (If 0) (If 1) (If 2) ((p0 : Int)) (hAd.f1 (by decide)) hC.x (hhd) (by omega)) (cwV 1 hts (gw_V w_261 w_263 s_3 w_1 w_264) rfl rfl rfl (by decide +kernel) ⟨by rw [hRf]; exact Nat.le_of_ble_eq_true rfl, by rw [hRl]; exact Nat.le_of_ble_eq_true rfl⟩) ⟨K0.blind, B.recv (hAd.1 _ (by omega)) (hC.x) rfl, B.pre _⟩ rfl rfl hl.1 rfl (lv_room (Nat.le_of_ble_eq_true rfl)) d_RR_make_38 ⟨by rw [hRc]; omega, by rw [hRs]; omega⟩) (fun r38 g38 H locs hw B => ?_)
            obtain ⟨rfl, hgf⟩ := hw
            rw [hgf] at B
            rw [if_neg (by omega)]
            refine x_if_ne (tgt := 57) hx hb d_RR_make_41 (by decide) (by omega) (fun h41 => ?_) (fun h41 => ?_)
            · exfalso; omega
            · refine lv_iload hx hb d_RR_make_44 (lv_at hl 0 rfl) ?_
              refine x_if_eq (tgt := 59) hx hb d_RR_make_46 (by decide) (by omega) (fun h46 => ?_) (fun h46 => ?_)
              · exfalso; omega
              · refine lv_aload_n hx hb d_RR_make_49 rfl (lv_at hl 1 rfl) ?_
                refine lv_iload_n hx hb d_RR_make_50 rfl (lv_at hl 4 rfl) ?_
                refine x_calli B hA (va_runV (As := [.int (iI b)]) (rest := []) ⟨hx, hb, hml, hown, hts⟩ (c_RR_unknown l D cs _ _ _ (ad 0) (ad 1) (ad 2) (ad 5) (ad 7) (ad 8) (ad 9) (ad 10) (ad 11) (ad 12) (ad 13) (ad 14) (If 0) (If 1) (If 2) b (hAd.f1 (by decide)) hC.x (hhd) (by omega)) (cwV 1 hts (gw_V w_261 w_263 s_3 w_1 w_264) rfl rfl rfl (by decide +kernel) ⟨by rw [hRf]; exact Nat.le_of_ble_eq_true rfl, by rw [hRl]; exact Nat.le_of_ble_eq_true rfl⟩) ⟨K0.blind, B.recv (hAd.1 _ (by omega)) (hC.x) rfl, B.pre _⟩ rfl rfl hl.1 rfl (lv_room (Nat.le_of_ble_eq_true rfl)) d_RR_make_51 ⟨by rw [hRc]; omega, by rw [hRs]; omega⟩) (fun r51 g51 H locs hw B => ?_)
                obtain ⟨rfl, hgf⟩ := hw
                rw [hgf] at B
                rw [if_pos (by omega)]
                refine x_if_eq (tgt := 59) hx hb d_RR_make_54 (by decide) (by omega) (fun h54 => ?_) (fun h54 => ?_)
                · exfalso; omega
                · refine x_iconst hx hb d_RR_make_57 ?_
                  subst hQ hav
                  exact x_iret hx hb hr hlocks B d_RR_make_58 (⟨If, Af, Rf, Zf, hC, hfr, hInv, ⟨rfl, fun _ _ => rfl⟩, rfl⟩)
      · exfalso; omega
set_option maxHeartbeats 8000000 in
set_option maxRecDepth 100000 in
theorem c_RR_make_u4 (l : Launch) (D : va_G) (cs : Nat → ClassId) (L : List Nat) (f : Nat → va_E) (sz : Nat) (ad Qm : Nat → Nat) (If : Nat → Int) (Af : Nat → Nat → Int) (Rf : Nat → Nat) (Zf : Nat → Int) (p0 : Nat) (b : Int) (hAd : AdOk L ad Qm) (hC : CSt cs ad Qm f If Af Rf Zf) (hInv : Inv If Af) (hpk : (p0 : Int) < If 0) (hbr : -2147483648 ≤ b ∧ b < 2147483648) (hun : b < 0 ∨ If 0 ≤ b) : Met l (⟨"RealRoots", "make", "(III)I"⟩ : MethodName) (.code (⟨"RealRoots", "make", "(III)I"⟩ : MethodName) prog_1_method_5_code 5 (Option.some Jvm.ClassFile.FieldType.int) :: gw) ({ frames := 7, cells := 0, slots := 0, locals := 330 }) (va_Pc [.ref ((ad 0)), .int (iI 4), .int (iI ((p0 : Int))), .int (iI b)] (K0 D vwCl (TY cs) L f sz)) (va_Qi (fun (r : Int32) (g : Nat → va_E) => ∃ (I' : Nat → Int) (A' : Nat → Nat → Int) (R' : Nat → Nat) (Z' : Nat → Int), CSt cs ad Qm g I' A' R' Z' ∧ (∀ k, Awy ad k → g k = f k) ∧ Inv I' A' ∧ SameV If Af I' A' ∧ r = iI (-1)) (K1 D vwCl (TY cs) (AL L sz) L) (AL L sz)) 0 0 (AL L sz) := by
  refine Met.ofW (cc := prog_1_method_5_code) (maxL := 5) (ret := (Option.some Jvm.ClassFile.FieldType.int)) (by decide) rfl ?_
  intro p e s m args below meth c s₁ Bd hml hv
  obtain ⟨rfl, hk0⟩ := hv
  obtain ⟨hsz, B⟩ := hk0.start
  subst hsz
  have hx := Bd.exec
  have hb := Bd.bytes
  have hr := Bd.returns
  have hlocks := Bd.notSynchronized
  have hts0 := atoms_spec Bd.pre
  have hown : s.vm.findClass RX6 = some m.cls := findClass_of_methodNamed Bd.named
  have hA : ∀ q, s.heap.size ≤ q → AL L s.heap.size q := fun _ h => Or.inr h
  have hl := lv_entry ([.ref ((ad 0)), .int (iI 4), .int (iI ((p0 : Int))), .int (iI b)]) (n := 5) (Nat.le_of_ble_eq_true rfl)
  rw [lg_entry_eq]
  generalize (lg_sl ([.ref ((ad 0)), .int (iI 4), .int (iI ((p0 : Int))), .int (iI b)]) ++ List.replicate (5 - (lg_sl ([.ref ((ad 0)), .int (iI 4), .int (iI ((p0 : Int))), .int (iI b)])).length) Slot.unset).toArray = ls at hl ⊢
  refine absQ (fun Q R av hQ hR hav => ?_)
  have hts : ∀ w ∈ gw, w.before av s = true := by rw [hav]; exact fun w h => hts0 w (List.mem_cons_of_mem _ h)
  have hRf : R.frames = 7 := by rw [hR]; rfl
  have hRl : R.locals = 330 := by rw [hR]; rfl
  have hRc : R.cells = 0 := by rw [hR]; rfl
  have hRs : R.slots = 0 := by rw [hR]; rfl
  clear hR hts0 Bd
  have hl : lv_has ls 5 [(0, .ref ((ad 0))), (1, .int (iI 4)), (2, .int (iI ((p0 : Int)))), (3, .int (iI b))] := hl
  have hfr : ∀ k, Awy ad k → f k = f k := fun _ _ => rfl
  have hG0 := hInv.1
  have hhd := hG0.1
  have hp0 : p0 < 12 := by omega
  have hVM := hG0.2.1 p0 hp0
  refine lv_iload_n hx hb d_RR_make_0 rfl (lv_at hl 1 rfl) ?_
  refine x_if_eq (tgt := 19) hx hb d_RR_make_1 (by decide) (by omega) (fun h1 => ?_) (fun h1 => ?_)
  · exfalso; omega
  · refine lv_iload_n hx hb d_RR_make_4 rfl (lv_at hl 1 rfl) ?_
    refine x_iconst hx hb d_RR_make_5 ?_
    refine x_icmp_eq (tgt := 19) hx hb d_RR_make_6 (by decide) (by omega) (by omega) (fun h6 => ?_) (fun h6 => ?_)
    · exfalso; omega
    · refine lv_iload_n hx hb d_RR_make_9 rfl (lv_at hl 1 rfl) ?_
      refine x_iconst hx hb d_RR_make_10 ?_
      refine x_icmp_eq (tgt := 19) hx hb d_RR_make_11 (by decide) (by omega) (by omega) (fun h11 => ?_) (fun h11 => ?_)
      · exfalso; omega
      · refine lv_iload_n hx hb d_RR_make_14 rfl (lv_at hl 1 rfl) ?_
        refine x_iconst hx hb d_RR_make_15 ?_
        refine x_icmp_ne (tgt := 23) hx hb d_RR_make_16 (by decide) (by omega) (by omega) (fun h16 => ?_) (fun h16 => ?_)
        · exfalso; omega
        · refine x_iconst hx hb d_RR_make_19 ?_
          refine lv_goto (tgt := 24) hx hb d_RR_make_20 (by decide) ?_
          refine lv_istore (lv' := [(4, .int (iI 1)), (0, .ref ((ad 0))), (1, .int (iI 4)), (2, .int (iI ((p0 : Int)))), (3, .int (iI b))]) hx hb d_RR_make_24 hl (by decide) rfl (fun ls hl => ?_)
          refine lv_iload_n hx hb d_RR_make_26 rfl (lv_at hl 2 rfl) ?_
          refine x_if_lt (tgt := 57) hx hb d_RR_make_27 (by decide) (by omega) (fun h27 => ?_) (fun h27 => ?_)
          · exfalso; omega
          · refine lv_iload_n hx hb d_RR_make_30 rfl (lv_at hl 2 rfl) ?_
            refine x_bipush hx hb d_RR_make_31 (by decide) ?_
            refine x_icmp_gt (tgt := 57) hx hb d_RR_make_33 (by decide) (by omega) (by omega) (fun h33 => ?_) (fun h33 => ?_)
            · exfalso; omega
            · refine lv_aload_n hx hb d_RR_make_36 rfl (lv_at hl 1 rfl) ?_
              refine lv_iload_n hx hb d_RR_make_37 rfl (lv_at hl 3 rfl) ?_
              refine x_calli B hA (va_runV (As := [.int (iI ((p0 : Int)))]) (rest := []) ⟨hx, hb, hml, hown, hts⟩ (c_RR_unknown l D cs _ _ _ (ad 0) (ad 1) (ad 2) (ad 5) (ad 7) (ad 8) (ad 9) (ad 10) (ad 11) (ad 12) (ad 13) (ad 14) (If 0) (If 1) (If 2) ((p0 : Int)) (hAd.f1 (by decide)) hC.x (hhd) (by omega)) (cwV 1 hts (gw_V w_261 w_263 s_3 w_1 w_264) rfl rfl rfl (by decide +kernel) ⟨by rw [hRf]; exact Nat.le_of_ble_eq_true rfl, by rw [hRl]; exact Nat.le_of_ble_eq_true rfl⟩) ⟨K0.blind, B.recv (hAd.1 _ (by omega)) (hC.x) rfl, B.pre _⟩ rfl rfl hl.1 rfl (lv_room (Nat.le_of_ble_eq_true rfl)) d_RR_make_38 ⟨by rw [hRc]; omega, by rw [hRs]; omega⟩) (fun r38 g38 H locs hw B => ?_)
              obtain ⟨rfl, hgf⟩ := hw
              rw [hgf] at B
              rw [if_neg (by omega)]
              refine x_if_ne (tgt := 57) hx hb d_RR_make_41 (by decide) (by omega) (fun h41 => ?_) (fun h41 => ?_)
              · exfalso; omega
              · refine lv_iload hx hb d_RR_make_44 (lv_at hl 0 rfl) ?_
                refine x_if_eq (tgt := 59) hx hb d_RR_make_46 (by decide) (by omega) (fun h46 => ?_) (fun h46 => ?_)
                · exfalso; omega
                · refine lv_aload_n hx hb d_RR_make_49 rfl (lv_at hl 1 rfl) ?_
                  refine lv_iload_n hx hb d_RR_make_50 rfl (lv_at hl 4 rfl) ?_
                  refine x_calli B hA (va_runV (As := [.int (iI b)]) (rest := []) ⟨hx, hb, hml, hown, hts⟩ (c_RR_unknown l D cs _ _ _ (ad 0) (ad 1) (ad 2) (ad 5) (ad 7) (ad 8) (ad 9) (ad 10) (ad 11) (ad 12) (ad 13) (ad 14) (If 0) (If 1) (If 2) b (hAd.f1 (by decide)) hC.x (hhd) (by omega)) (cwV 1 hts (gw_V w_261 w_263 s_3 w_1 w_264) rfl rfl rfl (by decide +kernel) ⟨by rw [hRf]; exact Nat.le_of_ble_eq_true rfl, by rw [hRl]; exact Nat.le_of_ble_eq_true rfl⟩) ⟨K0.blind, B.recv (hAd.1 _ (by omega)) (hC.x) rfl, B.pre _⟩ rfl rfl hl.1 rfl (lv_room (Nat.le_of_ble_eq_true rfl)) d_RR_make_51 ⟨by rw [hRc]; omega, by rw [hRs]; omega⟩) (fun r51 g51 H locs hw B => ?_)
                  obtain ⟨rfl, hgf⟩ := hw
                  rw [hgf] at B
                  rw [if_pos (by omega)]
                  refine x_if_eq (tgt := 59) hx hb d_RR_make_54 (by decide) (by omega) (fun h54 => ?_) (fun h54 => ?_)
                  · exfalso; omega
                  · refine x_iconst hx hb d_RR_make_57 ?_
                    subst hQ hav
                    exact x_iret hx hb hr hlocks B d_RR_make_58 (⟨If, Af, Rf, Zf, hC, hfr, hInv, ⟨rfl, fun _ _ => rfl⟩, rfl⟩)
set_option maxHeartbeats 8000000 in
set_option maxRecDepth 100000 in
theorem c_RR_make_b6 (l : Launch) (D : va_G) (cs : Nat → ClassId) (L : List Nat) (f : Nat → va_E) (sz : Nat) (ad Qm : Nat → Nat) (If : Nat → Int) (Af : Nat → Nat → Int) (Rf : Nat → Nat) (Zf : Nat → Int) (p0 : Nat) (b : Int) (hAd : AdOk L ad Qm) (hC : CSt cs ad Qm f If Af Rf Zf) (hInv : Inv If Af) (hpk : (p0 : Int) < If 0) (hbr : -2147483648 ≤ b ∧ b < 2147483648) (hbb : b < -1000 ∨ 1000 < b) : Met l (⟨"RealRoots", "make", "(III)I"⟩ : MethodName) (.code (⟨"RealRoots", "make", "(III)I"⟩ : MethodName) prog_1_method_5_code 5 (Option.some Jvm.ClassFile.FieldType.int) :: gw) ({ frames := 7, cells := 0, slots := 0, locals := 330 }) (va_Pc [.ref ((ad 0)), .int (iI 6), .int (iI ((p0 : Int))), .int (iI b)] (K0 D vwCl (TY cs) L f sz)) (va_Qi (fun (r : Int32) (g : Nat → va_E) => ∃ (I' : Nat → Int) (A' : Nat → Nat → Int) (R' : Nat → Nat) (Z' : Nat → Int), CSt cs ad Qm g I' A' R' Z' ∧ (∀ k, Awy ad k → g k = f k) ∧ Inv I' A' ∧ SameV If Af I' A' ∧ r = iI (-2)) (K1 D vwCl (TY cs) (AL L sz) L) (AL L sz)) 0 0 (AL L sz) := by
  refine Met.ofW (cc := prog_1_method_5_code) (maxL := 5) (ret := (Option.some Jvm.ClassFile.FieldType.int)) (by decide) rfl ?_
  intro p e s m args below meth c s₁ Bd hml hv
  obtain ⟨rfl, hk0⟩ := hv
  obtain ⟨hsz, B⟩ := hk0.start
  subst hsz
  have hx := Bd.exec
  have hb := Bd.bytes
  have hr := Bd.returns
  have hlocks := Bd.notSynchronized
  have hts0 := atoms_spec Bd.pre
  have hown : s.vm.findClass RX6 = some m.cls := findClass_of_methodNamed Bd.named
  have hA : ∀ q, s.heap.size ≤ q → AL L s.heap.size q := fun _ h => Or.inr h
  have hl := lv_entry ([.ref ((ad 0)), .int (iI 6), .int (iI ((p0 : Int))), .int (iI b)]) (n := 5) (Nat.le_of_ble_eq_true rfl)
  rw [lg_entry_eq]
  generalize (lg_sl ([.ref ((ad 0)), .int (iI 6), .int (iI ((p0 : Int))), .int (iI b)]) ++ List.replicate (5 - (lg_sl ([.ref ((ad 0)), .int (iI 6), .int (iI ((p0 : Int))), .int (iI b)])).length) Slot.unset).toArray = ls at hl ⊢
  refine absQ (fun Q R av hQ hR hav => ?_)
  have hts : ∀ w ∈ gw, w.before av s = true := by rw [hav]; exact fun w h => hts0 w (List.mem_cons_of_mem _ h)
  have hRf : R.frames = 7 := by rw [hR]; rfl
  have hRl : R.locals = 330 := by rw [hR]; rfl
  have hRc : R.cells = 0 := by rw [hR]; rfl
  have hRs : R.slots = 0 := by rw [hR]; rfl
  clear hR hts0 Bd
  have hl : lv_has ls 5 [(0, .ref ((ad 0))), (1, .int (iI 6)), (2, .int (iI ((p0 : Int)))), (3, .int (iI b))] := hl
  have hfr : ∀ k, Awy ad k → f k = f k := fun _ _ => rfl
  have hG0 := hInv.1
  have hhd := hG0.1
  have hp0 : p0 < 12 := by omega
  have hVM := hG0.2.1 p0 hp0
  refine lv_iload_n hx hb d_RR_make_0 rfl (lv_at hl 1 rfl) ?_
  refine x_if_eq (tgt := 19) hx hb d_RR_make_1 (by decide) (by omega) (fun h1 => ?_) (fun h1 => ?_)
  · exfalso; omega
  · refine lv_iload_n hx hb d_RR_make_4 rfl (lv_at hl 1 rfl) ?_
    refine x_iconst hx hb d_RR_make_5 ?_
    refine x_icmp_eq (tgt := 19) hx hb d_RR_make_6 (by decide) (by omega) (by omega) (fun h6 => ?_) (fun h6 => ?_)
    · exfalso; omega
    · refine lv_iload_n hx hb d_RR_make_9 rfl (lv_at hl 1 rfl) ?_
      refine x_iconst hx hb d_RR_make_10 ?_
      refine x_icmp_eq (tgt := 19) hx hb d_RR_make_11 (by decide) (by omega) (by omega) (fun h11 => ?_) (fun h11 => ?_)
      · exfalso; omega
      · refine lv_iload_n hx hb d_RR_make_14 rfl (lv_at hl 1 rfl) ?_
        refine x_iconst hx hb d_RR_make_15 ?_
        refine x_icmp_ne (tgt := 23) hx hb d_RR_make_16 (by decide) (by omega) (by omega) (fun h16 => ?_) (fun h16 => ?_)
        · refine x_iconst hx hb d_RR_make_23 ?_
          refine lv_istore (lv' := [(4, .int (iI 0)), (0, .ref ((ad 0))), (1, .int (iI 6)), (2, .int (iI ((p0 : Int)))), (3, .int (iI b))]) hx hb d_RR_make_24 hl (by decide) rfl (fun ls hl => ?_)
          refine lv_iload_n hx hb d_RR_make_26 rfl (lv_at hl 2 rfl) ?_
          refine x_if_lt (tgt := 57) hx hb d_RR_make_27 (by decide) (by omega) (fun h27 => ?_) (fun h27 => ?_)
          · exfalso; omega
          · refine lv_iload_n hx hb d_RR_make_30 rfl (lv_at hl 2 rfl) ?_
            refine x_bipush hx hb d_RR_make_31 (by decide) ?_
            refine x_icmp_gt (tgt := 57) hx hb d_RR_make_33 (by decide) (by omega) (by omega) (fun h33 => ?_) (fun h33 => ?_)
            · exfalso; omega
            · refine lv_aload_n hx hb d_RR_make_36 rfl (lv_at hl 1 rfl) ?_
              refine lv_iload_n hx hb d_RR_make_37 rfl (lv_at hl 3 rfl) ?_
              refine x_calli B hA (va_runV (As := [.int (iI ((p0 : Int)))]) (rest := []) ⟨hx, hb, hml, hown, hts⟩ (c_RR_unknown l D cs _ _ _ (ad 0) (ad 1) (ad 2) (ad 5) (ad 7) (ad 8) (ad 9) (ad 10) (ad 11) (ad 12) (ad 13) (ad 14) (If 0) (If 1) (If 2) ((p0 : Int)) (hAd.f1 (by decide)) hC.x (hhd) (by omega)) (cwV 1 hts (gw_V w_261 w_263 s_3 w_1 w_264) rfl rfl rfl (by decide +kernel) ⟨by rw [hRf]; exact Nat.le_of_ble_eq_true rfl, by rw [hRl]; exact Nat.le_of_ble_eq_true rfl⟩) ⟨K0.blind, B.recv (hAd.1 _ (by omega)) (hC.x) rfl, B.pre _⟩ rfl rfl hl.1 rfl (lv_room (Nat.le_of_ble_eq_true rfl)) d_RR_make_38 ⟨by rw [hRc]; omega, by rw [hRs]; omega⟩) (fun r38 g38 H locs hw B => ?_)
              obtain ⟨rfl, hgf⟩ := hw
              rw [hgf] at B
              rw [if_neg (by omega)]
              refine x_if_ne (tgt := 57) hx hb d_RR_make_41 (by decide) (by omega) (fun h41 => ?_) (fun h41 => ?_)
              · exfalso; omega
              · refine lv_iload hx hb d_RR_make_44 (lv_at hl 0 rfl) ?_
                refine x_if_eq (tgt := 59) hx hb d_RR_make_46 (by decide) (by omega) (fun h46 => ?_) (fun h46 => ?_)
                · refine lv_iload_n hx hb d_RR_make_59 rfl (lv_at hl 2 rfl) ?_
                  refine x_bipush hx hb d_RR_make_60 (by decide) ?_
                  refine x_icmp_eq (tgt := 71) hx hb d_RR_make_62 (by decide) (by omega) (by omega) (fun h62 => ?_) (fun h62 => ?_)
                  · refine lv_iload_n hx hb d_RR_make_71 rfl (lv_at hl 4 rfl) ?_
                    refine x_sipush hx hb d_RR_make_72 (by decide) ?_
                    refine x_icmp_lt (tgt := 85) hx hb d_RR_make_75 (by decide) (by omega) (by omega) (fun h75 => ?_) (fun h75 => ?_)
                    · refine x_bipush hx hb d_RR_make_85 (by decide) ?_
                      subst hQ hav
                      exact x_iret hx hb hr hlocks B d_RR_make_87 (⟨If, Af, Rf, Zf, hC, hfr, hInv, ⟨rfl, fun _ _ => rfl⟩, rfl⟩)
                    · refine lv_iload_n hx hb d_RR_make_78 rfl (lv_at hl 4 rfl) ?_
                      refine x_sipush hx hb d_RR_make_79 (by decide) ?_
                      refine x_icmp_le (tgt := 88) hx hb d_RR_make_82 (by decide) (by omega) (by omega) (fun h82 => ?_) (fun h82 => ?_)
                      · exfalso; omega
                      · refine x_bipush hx hb d_RR_make_85 (by decide) ?_
                        subst hQ hav
                        exact x_iret hx hb hr hlocks B d_RR_make_87 (⟨If, Af, Rf, Zf, hC, hfr, hInv, ⟨rfl, fun _ _ => rfl⟩, rfl⟩)
                  · exfalso; omega
                · exfalso; omega
        · exfalso; omega
set_option maxHeartbeats 8000000 in
set_option maxRecDepth 100000 in
theorem c_RR_make_b9 (l : Launch) (D : va_G) (cs : Nat → ClassId) (L : List Nat) (f : Nat → va_E) (sz : Nat) (ad Qm : Nat → Nat) (If : Nat → Int) (Af : Nat → Nat → Int) (Rf : Nat → Nat) (Zf : Nat → Int) (p0 : Nat) (b : Int) (hAd : AdOk L ad Qm) (hC : CSt cs ad Qm f If Af Rf Zf) (hInv : Inv If Af) (hpk : (p0 : Int) < If 0) (hbr : -2147483648 ≤ b ∧ b < 2147483648) (hbb : b < -1000 ∨ 1000 < b) : Met l (⟨"RealRoots", "make", "(III)I"⟩ : MethodName) (.code (⟨"RealRoots", "make", "(III)I"⟩ : MethodName) prog_1_method_5_code 5 (Option.some Jvm.ClassFile.FieldType.int) :: gw) ({ frames := 7, cells := 0, slots := 0, locals := 330 }) (va_Pc [.ref ((ad 0)), .int (iI 9), .int (iI ((p0 : Int))), .int (iI b)] (K0 D vwCl (TY cs) L f sz)) (va_Qi (fun (r : Int32) (g : Nat → va_E) => ∃ (I' : Nat → Int) (A' : Nat → Nat → Int) (R' : Nat → Nat) (Z' : Nat → Int), CSt cs ad Qm g I' A' R' Z' ∧ (∀ k, Awy ad k → g k = f k) ∧ Inv I' A' ∧ SameV If Af I' A' ∧ r = iI (-2)) (K1 D vwCl (TY cs) (AL L sz) L) (AL L sz)) 0 0 (AL L sz) := by
  refine Met.ofW (cc := prog_1_method_5_code) (maxL := 5) (ret := (Option.some Jvm.ClassFile.FieldType.int)) (by decide) rfl ?_
  intro p e s m args below meth c s₁ Bd hml hv
  obtain ⟨rfl, hk0⟩ := hv
  obtain ⟨hsz, B⟩ := hk0.start
  subst hsz
  have hx := Bd.exec
  have hb := Bd.bytes
  have hr := Bd.returns
  have hlocks := Bd.notSynchronized
  have hts0 := atoms_spec Bd.pre
  have hown : s.vm.findClass RX6 = some m.cls := findClass_of_methodNamed Bd.named
  have hA : ∀ q, s.heap.size ≤ q → AL L s.heap.size q := fun _ h => Or.inr h
  have hl := lv_entry ([.ref ((ad 0)), .int (iI 9), .int (iI ((p0 : Int))), .int (iI b)]) (n := 5) (Nat.le_of_ble_eq_true rfl)
  rw [lg_entry_eq]
  generalize (lg_sl ([.ref ((ad 0)), .int (iI 9), .int (iI ((p0 : Int))), .int (iI b)]) ++ List.replicate (5 - (lg_sl ([.ref ((ad 0)), .int (iI 9), .int (iI ((p0 : Int))), .int (iI b)])).length) Slot.unset).toArray = ls at hl ⊢
  refine absQ (fun Q R av hQ hR hav => ?_)
  have hts : ∀ w ∈ gw, w.before av s = true := by rw [hav]; exact fun w h => hts0 w (List.mem_cons_of_mem _ h)
  have hRf : R.frames = 7 := by rw [hR]; rfl
  have hRl : R.locals = 330 := by rw [hR]; rfl
  have hRc : R.cells = 0 := by rw [hR]; rfl
  have hRs : R.slots = 0 := by rw [hR]; rfl
  clear hR hts0 Bd
  have hl : lv_has ls 5 [(0, .ref ((ad 0))), (1, .int (iI 9)), (2, .int (iI ((p0 : Int)))), (3, .int (iI b))] := hl
  have hfr : ∀ k, Awy ad k → f k = f k := fun _ _ => rfl
  have hG0 := hInv.1
  have hhd := hG0.1
  have hp0 : p0 < 12 := by omega
  have hVM := hG0.2.1 p0 hp0
  refine lv_iload_n hx hb d_RR_make_0 rfl (lv_at hl 1 rfl) ?_
  refine x_if_eq (tgt := 19) hx hb d_RR_make_1 (by decide) (by omega) (fun h1 => ?_) (fun h1 => ?_)
  · exfalso; omega
  · refine lv_iload_n hx hb d_RR_make_4 rfl (lv_at hl 1 rfl) ?_
    refine x_iconst hx hb d_RR_make_5 ?_
    refine x_icmp_eq (tgt := 19) hx hb d_RR_make_6 (by decide) (by omega) (by omega) (fun h6 => ?_) (fun h6 => ?_)
    · exfalso; omega
    · refine lv_iload_n hx hb d_RR_make_9 rfl (lv_at hl 1 rfl) ?_
      refine x_iconst hx hb d_RR_make_10 ?_
      refine x_icmp_eq (tgt := 19) hx hb d_RR_make_11 (by decide) (by omega) (by omega) (fun h11 => ?_) (fun h11 => ?_)
      · exfalso; omega
      · refine lv_iload_n hx hb d_RR_make_14 rfl (lv_at hl 1 rfl) ?_
        refine x_iconst hx hb d_RR_make_15 ?_
        refine x_icmp_ne (tgt := 23) hx hb d_RR_make_16 (by decide) (by omega) (by omega) (fun h16 => ?_) (fun h16 => ?_)
        · refine x_iconst hx hb d_RR_make_23 ?_
          refine lv_istore (lv' := [(4, .int (iI 0)), (0, .ref ((ad 0))), (1, .int (iI 9)), (2, .int (iI ((p0 : Int)))), (3, .int (iI b))]) hx hb d_RR_make_24 hl (by decide) rfl (fun ls hl => ?_)
          refine lv_iload_n hx hb d_RR_make_26 rfl (lv_at hl 2 rfl) ?_
          refine x_if_lt (tgt := 57) hx hb d_RR_make_27 (by decide) (by omega) (fun h27 => ?_) (fun h27 => ?_)
          · exfalso; omega
          · refine lv_iload_n hx hb d_RR_make_30 rfl (lv_at hl 2 rfl) ?_
            refine x_bipush hx hb d_RR_make_31 (by decide) ?_
            refine x_icmp_gt (tgt := 57) hx hb d_RR_make_33 (by decide) (by omega) (by omega) (fun h33 => ?_) (fun h33 => ?_)
            · exfalso; omega
            · refine lv_aload_n hx hb d_RR_make_36 rfl (lv_at hl 1 rfl) ?_
              refine lv_iload_n hx hb d_RR_make_37 rfl (lv_at hl 3 rfl) ?_
              refine x_calli B hA (va_runV (As := [.int (iI ((p0 : Int)))]) (rest := []) ⟨hx, hb, hml, hown, hts⟩ (c_RR_unknown l D cs _ _ _ (ad 0) (ad 1) (ad 2) (ad 5) (ad 7) (ad 8) (ad 9) (ad 10) (ad 11) (ad 12) (ad 13) (ad 14) (If 0) (If 1) (If 2) ((p0 : Int)) (hAd.f1 (by decide)) hC.x (hhd) (by omega)) (cwV 1 hts (gw_V w_261 w_263 s_3 w_1 w_264) rfl rfl rfl (by decide +kernel) ⟨by rw [hRf]; exact Nat.le_of_ble_eq_true rfl, by rw [hRl]; exact Nat.le_of_ble_eq_true rfl⟩) ⟨K0.blind, B.recv (hAd.1 _ (by omega)) (hC.x) rfl, B.pre _⟩ rfl rfl hl.1 rfl (lv_room (Nat.le_of_ble_eq_true rfl)) d_RR_make_38 ⟨by rw [hRc]; omega, by rw [hRs]; omega⟩) (fun r38 g38 H locs hw B => ?_)
              obtain ⟨rfl, hgf⟩ := hw
              rw [hgf] at B
              rw [if_neg (by omega)]
              refine x_if_ne (tgt := 57) hx hb d_RR_make_41 (by decide) (by omega) (fun h41 => ?_) (fun h41 => ?_)
              · exfalso; omega
              · refine lv_iload hx hb d_RR_make_44 (lv_at hl 0 rfl) ?_
                refine x_if_eq (tgt := 59) hx hb d_RR_make_46 (by decide) (by omega) (fun h46 => ?_) (fun h46 => ?_)
                · refine lv_iload_n hx hb d_RR_make_59 rfl (lv_at hl 2 rfl) ?_
                  refine x_bipush hx hb d_RR_make_60 (by decide) ?_
                  refine x_icmp_eq (tgt := 71) hx hb d_RR_make_62 (by decide) (by omega) (by omega) (fun h62 => ?_) (fun h62 => ?_)
                  · exfalso; omega
                  · refine lv_iload_n hx hb d_RR_make_65 rfl (lv_at hl 2 rfl) ?_
                    refine x_bipush hx hb d_RR_make_66 (by decide) ?_
                    refine x_icmp_ne (tgt := 88) hx hb d_RR_make_68 (by decide) (by omega) (by omega) (fun h68 => ?_) (fun h68 => ?_)
                    · exfalso; omega
                    · refine lv_iload_n hx hb d_RR_make_71 rfl (lv_at hl 4 rfl) ?_
                      refine x_sipush hx hb d_RR_make_72 (by decide) ?_
                      refine x_icmp_lt (tgt := 85) hx hb d_RR_make_75 (by decide) (by omega) (by omega) (fun h75 => ?_) (fun h75 => ?_)
                      · refine x_bipush hx hb d_RR_make_85 (by decide) ?_
                        subst hQ hav
                        exact x_iret hx hb hr hlocks B d_RR_make_87 (⟨If, Af, Rf, Zf, hC, hfr, hInv, ⟨rfl, fun _ _ => rfl⟩, rfl⟩)
                      · refine lv_iload_n hx hb d_RR_make_78 rfl (lv_at hl 4 rfl) ?_
                        refine x_sipush hx hb d_RR_make_79 (by decide) ?_
                        refine x_icmp_le (tgt := 88) hx hb d_RR_make_82 (by decide) (by omega) (by omega) (fun h82 => ?_) (fun h82 => ?_)
                        · exfalso; omega
                        · refine x_bipush hx hb d_RR_make_85 (by decide) ?_
                          subst hQ hav
                          exact x_iret hx hb hr hlocks B d_RR_make_87 (⟨If, Af, Rf, Zf, hC, hfr, hInv, ⟨rfl, fun _ _ => rfl⟩, rfl⟩)
                · exfalso; omega
        · exfalso; omega
set_option maxHeartbeats 8000000 in
set_option maxRecDepth 100000 in
theorem c_RR_make_z5 (l : Launch) (D : va_G) (cs : Nat → ClassId) (L : List Nat) (f : Nat → va_E) (sz : Nat) (ad Qm : Nat → Nat) (If : Nat → Int) (Af : Nat → Nat → Int) (Rf : Nat → Nat) (Zf : Nat → Int) (p0 : Nat) (b : Int) (hAd : AdOk L ad Qm) (hC : CSt cs ad Qm f If Af Rf Zf) (hInv : Inv If Af) (hpk : (p0 : Int) < If 0) (hbr : -2147483648 ≤ b ∧ b < 2147483648) (hzr : ∀ j, j < 6 → Af (20 + p0) j = 0) : Met l (⟨"RealRoots", "make", "(III)I"⟩ : MethodName) (.code (⟨"RealRoots", "make", "(III)I"⟩ : MethodName) prog_1_method_5_code 5 (Option.some Jvm.ClassFile.FieldType.int) :: gw) ({ frames := 7, cells := 0, slots := 0, locals := 330 }) (va_Pc [.ref ((ad 0)), .int (iI 5), .int (iI ((p0 : Int))), .int (iI b)] (K0 D vwCl (TY cs) L f sz)) (va_Qi (fun (r : Int32) (g : Nat → va_E) => ∃ (I' : Nat → Int) (A' : Nat → Nat → Int) (R' : Nat → Nat) (Z' : Nat → Int), CSt cs ad Qm g I' A' R' Z' ∧ (∀ k, Awy ad k → g k = f k) ∧ Inv I' A' ∧ SameV If Af I' A' ∧ r = iI (-3)) (K1 D vwCl (TY cs) (AL L sz) L) (AL L sz)) 0 0 (AL L sz) := by
  refine Met.ofW (cc := prog_1_method_5_code) (maxL := 5) (ret := (Option.some Jvm.ClassFile.FieldType.int)) (by decide) rfl ?_
  intro p e s m args below meth c s₁ Bd hml hv
  obtain ⟨rfl, hk0⟩ := hv
  obtain ⟨hsz, B⟩ := hk0.start
  subst hsz
  have hx := Bd.exec
  have hb := Bd.bytes
  have hr := Bd.returns
  have hlocks := Bd.notSynchronized
  have hts0 := atoms_spec Bd.pre
  have hown : s.vm.findClass RX6 = some m.cls := findClass_of_methodNamed Bd.named
  have hA : ∀ q, s.heap.size ≤ q → AL L s.heap.size q := fun _ h => Or.inr h
  have hl := lv_entry ([.ref ((ad 0)), .int (iI 5), .int (iI ((p0 : Int))), .int (iI b)]) (n := 5) (Nat.le_of_ble_eq_true rfl)
  rw [lg_entry_eq]
  generalize (lg_sl ([.ref ((ad 0)), .int (iI 5), .int (iI ((p0 : Int))), .int (iI b)]) ++ List.replicate (5 - (lg_sl ([.ref ((ad 0)), .int (iI 5), .int (iI ((p0 : Int))), .int (iI b)])).length) Slot.unset).toArray = ls at hl ⊢
  refine absQ (fun Q R av hQ hR hav => ?_)
  have hts : ∀ w ∈ gw, w.before av s = true := by rw [hav]; exact fun w h => hts0 w (List.mem_cons_of_mem _ h)
  have hRf : R.frames = 7 := by rw [hR]; rfl
  have hRl : R.locals = 330 := by rw [hR]; rfl
  have hRc : R.cells = 0 := by rw [hR]; rfl
  have hRs : R.slots = 0 := by rw [hR]; rfl
  clear hR hts0 Bd
  have hl : lv_has ls 5 [(0, .ref ((ad 0))), (1, .int (iI 5)), (2, .int (iI ((p0 : Int)))), (3, .int (iI b))] := hl
  have hfr : ∀ k, Awy ad k → f k = f k := fun _ _ => rfl
  have hG0 := hInv.1
  have hhd := hG0.1
  have hp0 : p0 < 12 := by omega
  have hVM := hG0.2.1 p0 hp0
  refine lv_iload_n hx hb d_RR_make_0 rfl (lv_at hl 1 rfl) ?_
  refine x_if_eq (tgt := 19) hx hb d_RR_make_1 (by decide) (by omega) (fun h1 => ?_) (fun h1 => ?_)
  · exfalso; omega
  · refine lv_iload_n hx hb d_RR_make_4 rfl (lv_at hl 1 rfl) ?_
    refine x_iconst hx hb d_RR_make_5 ?_
    refine x_icmp_eq (tgt := 19) hx hb d_RR_make_6 (by decide) (by omega) (by omega) (fun h6 => ?_) (fun h6 => ?_)
    · exfalso; omega
    · refine lv_iload_n hx hb d_RR_make_9 rfl (lv_at hl 1 rfl) ?_
      refine x_iconst hx hb d_RR_make_10 ?_
      refine x_icmp_eq (tgt := 19) hx hb d_RR_make_11 (by decide) (by omega) (by omega) (fun h11 => ?_) (fun h11 => ?_)
      · exfalso; omega
      · refine lv_iload_n hx hb d_RR_make_14 rfl (lv_at hl 1 rfl) ?_
        refine x_iconst hx hb d_RR_make_15 ?_
        refine x_icmp_ne (tgt := 23) hx hb d_RR_make_16 (by decide) (by omega) (by omega) (fun h16 => ?_) (fun h16 => ?_)
        · refine x_iconst hx hb d_RR_make_23 ?_
          refine lv_istore (lv' := [(4, .int (iI 0)), (0, .ref ((ad 0))), (1, .int (iI 5)), (2, .int (iI ((p0 : Int)))), (3, .int (iI b))]) hx hb d_RR_make_24 hl (by decide) rfl (fun ls hl => ?_)
          refine lv_iload_n hx hb d_RR_make_26 rfl (lv_at hl 2 rfl) ?_
          refine x_if_lt (tgt := 57) hx hb d_RR_make_27 (by decide) (by omega) (fun h27 => ?_) (fun h27 => ?_)
          · exfalso; omega
          · refine lv_iload_n hx hb d_RR_make_30 rfl (lv_at hl 2 rfl) ?_
            refine x_bipush hx hb d_RR_make_31 (by decide) ?_
            refine x_icmp_gt (tgt := 57) hx hb d_RR_make_33 (by decide) (by omega) (by omega) (fun h33 => ?_) (fun h33 => ?_)
            · exfalso; omega
            · refine lv_aload_n hx hb d_RR_make_36 rfl (lv_at hl 1 rfl) ?_
              refine lv_iload_n hx hb d_RR_make_37 rfl (lv_at hl 3 rfl) ?_
              refine x_calli B hA (va_runV (As := [.int (iI ((p0 : Int)))]) (rest := []) ⟨hx, hb, hml, hown, hts⟩ (c_RR_unknown l D cs _ _ _ (ad 0) (ad 1) (ad 2) (ad 5) (ad 7) (ad 8) (ad 9) (ad 10) (ad 11) (ad 12) (ad 13) (ad 14) (If 0) (If 1) (If 2) ((p0 : Int)) (hAd.f1 (by decide)) hC.x (hhd) (by omega)) (cwV 1 hts (gw_V w_261 w_263 s_3 w_1 w_264) rfl rfl rfl (by decide +kernel) ⟨by rw [hRf]; exact Nat.le_of_ble_eq_true rfl, by rw [hRl]; exact Nat.le_of_ble_eq_true rfl⟩) ⟨K0.blind, B.recv (hAd.1 _ (by omega)) (hC.x) rfl, B.pre _⟩ rfl rfl hl.1 rfl (lv_room (Nat.le_of_ble_eq_true rfl)) d_RR_make_38 ⟨by rw [hRc]; omega, by rw [hRs]; omega⟩) (fun r38 g38 H locs hw B => ?_)
              obtain ⟨rfl, hgf⟩ := hw
              rw [hgf] at B
              rw [if_neg (by omega)]
              refine x_if_ne (tgt := 57) hx hb d_RR_make_41 (by decide) (by omega) (fun h41 => ?_) (fun h41 => ?_)
              · exfalso; omega
              · refine lv_iload hx hb d_RR_make_44 (lv_at hl 0 rfl) ?_
                refine x_if_eq (tgt := 59) hx hb d_RR_make_46 (by decide) (by omega) (fun h46 => ?_) (fun h46 => ?_)
                · refine lv_iload_n hx hb d_RR_make_59 rfl (lv_at hl 2 rfl) ?_
                  refine x_bipush hx hb d_RR_make_60 (by decide) ?_
                  refine x_icmp_eq (tgt := 71) hx hb d_RR_make_62 (by decide) (by omega) (by omega) (fun h62 => ?_) (fun h62 => ?_)
                  · exfalso; omega
                  · refine lv_iload_n hx hb d_RR_make_65 rfl (lv_at hl 2 rfl) ?_
                    refine x_bipush hx hb d_RR_make_66 (by decide) ?_
                    refine x_icmp_ne (tgt := 88) hx hb d_RR_make_68 (by decide) (by omega) (by omega) (fun h68 => ?_) (fun h68 => ?_)
                    · refine lv_iload_n hx hb d_RR_make_88 rfl (lv_at hl 2 rfl) ?_
                      refine x_iconst hx hb d_RR_make_89 ?_
                      refine x_icmp_eq (tgt := 99) hx hb d_RR_make_90 (by decide) (by omega) (by omega) (fun h90 => ?_) (fun h90 => ?_)
                      · refine lv_aload_n hx hb d_RR_make_99 rfl (lv_at hl 1 rfl) ?_
                        refine x_get (C := RX6) (T := TX6) (N := 14) hx hb hts inX6 hown (B.foc1 (hC.x)) (hAd.f1 (by omega)) 0 rfl rfl 0 (by decide) (hts _ w_197) (fun _ h9 => h9) rfl d_RR_make_100 ?_
                        refine lv_iload_n hx hb d_RR_make_103 rfl (lv_at hl 3 rfl) ?_
                        refine x_aald hx hb (B.foc1 (hC.c0)) (hAd.f1 (by omega)) 0 4 rfl rfl p0 (by omega) (by omega) (by decide) (rfs_at (by omega)) d_RR_make_104 ?_
                        refine x_get (C := RX2) (T := TX2) (N := 5) hx hb hts inX2 hown (B.foc1 (hC.cu (p := p0) (by omega))) (hAd.f1 (by omega)) 0 rfl rfl 0 (by decide) (hts _ w_177) (fun _ h9 => h9) rfl d_RR_make_105 ?_
                        refine x_calli B hA (va_runS (As := [.ref ((ad (27 + p0)))]) (rest := []) ⟨hx, hb, hml, hown, hts⟩ (c_RR_topOf l D cs _ _ _ (ad (27 + p0)) (Af (20 + p0)) (hAd.f1 (by have := ((Ar.va hp0)).lt; omega)) (hC.ar (Ar.va hp0)) (fun j hj => by have := hVM j hj; omega)) (va_cwS 1 hts (gw_S w_273 w_274 w_1 w_275) rfl rfl rfl (by decide +kernel) ⟨by rw [hRf]; exact Nat.le_of_ble_eq_true rfl, by rw [hRl]; exact Nat.le_of_ble_eq_true rfl⟩) ⟨K0.blind, B.pre _⟩ rfl rfl hl.1 rfl (lv_room (Nat.le_of_ble_eq_true rfl)) d_RR_make_108 ⟨by rw [hRc]; omega, by rw [hRs]; omega⟩) (fun r108 g108 H locs hw B => ?_)
                        obtain ⟨kt, rfl, hkt6, hktz, hktl, hgf⟩ := hw
                        rw [hgf] at B
                        refine x_iconst hx hb d_RR_make_111 ?_
                        refine x_icmp_ne (tgt := 118) hx hb d_RR_make_112 (by decide) (by omega) (by omega) (fun h112 => ?_) (fun h112 => ?_)
                        · first | (exfalso; omega) | exact absurd (hzr (kt - 1) (by omega)) (hktl (by omega))
                        · refine x_bipush hx hb d_RR_make_115 (by decide) ?_
                          subst hQ hav
                          exact x_iret hx hb hr hlocks B d_RR_make_117 (⟨If, Af, Rf, Zf, hC, hfr, hInv, ⟨rfl, fun _ _ => rfl⟩, rfl⟩)
                      · exfalso; omega
                    · exfalso; omega
                · exfalso; omega
        · exfalso; omega
set_option maxHeartbeats 8000000 in
set_option maxRecDepth 100000 in
theorem c_RR_make_z8 (l : Launch) (D : va_G) (cs : Nat → ClassId) (L : List Nat) (f : Nat → va_E) (sz : Nat) (ad Qm : Nat → Nat) (If : Nat → Int) (Af : Nat → Nat → Int) (Rf : Nat → Nat) (Zf : Nat → Int) (p0 : Nat) (b : Int) (hAd : AdOk L ad Qm) (hC : CSt cs ad Qm f If Af Rf Zf) (hInv : Inv If Af) (hpk : (p0 : Int) < If 0) (hbr : -2147483648 ≤ b ∧ b < 2147483648) (hzr : ∀ j, j < 6 → Af (20 + p0) j = 0) : Met l (⟨"RealRoots", "make", "(III)I"⟩ : MethodName) (.code (⟨"RealRoots", "make", "(III)I"⟩ : MethodName) prog_1_method_5_code 5 (Option.some Jvm.ClassFile.FieldType.int) :: gw) ({ frames := 7, cells := 0, slots := 0, locals := 330 }) (va_Pc [.ref ((ad 0)), .int (iI 8), .int (iI ((p0 : Int))), .int (iI b)] (K0 D vwCl (TY cs) L f sz)) (va_Qi (fun (r : Int32) (g : Nat → va_E) => ∃ (I' : Nat → Int) (A' : Nat → Nat → Int) (R' : Nat → Nat) (Z' : Nat → Int), CSt cs ad Qm g I' A' R' Z' ∧ (∀ k, Awy ad k → g k = f k) ∧ Inv I' A' ∧ SameV If Af I' A' ∧ r = iI (-3)) (K1 D vwCl (TY cs) (AL L sz) L) (AL L sz)) 0 0 (AL L sz) := by
  refine Met.ofW (cc := prog_1_method_5_code) (maxL := 5) (ret := (Option.some Jvm.ClassFile.FieldType.int)) (by decide) rfl ?_
  intro p e s m args below meth c s₁ Bd hml hv
  obtain ⟨rfl, hk0⟩ := hv
  obtain ⟨hsz, B⟩ := hk0.start
  subst hsz
  have hx := Bd.exec
  have hb := Bd.bytes
  have hr := Bd.returns
  have hlocks := Bd.notSynchronized
  have hts0 := atoms_spec Bd.pre
  have hown : s.vm.findClass RX6 = some m.cls := findClass_of_methodNamed Bd.named
  have hA : ∀ q, s.heap.size ≤ q → AL L s.heap.size q := fun _ h => Or.inr h
  have hl := lv_entry ([.ref ((ad 0)), .int (iI 8), .int (iI ((p0 : Int))), .int (iI b)]) (n := 5) (Nat.le_of_ble_eq_true rfl)
  rw [lg_entry_eq]
  generalize (lg_sl ([.ref ((ad 0)), .int (iI 8), .int (iI ((p0 : Int))), .int (iI b)]) ++ List.replicate (5 - (lg_sl ([.ref ((ad 0)), .int (iI 8), .int (iI ((p0 : Int))), .int (iI b)])).length) Slot.unset).toArray = ls at hl ⊢
  refine absQ (fun Q R av hQ hR hav => ?_)
  have hts : ∀ w ∈ gw, w.before av s = true := by rw [hav]; exact fun w h => hts0 w (List.mem_cons_of_mem _ h)
  have hRf : R.frames = 7 := by rw [hR]; rfl
  have hRl : R.locals = 330 := by rw [hR]; rfl
  have hRc : R.cells = 0 := by rw [hR]; rfl
  have hRs : R.slots = 0 := by rw [hR]; rfl
  clear hR hts0 Bd
  have hl : lv_has ls 5 [(0, .ref ((ad 0))), (1, .int (iI 8)), (2, .int (iI ((p0 : Int)))), (3, .int (iI b))] := hl
  have hfr : ∀ k, Awy ad k → f k = f k := fun _ _ => rfl
  have hG0 := hInv.1
  have hhd := hG0.1
  have hp0 : p0 < 12 := by omega
  have hVM := hG0.2.1 p0 hp0
  refine lv_iload_n hx hb d_RR_make_0 rfl (lv_at hl 1 rfl) ?_
  refine x_if_eq (tgt := 19) hx hb d_RR_make_1 (by decide) (by omega) (fun h1 => ?_) (fun h1 => ?_)
  · exfalso; omega
  · refine lv_iload_n hx hb d_RR_make_4 rfl (lv_at hl 1 rfl) ?_
    refine x_iconst hx hb d_RR_make_5 ?_
    refine x_icmp_eq (tgt := 19) hx hb d_RR_make_6 (by decide) (by omega) (by omega) (fun h6 => ?_) (fun h6 => ?_)
    · exfalso; omega
    · refine lv_iload_n hx hb d_RR_make_9 rfl (lv_at hl 1 rfl) ?_
      refine x_iconst hx hb d_RR_make_10 ?_
      refine x_icmp_eq (tgt := 19) hx hb d_RR_make_11 (by decide) (by omega) (by omega) (fun h11 => ?_) (fun h11 => ?_)
      · exfalso; omega
      · refine lv_iload_n hx hb d_RR_make_14 rfl (lv_at hl 1 rfl) ?_
        refine x_iconst hx hb d_RR_make_15 ?_
        refine x_icmp_ne (tgt := 23) hx hb d_RR_make_16 (by decide) (by omega) (by omega) (fun h16 => ?_) (fun h16 => ?_)
        · refine x_iconst hx hb d_RR_make_23 ?_
          refine lv_istore (lv' := [(4, .int (iI 0)), (0, .ref ((ad 0))), (1, .int (iI 8)), (2, .int (iI ((p0 : Int)))), (3, .int (iI b))]) hx hb d_RR_make_24 hl (by decide) rfl (fun ls hl => ?_)
          refine lv_iload_n hx hb d_RR_make_26 rfl (lv_at hl 2 rfl) ?_
          refine x_if_lt (tgt := 57) hx hb d_RR_make_27 (by decide) (by omega) (fun h27 => ?_) (fun h27 => ?_)
          · exfalso; omega
          · refine lv_iload_n hx hb d_RR_make_30 rfl (lv_at hl 2 rfl) ?_
            refine x_bipush hx hb d_RR_make_31 (by decide) ?_
            refine x_icmp_gt (tgt := 57) hx hb d_RR_make_33 (by decide) (by omega) (by omega) (fun h33 => ?_) (fun h33 => ?_)
            · exfalso; omega
            · refine lv_aload_n hx hb d_RR_make_36 rfl (lv_at hl 1 rfl) ?_
              refine lv_iload_n hx hb d_RR_make_37 rfl (lv_at hl 3 rfl) ?_
              refine x_calli B hA (va_runV (As := [.int (iI ((p0 : Int)))]) (rest := []) ⟨hx, hb, hml, hown, hts⟩ (c_RR_unknown l D cs _ _ _ (ad 0) (ad 1) (ad 2) (ad 5) (ad 7) (ad 8) (ad 9) (ad 10) (ad 11) (ad 12) (ad 13) (ad 14) (If 0) (If 1) (If 2) ((p0 : Int)) (hAd.f1 (by decide)) hC.x (hhd) (by omega)) (cwV 1 hts (gw_V w_261 w_263 s_3 w_1 w_264) rfl rfl rfl (by decide +kernel) ⟨by rw [hRf]; exact Nat.le_of_ble_eq_true rfl, by rw [hRl]; exact Nat.le_of_ble_eq_true rfl⟩) ⟨K0.blind, B.recv (hAd.1 _ (by omega)) (hC.x) rfl, B.pre _⟩ rfl rfl hl.1 rfl (lv_room (Nat.le_of_ble_eq_true rfl)) d_RR_make_38 ⟨by rw [hRc]; omega, by rw [hRs]; omega⟩) (fun r38 g38 H locs hw B => ?_)
              obtain ⟨rfl, hgf⟩ := hw
              rw [hgf] at B
              rw [if_neg (by omega)]
              refine x_if_ne (tgt := 57) hx hb d_RR_make_41 (by decide) (by omega) (fun h41 => ?_) (fun h41 => ?_)
              · exfalso; omega
              · refine lv_iload hx hb d_RR_make_44 (lv_at hl 0 rfl) ?_
                refine x_if_eq (tgt := 59) hx hb d_RR_make_46 (by decide) (by omega) (fun h46 => ?_) (fun h46 => ?_)
                · refine lv_iload_n hx hb d_RR_make_59 rfl (lv_at hl 2 rfl) ?_
                  refine x_bipush hx hb d_RR_make_60 (by decide) ?_
                  refine x_icmp_eq (tgt := 71) hx hb d_RR_make_62 (by decide) (by omega) (by omega) (fun h62 => ?_) (fun h62 => ?_)
                  · exfalso; omega
                  · refine lv_iload_n hx hb d_RR_make_65 rfl (lv_at hl 2 rfl) ?_
                    refine x_bipush hx hb d_RR_make_66 (by decide) ?_
                    refine x_icmp_ne (tgt := 88) hx hb d_RR_make_68 (by decide) (by omega) (by omega) (fun h68 => ?_) (fun h68 => ?_)
                    · refine lv_iload_n hx hb d_RR_make_88 rfl (lv_at hl 2 rfl) ?_
                      refine x_iconst hx hb d_RR_make_89 ?_
                      refine x_icmp_eq (tgt := 99) hx hb d_RR_make_90 (by decide) (by omega) (by omega) (fun h90 => ?_) (fun h90 => ?_)
                      · exfalso; omega
                      · refine lv_iload_n hx hb d_RR_make_93 rfl (lv_at hl 2 rfl) ?_
                        refine x_bipush hx hb d_RR_make_94 (by decide) ?_
                        refine x_icmp_ne (tgt := 118) hx hb d_RR_make_96 (by decide) (by omega) (by omega) (fun h96 => ?_) (fun h96 => ?_)
                        · exfalso; omega
                        · refine lv_aload_n hx hb d_RR_make_99 rfl (lv_at hl 1 rfl) ?_
                          refine x_get (C := RX6) (T := TX6) (N := 14) hx hb hts inX6 hown (B.foc1 (hC.x)) (hAd.f1 (by omega)) 0 rfl rfl 0 (by decide) (hts _ w_197) (fun _ h9 => h9) rfl d_RR_make_100 ?_
                          refine lv_iload_n hx hb d_RR_make_103 rfl (lv_at hl 3 rfl) ?_
                          refine x_aald hx hb (B.foc1 (hC.c0)) (hAd.f1 (by omega)) 0 4 rfl rfl p0 (by omega) (by omega) (by decide) (rfs_at (by omega)) d_RR_make_104 ?_
                          refine x_get (C := RX2) (T := TX2) (N := 5) hx hb hts inX2 hown (B.foc1 (hC.cu (p := p0) (by omega))) (hAd.f1 (by omega)) 0 rfl rfl 0 (by decide) (hts _ w_177) (fun _ h9 => h9) rfl d_RR_make_105 ?_
                          refine x_calli B hA (va_runS (As := [.ref ((ad (27 + p0)))]) (rest := []) ⟨hx, hb, hml, hown, hts⟩ (c_RR_topOf l D cs _ _ _ (ad (27 + p0)) (Af (20 + p0)) (hAd.f1 (by have := ((Ar.va hp0)).lt; omega)) (hC.ar (Ar.va hp0)) (fun j hj => by have := hVM j hj; omega)) (va_cwS 1 hts (gw_S w_273 w_274 w_1 w_275) rfl rfl rfl (by decide +kernel) ⟨by rw [hRf]; exact Nat.le_of_ble_eq_true rfl, by rw [hRl]; exact Nat.le_of_ble_eq_true rfl⟩) ⟨K0.blind, B.pre _⟩ rfl rfl hl.1 rfl (lv_room (Nat.le_of_ble_eq_true rfl)) d_RR_make_108 ⟨by rw [hRc]; omega, by rw [hRs]; omega⟩) (fun r108 g108 H locs hw B => ?_)
                          obtain ⟨kt, rfl, hkt6, hktz, hktl, hgf⟩ := hw
                          rw [hgf] at B
                          refine x_iconst hx hb d_RR_make_111 ?_
                          refine x_icmp_ne (tgt := 118) hx hb d_RR_make_112 (by decide) (by omega) (by omega) (fun h112 => ?_) (fun h112 => ?_)
                          · first | (exfalso; omega) | exact absurd (hzr (kt - 1) (by omega)) (hktl (by omega))
                          · refine x_bipush hx hb d_RR_make_115 (by decide) ?_
                            subst hQ hav
                            exact x_iret hx hb hr hlocks B d_RR_make_117 (⟨If, Af, Rf, Zf, hC, hfr, hInv, ⟨rfl, fun _ _ => rfl⟩, rfl⟩)
                    · exfalso; omega
                · exfalso; omega
        · exfalso; omega
