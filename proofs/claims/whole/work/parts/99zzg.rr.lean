set_option maxHeartbeats 8000000 in
set_option maxRecDepth 100000 in
theorem c_RR_compare_t (l : Launch) (D : va_G) (cs : Nat → ClassId) (L : List Nat) (f : Nat → va_E) (sz : Nat) (ad Qm : Nat → Nat) (If : Nat → Int) (Af : Nat → Nat → Int) (Rf : Nat → Nat) (Zf : Nat → Int) (p0 : Nat) (a2 a3 a4 : Int) (hAd : AdOk L ad Qm) (hC : CSt cs ad Qm f If Af Rf Zf) (hInv : Inv If Af) (hpk : (p0 : Int) < If 0) (ha2 : -2147483648 ≤ a2 ∧ a2 < 2147483648) (ha3 : -2147483648 ≤ a3 ∧ a3 < 2147483648) (ha4 : -2147483648 ≤ a4 ∧ a4 < 2147483648) (hun : a3 < 0 ∨ If 0 ≤ a3) : Met l (⟨"RealRoots", "compare", "(IIII)I"⟩ : MethodName) (.code (⟨"RealRoots", "compare", "(IIII)I"⟩ : MethodName) prog_1_method_12_code 5 (Option.some Jvm.ClassFile.FieldType.int) :: gw) ({ frames := 7, cells := 0, slots := 0, locals := 380 }) (va_Pc [.ref ((ad 0)), .int (iI ((p0 : Int))), .int (iI a2), .int (iI a3), .int (iI a4)] (K0 D vwCl (TY cs) L f sz)) (va_Qi (fun (r : Int32) (g : Nat → va_E) => ∃ (I' : Nat → Int) (A' : Nat → Nat → Int) (R' : Nat → Nat) (Z' : Nat → Int), CSt cs ad Qm g I' A' R' Z' ∧ (∀ k, Awy ad k → g k = f k) ∧ Inv I' A' ∧ SameV If Af I' A' ∧ r = iI (-9)) (K1 D vwCl (TY cs) (AL L sz) L) (AL L sz)) 0 0 (AL L sz) := by
  refine Met.ofW (cc := prog_1_method_12_code) (maxL := 5) (ret := (Option.some Jvm.ClassFile.FieldType.int)) (by decide) rfl ?_
  intro p e s m args below meth c s₁ Bd hml hv
  obtain ⟨rfl, hk0⟩ := hv
  obtain ⟨hsz, B⟩ := hk0.start
  subst hsz
  have hx := Bd.exec
  have hb := Bd.bytes
  have hr := Bd.returns
  have hlocks := Bd.notSynchronized
  have hts0 := atoms_spec Bd.pre
  have hown : s.vm.findClass RX6 = some m.cls := findClass_of_methodNamed Bd.named
  have hA : ∀ q, s.heap.size ≤ q → AL L s.heap.size q := fun _ h => Or.inr h
  have hl := lv_entry ([.ref ((ad 0)), .int (iI ((p0 : Int))), .int (iI a2), .int (iI a3), .int (iI a4)]) (n := 5) (Nat.le_of_ble_eq_true rfl)
  rw [lg_entry_eq]
  generalize (lg_sl ([.ref ((ad 0)), .int (iI ((p0 : Int))), .int (iI a2), .int (iI a3), .int (iI a4)]) ++ List.replicate (5 - (lg_sl ([.ref ((ad 0)), .int (iI ((p0 : Int))), .int (iI a2), .int (iI a3), .int (iI a4)])).length) Slot.unset).toArray = ls at hl ⊢
  refine absQ (fun Q R av hQ hR hav => ?_)
  have hts : ∀ w ∈ gw, w.before av s = true := by rw [hav]; exact fun w h => hts0 w (List.mem_cons_of_mem _ h)
  have hRf : R.frames = 7 := by rw [hR]; rfl
  have hRl : R.locals = 380 := by rw [hR]; rfl
  have hRc : R.cells = 0 := by rw [hR]; rfl
  have hRs : R.slots = 0 := by rw [hR]; rfl
  clear hR hts0 Bd
  have hl : lv_has ls 5 [(0, .ref ((ad 0))), (1, .int (iI ((p0 : Int)))), (2, .int (iI a2)), (3, .int (iI a3)), (4, .int (iI a4))] := hl
  have hfr : ∀ k, Awy ad k → f k = f k := fun _ _ => rfl
  have hG0 := hInv.1
  have hhd := hG0.1
  have hp0 : p0 < 12 := by omega
  have hVM := hG0.2.1 p0 hp0
  refine lv_iload_n hx hb d_RR_compare_0 rfl (lv_at hl 2 rfl) ?_
  refine x_if_lt (tgt := 28) hx hb d_RR_compare_1 (by decide) (by omega) (fun h1 => ?_) (fun h1 => ?_)
  · refine x_bipush hx hb d_RR_compare_28 (by decide) ?_
    subst hQ hav
    exact x_iret hx hb hr hlocks B d_RR_compare_30 (⟨If, Af, Rf, Zf, hC, hfr, hInv, ⟨rfl, fun _ _ => rfl⟩, rfl⟩)
  · refine lv_iload_n hx hb d_RR_compare_4 rfl (lv_at hl 2 rfl) ?_
    refine lv_aload_n hx hb d_RR_compare_5 rfl (lv_at hl 0 rfl) ?_
    refine lv_iload_n hx hb d_RR_compare_6 rfl (lv_at hl 1 rfl) ?_
    refine x_calli B hA (va_runV (As := [.int (iI ((p0 : Int)))]) (rest := [.int (iI a2)]) ⟨hx, hb, hml, hown, hts⟩ (c_RR_ready l D cs _ _ _ ad Qm If Af Rf Zf p0 hAd hC hInv.1 (hpk)) (cwV 1 hts (gw_V w_370 w_372 s_14 w_1 w_373) rfl rfl rfl (by decide +kernel) ⟨by rw [hRf]; exact Nat.le_of_ble_eq_true rfl, by rw [hRl]; exact Nat.le_of_ble_eq_true rfl⟩) ⟨K0.blind, B.recv (hAd.1 _ (by omega)) (hC.x) rfl, B.pre _⟩ rfl rfl hl.1 rfl (lv_room (Nat.le_of_ble_eq_true rfl)) d_RR_compare_7 ⟨by rw [hRc]; omega, by rw [hRs]; omega⟩) (fun r7 g7 H locs hw B => ?_)
    obtain ⟨Iy, Ay, Ry, Zy, hCy, hqy, hGyy, hOyy, hryy, hsyy⟩ := hw
    have hfry : ∀ k, Awy ad k → g7 k = f k := fun k hk => (hqy k hk).trans (hfr k hk)
    have B : Wb D vwCl (TY cs) L g7 (AL L s.heap.size) s H _ := B
    have hInvy := hInv.rdy (by omega) (hpk) hGyy hOyy hsyy
    have hsvy := hOyy.sv (by omega)
    rcases hryy with ⟨hzy, rfl⟩ | ⟨hny, hsty, rfl⟩
    · refine x_icmp_ge (tgt := 28) hx hb d_RR_compare_10 (by decide) (by omega) (by omega) (fun h10 => ?_) (fun h10 => ?_)
      · refine x_bipush hx hb d_RR_compare_28 (by decide) ?_
        subst hQ hav
        exact x_iret hx hb hr hlocks B d_RR_compare_30 (⟨Iy, Ay, Ry, Zy, hCy, hfry, hInvy, hsvy, rfl⟩)
      · exfalso; omega
    · obtain ⟨nmy, Ny, dpy, vy, hcry⟩ : ∃ nm N dp v, Crv Iy Ay p0 nm N dp v := by rcases hGyy.2.2 p0 (by omega) with h | ⟨_, h⟩; omega; exact h.crv
      have hVMy := hGyy.2.1 p0 (by omega)
      have hAVy := hsvy.2 p0 (by omega)
      obtain ⟨ccy, hLy, hz6y⟩ := free_laid hcry.1 hVMy hcry.2.1 hcry.2.2.2.2.1 hcry.2.2.2.2.2.1
      rw [hAVy] at hLy
      rw [hcry.2.2.1]
      have hnm5y := hcry.2.2.2.1
      refine x_icmp_ge (tgt := 28) hx hb d_RR_compare_10 (by decide) (by omega) (by omega) (fun h10 => ?_) (fun h10 => ?_)
      · refine x_bipush hx hb d_RR_compare_28 (by decide) ?_
        subst hQ hav
        exact x_iret hx hb hr hlocks B d_RR_compare_30 (⟨Iy, Ay, Ry, Zy, hCy, hfry, hInvy, hsvy, rfl⟩)
      · have hI0y := hsvy.1
        refine lv_iload hx hb d_RR_compare_13 (lv_at hl 4 rfl) ?_
        refine x_if_lt (tgt := 28) hx hb d_RR_compare_15 (by decide) (by omega) (fun h15 => ?_) (fun h15 => ?_)
        · refine x_bipush hx hb d_RR_compare_28 (by decide) ?_
          subst hQ hav
          exact x_iret hx hb hr hlocks B d_RR_compare_30 (⟨Iy, Ay, Ry, Zy, hCy, hfry, hInvy, hsvy, rfl⟩)
        · refine lv_iload hx hb d_RR_compare_18 (lv_at hl 4 rfl) ?_
          refine lv_aload_n hx hb d_RR_compare_20 rfl (lv_at hl 0 rfl) ?_
          refine lv_iload_n hx hb d_RR_compare_21 rfl (lv_at hl 3 rfl) ?_
          refine x_calli B hA (va_runV (As := [.int (iI a3)]) (rest := [.int (iI a4)]) ⟨hx, hb, hml, hown, hts⟩ (c_RR_ready_t l D cs _ _ _ (ad 0) (ad 1) (ad 2) (ad 5) (ad 7) (ad 8) (ad 9) (ad 10) (ad 11) (ad 12) (ad 13) (ad 14) (Iy 0) (Iy 1) (Iy 2) a3 (hAd.f1 (by decide)) hCy.x (by rw [hsvy.1]; exact hhd) (by omega) (by omega)) (cwV 1 hts (gw_V w_370 w_372 s_14 w_1 w_373) rfl rfl rfl (by decide +kernel) ⟨by rw [hRf]; exact Nat.le_of_ble_eq_true rfl, by rw [hRl]; exact Nat.le_of_ble_eq_true rfl⟩) ⟨K0.blind, B.recv (hAd.1 _ (by omega)) (hCy.x) rfl, B.pre _⟩ rfl rfl hl.1 rfl (lv_room (Nat.le_of_ble_eq_true rfl)) d_RR_compare_22 ⟨by rw [hRc]; omega, by rw [hRs]; omega⟩) (fun r22 g22 H locs hw B => ?_)
          obtain ⟨rfl, hgf⟩ := hw
          rw [hgf] at B
          refine x_icmp_lt (tgt := 31) hx hb d_RR_compare_25 (by decide) (by omega) (by omega) (fun h25 => ?_) (fun h25 => ?_)
          · exfalso; omega
          · refine x_bipush hx hb d_RR_compare_28 (by decide) ?_
            subst hQ hav
            exact x_iret hx hb hr hlocks B d_RR_compare_30 (⟨Iy, Ay, Ry, Zy, hCy, hfry, hInvy, hsvy, rfl⟩)
set_option maxHeartbeats 8000000 in
set_option maxRecDepth 100000 in
theorem c_RR_sign_t (l : Launch) (D : va_G) (cs : Nat → ClassId) (L : List Nat) (f : Nat → va_E) (sz : Nat) (ad Qm : Nat → Nat) (If : Nat → Int) (Af : Nat → Nat → Int) (Rf : Nat → Nat) (Zf : Nat → Int) (p0 : Nat) (a2 a3 : Int) (hAd : AdOk L ad Qm) (hC : CSt cs ad Qm f If Af Rf Zf) (hInv : Inv If Af) (hpk : (p0 : Int) < If 0) (ha2 : -2147483648 ≤ a2 ∧ a2 < 2147483648) (ha3 : -2147483648 ≤ a3 ∧ a3 < 2147483648) (hun : a2 < 0 ∨ If 0 ≤ a2) : Met l (⟨"RealRoots", "sign", "(III)I"⟩ : MethodName) (.code (⟨"RealRoots", "sign", "(III)I"⟩ : MethodName) prog_1_method_11_code 6 (Option.some Jvm.ClassFile.FieldType.int) :: gw) ({ frames := 7, cells := 0, slots := 0, locals := 380 }) (va_Pc [.ref ((ad 0)), .int (iI ((p0 : Int))), .int (iI a2), .int (iI a3)] (K0 D vwCl (TY cs) L f sz)) (va_Qi (fun (r : Int32) (g : Nat → va_E) => ∃ (I' : Nat → Int) (A' : Nat → Nat → Int) (R' : Nat → Nat) (Z' : Nat → Int), CSt cs ad Qm g I' A' R' Z' ∧ (∀ k, Awy ad k → g k = f k) ∧ Inv I' A' ∧ SameV If Af I' A' ∧ r = iI (-9)) (K1 D vwCl (TY cs) (AL L sz) L) (AL L sz)) 0 0 (AL L sz) := by
  refine Met.ofW (cc := prog_1_method_11_code) (maxL := 6) (ret := (Option.some Jvm.ClassFile.FieldType.int)) (by decide) rfl ?_
  intro p e s m args below meth c s₁ Bd hml hv
  obtain ⟨rfl, hk0⟩ := hv
  obtain ⟨hsz, B⟩ := hk0.start
  subst hsz
  have hx := Bd.exec
  have hb := Bd.bytes
  have hr := Bd.returns
  have hlocks := Bd.notSynchronized
  have hts0 := atoms_spec Bd.pre
  have hown : s.vm.findClass RX6 = some m.cls := findClass_of_methodNamed Bd.named
  have hA : ∀ q, s.heap.size ≤ q → AL L s.heap.size q := fun _ h => Or.inr h
  have hl := lv_entry ([.ref ((ad 0)), .int (iI ((p0 : Int))), .int (iI a2), .int (iI a3)]) (n := 6) (Nat.le_of_ble_eq_true rfl)
  rw [lg_entry_eq]
  generalize (lg_sl ([.ref ((ad 0)), .int (iI ((p0 : Int))), .int (iI a2), .int (iI a3)]) ++ List.replicate (6 - (lg_sl ([.ref ((ad 0)), .int (iI ((p0 : Int))), .int (iI a2), .int (iI a3)])).length) Slot.unset).toArray = ls at hl ⊢
  refine absQ (fun Q R av hQ hR hav => ?_)
  have hts : ∀ w ∈ gw, w.before av s = true := by rw [hav]; exact fun w h => hts0 w (List.mem_cons_of_mem _ h)
  have hRf : R.frames = 7 := by rw [hR]; rfl
  have hRl : R.locals = 380 := by rw [hR]; rfl
  have hRc : R.cells = 0 := by rw [hR]; rfl
  have hRs : R.slots = 0 := by rw [hR]; rfl
  clear hR hts0 Bd
  have hl : lv_has ls 6 [(0, .ref ((ad 0))), (1, .int (iI ((p0 : Int)))), (2, .int (iI a2)), (3, .int (iI a3))] := hl
  have hfr : ∀ k, Awy ad k → f k = f k := fun _ _ => rfl
  have hG0 := hInv.1
  have hhd := hG0.1
  have hp0 : p0 < 12 := by omega
  have hVM := hG0.2.1 p0 hp0
  refine lv_aload_n hx hb d_RR_sign_0 rfl (lv_at hl 0 rfl) ?_
  refine lv_iload_n hx hb d_RR_sign_1 rfl (lv_at hl 1 rfl) ?_
  refine x_calli B hA (va_runV (As := [.int (iI ((p0 : Int)))]) (rest := []) ⟨hx, hb, hml, hown, hts⟩ (c_RR_unknown l D cs _ _ _ (ad 0) (ad 1) (ad 2) (ad 5) (ad 7) (ad 8) (ad 9) (ad 10) (ad 11) (ad 12) (ad 13) (ad 14) (If 0) (If 1) (If 2) ((p0 : Int)) (hAd.f1 (by decide)) hC.x (hhd) (by omega)) (cwV 1 hts (gw_V w_261 w_263 s_3 w_1 w_264) rfl rfl rfl (by decide +kernel) ⟨by rw [hRf]; exact Nat.le_of_ble_eq_true rfl, by rw [hRl]; exact Nat.le_of_ble_eq_true rfl⟩) ⟨K0.blind, B.recv (hAd.1 _ (by omega)) (hC.x) rfl, B.pre _⟩ rfl rfl hl.1 rfl (lv_room (Nat.le_of_ble_eq_true rfl)) d_RR_sign_2 ⟨by rw [hRc]; omega, by rw [hRs]; omega⟩) (fun r2 g2 H locs hw B => ?_)
  obtain ⟨rfl, hgf⟩ := hw
  rw [hgf] at B
  rw [if_neg (by omega)]
  refine x_if_ne (tgt := 21) hx hb d_RR_sign_5 (by decide) (by omega) (fun h5 => ?_) (fun h5 => ?_)
  · exfalso; omega
  · refine lv_iload_n hx hb d_RR_sign_8 rfl (lv_at hl 3 rfl) ?_
    refine x_if_lt (tgt := 21) hx hb d_RR_sign_9 (by decide) (by omega) (fun h9 => ?_) (fun h9 => ?_)
    · refine x_bipush hx hb d_RR_sign_21 (by decide) ?_
      subst hQ hav
      exact x_iret hx hb hr hlocks B d_RR_sign_23 (⟨If, Af, Rf, Zf, hC, hfr, hInv, ⟨rfl, fun _ _ => rfl⟩, rfl⟩)
    · refine lv_iload_n hx hb d_RR_sign_12 rfl (lv_at hl 3 rfl) ?_
      refine lv_aload_n hx hb d_RR_sign_13 rfl (lv_at hl 0 rfl) ?_
      refine lv_iload_n hx hb d_RR_sign_14 rfl (lv_at hl 2 rfl) ?_
      refine x_calli B hA (va_runV (As := [.int (iI a2)]) (rest := [.int (iI a3)]) ⟨hx, hb, hml, hown, hts⟩ (c_RR_ready_t l D cs _ _ _ (ad 0) (ad 1) (ad 2) (ad 5) (ad 7) (ad 8) (ad 9) (ad 10) (ad 11) (ad 12) (ad 13) (ad 14) (If 0) (If 1) (If 2) a2 (hAd.f1 (by decide)) hC.x (hhd) (by omega) (by omega)) (cwV 1 hts (gw_V w_370 w_372 s_14 w_1 w_373) rfl rfl rfl (by decide +kernel) ⟨by rw [hRf]; exact Nat.le_of_ble_eq_true rfl, by rw [hRl]; exact Nat.le_of_ble_eq_true rfl⟩) ⟨K0.blind, B.recv (hAd.1 _ (by omega)) (hC.x) rfl, B.pre _⟩ rfl rfl hl.1 rfl (lv_room (Nat.le_of_ble_eq_true rfl)) d_RR_sign_15 ⟨by rw [hRc]; omega, by rw [hRs]; omega⟩) (fun r15 g15 H locs hw B => ?_)
      obtain ⟨rfl, hgf⟩ := hw
      rw [hgf] at B
      refine x_icmp_lt (tgt := 24) hx hb d_RR_sign_18 (by decide) (by omega) (by omega) (fun h18 => ?_) (fun h18 => ?_)
      · exfalso; omega
      · refine x_bipush hx hb d_RR_sign_21 (by decide) ?_
        subst hQ hav
        exact x_iret hx hb hr hlocks B d_RR_sign_23 (⟨If, Af, Rf, Zf, hC, hfr, hInv, ⟨rfl, fun _ _ => rfl⟩, rfl⟩)
